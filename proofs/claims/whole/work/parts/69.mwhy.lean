/-! ===== the reference: why, the call ===== -/
def msr (n z : Nat) : Nat := (60 - n) * 20600 + z
theorem msr_z {n z z' : Nat} (h : z < z') : msr n z < msr n z' := Nat.add_lt_add_left h _
theorem msr_n {n z z' : Nat} (hn : n < 60) (h : z < 20545) : msr (n + 1) z < msr n z' := by
  unfold msr
  obtain ⟨d, hd⟩ : ∃ d, 60 - n = d + 1 := ⟨59 - n, by omega⟩
  rw [hd, show 60 - (n + 1) = d by omega, Nat.succ_mul]
  omega
theorem GoF.trans {I I1 I2 : MI} (h : GoF I I1) (g : GoF I1 I2) : GoF I I2 := ⟨fun i a b c d e f k => (g.1 i a b c d e f k).trans (h.1 i a b c d e f k), fun k a b => (g.2 k a b).trans (h.2 k a b)⟩
theorem RA.why {K U I I' : MI} (h : RA K I) (kn : ∀ i, i ≠ 44 → i ≠ 45 → U i = K i) (im : ∀ i, 53 ≤ i → (i ≤ 77 ∨ i = 94) → I' i = I i) (f : ∀ k, k ≠ 54 → k ≠ 56 → k ≠ 57 → k ≠ 58 → k ≠ 59 → k ≠ 60 → k ≠ 61 → I' 52 k = I 52 k) (hr : RRe U I') : RA U I' := by
  obtain ⟨h1, h2, h3, h4, h5, h6, h7, h8⟩ := h
  refine ⟨?_, ?_, ?_, ?_, ?_, ?_, hr, ?_⟩
  · unfold RTh; rw [kn 1 (by decide) (by decide), kn 2 (by decide) (by decide), f 1 (by decide) (by decide) (by decide) (by decide) (by decide) (by decide) (by decide), im 53 (by decide) (by decide)]; exact h1
  · unfold RRu; rw [kn 4 (by decide) (by decide), kn 5 (by decide) (by decide), kn 6 (by decide) (by decide), kn 7 (by decide) (by decide), im 54 (by decide) (by decide), im 55 (by decide) (by decide), im 56 (by decide) (by decide), im 57 (by decide) (by decide), im 58 (by decide) (by decide)]; exact h2
  · unfold RPr; rw [kn 10 (by decide) (by decide), kn 11 (by decide) (by decide), kn 12 (by decide) (by decide), kn 13 (by decide) (by decide), kn 14 (by decide) (by decide), kn 15 (by decide) (by decide), kn 16 (by decide) (by decide), f 13 (by decide) (by decide) (by decide) (by decide) (by decide) (by decide) (by decide), im 59 (by decide) (by decide), im 60 (by decide) (by decide), im 61 (by decide) (by decide), im 62 (by decide) (by decide), im 63 (by decide) (by decide), im 64 (by decide) (by decide)]; exact h3
  · unfold RLg; rw [kn 10 (by decide) (by decide), kn 20 (by decide) (by decide), kn 21 (by decide) (by decide), f 17 (by decide) (by decide) (by decide) (by decide) (by decide) (by decide) (by decide), f 18 (by decide) (by decide) (by decide) (by decide) (by decide) (by decide) (by decide), im 65 (by decide) (by decide), im 66 (by decide) (by decide), im 67 (by decide) (by decide)]; exact h4
  · unfold RDr; rw [kn 22 (by decide) (by decide), kn 23 (by decide) (by decide), kn 24 (by decide) (by decide), kn 25 (by decide) (by decide), kn 26 (by decide) (by decide), kn 27 (by decide) (by decide), kn 28 (by decide) (by decide), kn 29 (by decide) (by decide), kn 30 (by decide) (by decide), f 29 (by decide) (by decide) (by decide) (by decide) (by decide) (by decide) (by decide), f 30 (by decide) (by decide) (by decide) (by decide) (by decide) (by decide) (by decide), im 68 (by decide) (by decide), im 69 (by decide) (by decide), im 70 (by decide) (by decide), im 71 (by decide) (by decide), im 72 (by decide) (by decide), im 73 (by decide) (by decide), im 74 (by decide) (by decide), im 75 (by decide) (by decide), im 76 (by decide) (by decide)]; exact h5
  · unfold RSc; rw [kn 0 (by decide) (by decide), kn 51 (by decide) (by decide), f 19 (by decide) (by decide) (by decide) (by decide) (by decide) (by decide) (by decide), f 31 (by decide) (by decide) (by decide) (by decide) (by decide) (by decide) (by decide), im 77 (by decide) (by decide)]; exact h6
  · unfold RRo; rw [kn 48 (by decide) (by decide), kn 49 (by decide) (by decide), f 64 (by decide) (by decide) (by decide) (by decide) (by decide) (by decide) (by decide), im 94 (by decide) (by decide)]; exact h8
theorem l_whyl {N : Nat} {I : MI} {J : MJ} {K : MI} {L : MJ} {cp : Nat → Bool} {v : SV} {pn s0 : Nat} {c : Nat → Int} {T0 : List Int} {th rl t : Int} {Q : Option AV → M5 → Prop} (cont : ∀ (n : Nat) (w : Nat) (I' : MI) (J' : MJ), RMm K L cp v pn c I' J' → RsP K L cp v pn c T0 I' n w [] → (w = 0 ∨ n = 60) → GoF I I' → (∀ i, i ≠ 85 → J' i = J i) → V 187 (125, [some (aR 52), some (aI th), some (aI rl), some (aI (pn : Int)), some (aI t), some (aI (s0 : Int))], [], MM N I' J') Q) : ∀ (k n w : Nat) (I' : MI) (J' : MJ), (∀ a b : Nat, 0 < w → I' 91 (w - 1) = (a : Int) → I' 92 (w - 1) = (b : Int) → msr n (mz K cp v pn c a b) < k) → RMm K L cp v pn c I' J' → RsP K L cp v pn c T0 I' n w [] → GoF I I' → (∀ i, i ≠ 85 → J' i = J i) → V 187 (101, [some (aR 52), some (aI th), some (aI rl), some (aI (pn : Int)), some (aI t), some (aI (s0 : Int))], [], MM N I' J') Q := by
  intro k
  induction k with
  | zero =>
    intro n w I' J' hk hM hR hF hj
    have r1 := hR.1
    have r2 := hR.2.1
    have r3 := hR.2.2.1
    refine V.blk [(101, .aload 0, 1), (102, .getfield 10054, 3), (105, .ifCond .le 125, 3)] (ps := []) (z' := (brc .le (I' 52 54) 0 125 108, [some (aR 52), some (aI th), some (aI rl), some (aI (pn : Int)), some (aI t), some (aI (s0 : Int))], [], MM N I' J')) (by decide +kernel) rfl trivial ?_
    refine V.le (fun bh1 => ?_) (fun bh2 => ?_)
    · skip
      first
        | exact cont n w I' J' hM hR (Or.inl (by omega)) hF hj
        | exact cont n w I' J' hM hR (Or.inr (by omega)) hF hj
    · skip
      refine V.blk [(108, .aload 0, 1), (109, .getfield 10056, 3), (112, .bipush 60, 2), (114, .if_icmp .ge 125, 3)] (ps := []) (z' := (brc .ge (I' 52 56) 60 125 117, [some (aR 52), some (aI th), some (aI rl), some (aI (pn : Int)), some (aI t), some (aI (s0 : Int))], [], MM N I' J')) (by decide +kernel) rfl trivial ?_
      refine V.ge (fun bh3 => ?_) (fun bh4 => ?_)
      · skip
        first
          | exact cont n w I' J' hM hR (Or.inl (by omega)) hF hj
          | exact cont n w I' J' hM hR (Or.inr (by omega)) hF hj
      · skip
        obtain ⟨w0, rfl⟩ : ∃ w0, w = w0 + 1 := ⟨w - 1, by omega⟩
        obtain ⟨ta, tb1, ta1, ta2, ta3, ta4⟩ := hR.2.2.2.1 w0 (by omega)
        have hkk := hk ta tb1 (by omega) ta1 ta2
        exact absurd hkk (Nat.not_lt_zero _)
  | succ k ih =>
    intro n w I' J' hk hM hR hF hj
    have r1 := hR.1
    have r2 := hR.2.1
    have r3 := hR.2.2.1
    refine V.blk [(101, .aload 0, 1), (102, .getfield 10054, 3), (105, .ifCond .le 125, 3)] (ps := []) (z' := (brc .le (I' 52 54) 0 125 108, [some (aR 52), some (aI th), some (aI rl), some (aI (pn : Int)), some (aI t), some (aI (s0 : Int))], [], MM N I' J')) (by decide +kernel) rfl trivial ?_
    refine V.le (fun bh1 => ?_) (fun bh2 => ?_)
    · skip
      first
        | exact cont n w I' J' hM hR (Or.inl (by omega)) hF hj
        | exact cont n w I' J' hM hR (Or.inr (by omega)) hF hj
    · skip
      refine V.blk [(108, .aload 0, 1), (109, .getfield 10056, 3), (112, .bipush 60, 2), (114, .if_icmp .ge 125, 3)] (ps := []) (z' := (brc .ge (I' 52 56) 60 125 117, [some (aR 52), some (aI th), some (aI rl), some (aI (pn : Int)), some (aI t), some (aI (s0 : Int))], [], MM N I' J')) (by decide +kernel) rfl trivial ?_
      refine V.ge (fun bh3 => ?_) (fun bh4 => ?_)
      · skip
        first
          | exact cont n w I' J' hM hR (Or.inl (by omega)) hF hj
          | exact cont n w I' J' hM hR (Or.inr (by omega)) hF hj
      · skip
        obtain ⟨w0, rfl⟩ : ∃ w0, w = w0 + 1 := ⟨w - 1, by omega⟩
        obtain ⟨ta, tb1, ta1, ta2, ta3, ta4⟩ := hR.2.2.2.1 w0 (by omega)
        have hkk := hk ta tb1 (by omega) ta1 ta2
        refine V.blk [(117, .aload 0, 1), (118, .iload 3, 1)] (ps := []) (z' := (119, [some (aR 52), some (aI th), some (aI rl), some (aI (pn : Int)), some (aI t), some (aI (s0 : Int))], [aI (pn : Int), aR 52], MM N I' J')) (by decide +kernel) rfl trivial ?_
        refine V.cv (c := 186) (na := 2) (o := 10) (a := 52) [aI (pn : Int)] [] (by decide +kernel) rfl rfl rfl rfl rfl ((m_goesOn hM hR (by omega)).mono (fun rv M1 q => ?_))
        obtain ⟨rfl, I2, J2, n2, w2, rfl, g1, g2, g3, g4, g5⟩ := q
        unfold GoD at g5
        show V 187 (122, [some (aR 52), some (aI th), some (aI rl), some (aI (pn : Int)), some (aI t), some (aI (s0 : Int))], [], MM N I2 J2) _
        refine V.blk [(122, .goto 101, 3)] (ps := []) (z' := (101, [some (aR 52), some (aI th), some (aI rl), some (aI (pn : Int)), some (aI t), some (aI (s0 : Int))], [], MM N I2 J2)) (by decide +kernel) rfl trivial ?_
        refine ih n2 w2 I2 J2 (fun a b x1 x2 x3 => ?_) g1 g2 (hF.trans g3) (fun i a => (g4 i a).trans (hj i a))
        rw [show (I' 91 w0).toNat = ta by omega, show (I' 92 w0).toNat = tb1 by omega] at g5
        rcases g5 with g5 | ⟨g5, a2, b2, y0, y1, y2, y3⟩
        · obtain ⟨a2, b2, y1, y2, -, y4⟩ := g2.2.2.2.1 (w2 - 1) (by omega)
          have ea : a2 = a := by omega
          have eb : b2 = b := by omega
          subst ea
          subst eb
          rw [g5]
          exact Nat.lt_of_lt_of_le (msr_n (z' := mz K cp v pn c ta tb1) (by omega) (by omega)) (Nat.le_of_lt_succ hkk)
        · have ea : a2 = a := by omega
          have eb : b2 = b := by omega
          subst ea
          subst eb
          rw [g5]
          exact Nat.lt_of_lt_of_le (msr_z y3) (Nat.le_of_lt_succ hkk)
def whM (K : MI) (I : MI) (z pe t : Int) : MI := ma (ma K 45 (I 93)) 44 (ma (ma (ma (ma (K 44) 5 (I 52 56)) 6 z) 7 pe) 8 t)
theorem whM_f (K I : MI) (z pe t : Int) : (∀ i, i ≠ 44 → i ≠ 45 → whM K I z pe t i = K i) ∧ whM K I z pe t 44 5 = I 52 56 ∧ whM K I z pe t 44 6 = z ∧ whM K I z pe t 44 7 = pe ∧ whM K I z pe t 44 8 = t ∧ whM K I z pe t 45 = I 93 := by
  unfold whM
  refine ⟨fun i a b => ?_, ?_, ?_, ?_, ?_, ?_⟩
  · rw [ma_ne _ _ a, ma_ne _ _ b]
  · rw [ma_self, ma_ne _ _ (by decide), ma_ne _ _ (by decide), ma_ne _ _ (by decide), ma_self]
  · rw [ma_self, ma_ne _ _ (by decide), ma_ne _ _ (by decide), ma_self]
  · rw [ma_self, ma_ne _ _ (by decide), ma_self]
  · rw [ma_self, ma_self]
  · rw [ma_ne _ _ (by decide), ma_self]
theorem m_X10_why {N : Nat} {I : MI} {J : MJ} {K : MI} {L : MJ} {th rl pe t : Int} (hX : WX K L) (hA : RA K I) (hr : RfM I) (hV : Vok I) (hC : CA K L I J) : CT 187 [aR 52, aI th, aI rl, aI pe, aI t] (MM N I J) (fun r M' => ∃ a U I' J', r = some a ∧ M' = MM N I' J' ∧ WhyR K L th rl pe t a U ∧ PO U L I I' J') := by
  have h40 := hX.prOK.1
  have g1 : I 52 1 = K 1 1 := hA.1.1
  have g18 : I 52 18 = K 10 13 := hA.2.2.2.1.2.1
  have h400 := hX.1.1
  refine CT.ofV (n := 6) (ls := [some (aR 52), some (aI th), some (aI rl), some (aI pe), some (aI t), none]) rfl rfl rfl ?_
  refine V.blk [(0, .aload 0, 1), (1, .iload 1, 1), (2, .iload 2, 1)] (ps := []) (z' := (3, [some (aR 52), some (aI th), some (aI rl), some (aI pe), some (aI t), none], [aI rl, aI th, aR 52], MM N I J)) (by decide +kernel) rfl trivial ?_
  refine V.cv (c := 172) (na := 3) (o := 10) (a := 52) [aI rl, aI th] [] (by decide +kernel) rfl rfl rfl rfl rfl (V.pr (m_X10_isCell) ?_)
  show V 187 (6, [some (aR 52), some (aI th), some (aI rl), some (aI pe), some (aI t), none], [aI (b2 (decide (0 ≤ th ∧ th < I 52 1 ∧ 0 ≤ rl ∧ rl < 8)))], MM N I J) _
  refine V.blk [(6, .ifCond .eq 25, 3)] (ps := []) (z' := (brc .eq (b2 (decide (0 ≤ th ∧ th < I 52 1 ∧ 0 ≤ rl ∧ rl < 8))) 0 25 9, [some (aR 52), some (aI th), some (aI rl), some (aI pe), some (aI t), none], [], MM N I J)) (by decide +kernel) rfl trivial ?_
  refine V.eq (fun bh1 => ?_) (fun bh2 => ?_)
  · skip
    try simp only [b2_cast, b2_ncast, Classical.not_not, lcm_lt, lcm_ge, lcm_gt, lcm_le, lcm_eq, b2_0, b2_n0, Bool.not_eq_false, Bool.not_eq_true, decide_eq_true_eq, decide_eq_false_iff_not] at bh1
    refine V.blk [(25, .aload 0, 1), (26, .bipush (-3), 2)] (ps := []) (z' := (28, [some (aR 52), some (aI th), some (aI rl), some (aI pe), some (aI t), none], [aI (-3), aR 52], MM N I J)) (by decide +kernel) rfl trivial ?_
    refine V.cv (c := 116) (na := 2) (o := 10) (a := 52) [aI (-3)] [] (by decide +kernel) rfl rfl rfl rfl rfl ((m_no (by assumption) (by omega)).mono (fun rv M1 q => ?_))
    obtain ⟨rfl, rfl⟩ := q
    show V 187 (31, [some (aR 52), some (aI th), some (aI rl), some (aI pe), some (aI t), none], [aI (-3)], MM N ((noU I (-3))) J) _
    refine V.nI (fun I3 eI3 => ?_)
    refine V.ri (by decide +kernel) ?_
    have hno : ¬ (cellP K th rl ∧ (0 ≤ pe ∧ pe < 40) ∧ turnP K t) := by unfold cellP turnP; omega
    refine ⟨_, rfU K (-3), noU I (-3), J, rfl, by subst_vars; rfl, ⟨fun _ => ⟨rfl, rfl⟩, fun w => absurd w hno⟩, PO.no hA hV hC (by decide)⟩
  · skip
    try simp only [b2_cast, b2_ncast, Classical.not_not, lcm_lt, lcm_ge, lcm_gt, lcm_le, lcm_eq, b2_0, b2_n0, Bool.not_eq_false, Bool.not_eq_true, decide_eq_true_eq, decide_eq_false_iff_not] at bh2
    refine V.blk [(9, .iload 3, 1)] (ps := []) (z' := (10, [some (aR 52), some (aI th), some (aI rl), some (aI pe), some (aI t), none], [aI pe], MM N I J)) (by decide +kernel) rfl trivial ?_
    refine V.cs (c := 119) (na := 1) [aI pe] [] (by decide +kernel) rfl rfl (V.pr (m_X10_isPerson) ?_)
    show V 187 (13, [some (aR 52), some (aI th), some (aI rl), some (aI pe), some (aI t), none], [aI (b2 (decide (0 ≤ pe ∧ pe < 40)))], MM N I J) _
    refine V.blk [(13, .ifCond .eq 25, 3)] (ps := []) (z' := (brc .eq (b2 (decide (0 ≤ pe ∧ pe < 40))) 0 25 16, [some (aR 52), some (aI th), some (aI rl), some (aI pe), some (aI t), none], [], MM N I J)) (by decide +kernel) rfl trivial ?_
    refine V.eq (fun bh4 => ?_) (fun bh5 => ?_)
    · skip
      try simp only [b2_cast, b2_ncast, Classical.not_not, lcm_lt, lcm_ge, lcm_gt, lcm_le, lcm_eq, b2_0, b2_n0, Bool.not_eq_false, Bool.not_eq_true, decide_eq_true_eq, decide_eq_false_iff_not] at bh4
      refine V.blk [(25, .aload 0, 1), (26, .bipush (-3), 2)] (ps := []) (z' := (28, [some (aR 52), some (aI th), some (aI rl), some (aI pe), some (aI t), none], [aI (-3), aR 52], MM N I J)) (by decide +kernel) rfl trivial ?_
      refine V.cv (c := 116) (na := 2) (o := 10) (a := 52) [aI (-3)] [] (by decide +kernel) rfl rfl rfl rfl rfl ((m_no (by assumption) (by omega)).mono (fun rv M1 q => ?_))
      obtain ⟨rfl, rfl⟩ := q
      show V 187 (31, [some (aR 52), some (aI th), some (aI rl), some (aI pe), some (aI t), none], [aI (-3)], MM N ((noU I (-3))) J) _
      refine V.nI (fun I6 eI6 => ?_)
      refine V.ri (by decide +kernel) ?_
      have hno : ¬ (cellP K th rl ∧ (0 ≤ pe ∧ pe < 40) ∧ turnP K t) := by unfold cellP turnP; omega
      refine ⟨_, rfU K (-3), noU I (-3), J, rfl, by subst_vars; rfl, ⟨fun _ => ⟨rfl, rfl⟩, fun w => absurd w hno⟩, PO.no hA hV hC (by decide)⟩
    · skip
      try simp only [b2_cast, b2_ncast, Classical.not_not, lcm_lt, lcm_ge, lcm_gt, lcm_le, lcm_eq, b2_0, b2_n0, Bool.not_eq_false, Bool.not_eq_true, decide_eq_true_eq, decide_eq_false_iff_not] at bh5
      refine V.blk [(16, .aload 0, 1), (17, .iload 4, 2)] (ps := []) (z' := (19, [some (aR 52), some (aI th), some (aI rl), some (aI pe), some (aI t), none], [aI t, aR 52], MM N I J)) (by decide +kernel) rfl trivial ?_
      refine V.cv (c := 120) (na := 2) (o := 10) (a := 52) [aI t] [] (by decide +kernel) rfl rfl rfl rfl rfl (V.pr (m_X10_isTurn) ?_)
      show V 187 (22, [some (aR 52), some (aI th), some (aI rl), some (aI pe), some (aI t), none], [aI (b2 (decide (0 ≤ t ∧ t ≤ I 52 18)))], MM N I J) _
      refine V.blk [(22, .ifCond .ne 32, 3)] (ps := []) (z' := (brc .ne (b2 (decide (0 ≤ t ∧ t ≤ I 52 18))) 0 32 25, [some (aR 52), some (aI th), some (aI rl), some (aI pe), some (aI t), none], [], MM N I J)) (by decide +kernel) rfl trivial ?_
      refine V.ne (fun bh7 => ?_) (fun bh8 => ?_)
      · skip
        try simp only [b2_cast, b2_ncast, Classical.not_not, lcm_lt, lcm_ge, lcm_gt, lcm_le, lcm_eq, b2_0, b2_n0, Bool.not_eq_false, Bool.not_eq_true, decide_eq_true_eq, decide_eq_false_iff_not] at bh7
        obtain ⟨pn, rfl⟩ : ∃ pn : Nat, pe = (pn : Int) := ⟨pe.toNat, by omega⟩
        refine V.blk [(32, .aload 0, 1), (33, .iload 4, 2)] (ps := []) (z' := (35, [some (aR 52), some (aI th), some (aI rl), some (aI (pn : Int)), some (aI t), none], [aI t, aR 52], MM N I J)) (by decide +kernel) rfl trivial ?_
        refine V.cv (c := 171) (na := 2) (o := 10) (a := 52) [aI t] [] (by decide +kernel) rfl rfl rfl rfl rfl ((m_look hX hA hV hC).mono (fun rv M1 q => ?_))
        obtain ⟨rfl, IL, JL, rfl, hL⟩ := q
        have hAL := hL.ra hA
        have hVL := hL.vok hV
        have hPL := hL.po hA hV
        have hrL : RfM IL := by unfold RfM; rw [hL.1 77 (by decide) (by decide) (by decide) (by decide) (by decide) (by decide) (by decide) (by decide)]; exact hr
        obtain ⟨hL1, hL2, hL3, hL4, hL5, hLS, hLC⟩ := id hL
        have hCA2 := hL.ca
        have hcel : cellP K th rl := by unfold cellP; omega
        have htu : turnP K t := by unfold turnP; omega
        show V 187 (38, [some (aR 52), some (aI th), some (aI rl), some (aI (pn : Int)), some (aI t), none], [], MM N IL JL) _
        refine V.blk [(38, .bipush 8, 2), (40, .iload 1, 1), (41, .imul, 1), (42, .iload 2, 1), (43, .iadd, 1)] (ps := [inR (8 * th), inR ((8 * th) + rl)]) (z' := (44, [some (aR 52), some (aI th), some (aI rl), some (aI (pn : Int)), some (aI t), none], [aI ((8 * th) + rl)], MM N IL JL)) (by decide +kernel) rfl (show (inR (8 * th)) ∧ (inR ((8 * th) + rl)) from ⟨(by unfold inR; omega), (by unfold inR; omega)⟩) ?_
        obtain ⟨s0, es0⟩ : ∃ s0 : Nat, 8 * th + rl = (s0 : Int) := ⟨(8 * th + rl).toNat, by omega⟩
        have hs8 : (s0 : Int) < K 1 1 * 8 := by omega
        have es1 : (th * 8 + rl).toNat = s0 := by omega
        rw [es0]
        have hbit := shrl_0 (JL 83 s0) (k := pn) (by omega)
        have hvs : vw (JL 83) s0 = JL 83 s0 := vw_lt (by omega)
        refine V.blk [(44, .istore 5, 2), (46, .aload 0, 1), (47, .getfield 10044, 3), (50, .iload 5, 2), (52, .laload, 1), (53, .iload 3, 1), (54, .lshr, 1), (55, .jsr_w 1, 1), (56, .land, 1), (57, .jsr_w 0, 1), (58, .lcmp, 1), (59, .ifCond .ne 69, 3)] (ps := [0 ≤ (s0 : Int) ∧ (s0 : Int) < 320, 0 ≤ (pn : Int) ∧ (pn : Int) < 64]) (z' := (brc .ne (lcm ((shrl (JL 83 s0) (pn : Int)) &&& (Int64.ofInt 1)) (Int64.ofInt 0)) 0 69 62, [some (aR 52), some (aI th), some (aI rl), some (aI (pn : Int)), some (aI t), some (aI (s0 : Int))], [], MM N IL JL)) (by decide +kernel) rfl (show (0 ≤ (s0 : Int) ∧ (s0 : Int) < 320) ∧ (0 ≤ (pn : Int) ∧ (pn : Int) < 64) from ⟨(by omega), (by omega)⟩) ?_
        refine V.ne (fun bh9 => ?_) (fun bh10 => ?_)
        · skip
          try simp only [b2_cast, b2_ncast, Classical.not_not, lcm_lt, lcm_ge, lcm_gt, lcm_le, lcm_eq, b2_0, b2_n0, Bool.not_eq_false, Bool.not_eq_true, decide_eq_true_eq, decide_eq_false_iff_not] at bh9
          have hpn : pn < 64 := by omega
          have hbt : tb (vw (JL 83) s0) pn = true := by
            rw [hvs]
            by_cases c : tb (JL 83 s0) pn = true
            · exact c
            · exact absurd (show shrl (JL 83 s0) (pn : Int) &&& Int64.ofInt 1 = Int64.ofInt 0 from hbit.mpr (by simpa using c)) (by assumption)
          have hS := hX.ScP
          have hSH : SH K L (cnB K t (K 0 11) (-1)) IL := ⟨hX.EdH hAL, hS, hLC⟩
          have hz0 : ∀ s : Nat, s < 320 → K 1 1 * 8 ≤ (s : Int) → vw (JL 83) s = Int64.ofInt 0 := fun s _ h => sets_out hLS h
          have hzz : ∀ s : Nat, s < 320 → ¬ ((s : Int) < K 1 1 * 8 ∧ K 7 (kS K s) ≠ -1) → JL 83 s = Int64.ofInt 0 := fun s hs h => by
            rw [← vw_lt (f := JL 83) hs]
            by_cases c : (s : Int) < K 1 1 * 8
            · rw [← sets_fix hS hLS c]
              unfold tellV
              rw [if_pos]
              apply Classical.byContradiction
              intro w
              exact h ⟨c, w⟩
            · exact hz0 s hs (by omega)
          refine V.blk [(69, .aload 0, 1), (70, .iload 3, 1)] (ps := []) (z' := (71, [some (aR 52), some (aI th), some (aI rl), some (aI (pn : Int)), some (aI t), some (aI (s0 : Int))], [aI (pn : Int), aR 52], MM N IL JL)) (by decide +kernel) rfl trivial ?_
          refine V.cv (c := 182) (na := 2) (o := 10) (a := 52) [aI (pn : Int)] [] (by decide +kernel) rfl rfl rfl rfl rfl ((m_findCosts (cp := cnB K t (K 0 11) (-1)) (L := L) (K := K) hSH hpn rfl hzz).mono (fun rv M1 q => ?_))
          obtain ⟨rfl, IF, JF, rfl, f1, f2, f3⟩ := q
          show V 187 (74, [some (aR 52), some (aI th), some (aI rl), some (aI (pn : Int)), some (aI t), some (aI (s0 : Int))], [], MM N IF JF) _
          refine V.blk [(74, .aload 0, 1), (75, .bipush 0, 1), (76, .putfield 10056, 3), (79, .aload 0, 1), (80, .bipush 0, 1), (81, .putfield 10054, 3)] (ps := []) (z' := (84, [some (aR 52), some (aI th), some (aI rl), some (aI (pn : Int)), some (aI t), some (aI (s0 : Int))], [], MM N (ma (ma IF 52 (ma (IF 52) 56 0)) 52 (ma ((ma IF 52 (ma (IF 52) 56 0)) 52) 54 0)) JF)) (by decide +kernel) rfl trivial ?_
          refine V.nI (fun I11 eI11 => ?_)
          have i0 : ∀ i, i ≠ 52 → I11 i = IF i := fun i a => by subst_vars; simp only [ma_ne, ne_eq, a, not_false_eq_true]
          have i52 : ∀ k, k ≠ 54 → k ≠ 56 → I11 52 k = IF 52 k := fun k a b => by subst_vars; simp only [ma_self, ma_ne, ne_eq, a, b, not_false_eq_true]
          have i54 : I11 52 54 = 0 := by subst_vars; simp only [ma_self, ma_ne, ne_eq, reduceCtorEq, not_false_eq_true, Nat.reduceEqDiff]
          have i56 : I11 52 56 = 0 := by subst_vars; simp only [ma_self, ma_ne, ne_eq, reduceCtorEq, not_false_eq_true, Nat.reduceEqDiff]
          have f52 : IF 52 = IL 52 := f1 52 (by decide) (by decide) (by decide) (by decide)
          have hcg := cst_cg hS (cp := cnB K t (K 0 11) (-1)) (v := JL 83) (w := vw (JL 83)) (fun s hs => (vw_lt hs).symm) (pe := pn)
          have hRP : RP K L (cnB K t (K 0 11) (-1)) (vw (JL 83)) pn (cst K (cnB K t (K 0 11) (-1)) (vw (JL 83)) pn) := ⟨hS, hpn, cst_ck hS _ _ _⟩
          have hSF : SH K L (cnB K t (K 0 11) (-1)) IF := hSH.keep fun i hi => f1 i (by omega) (by omega) (by omega) (by omega)
          have hMF : RMm K L (cnB K t (K 0 11) (-1)) (vw (JL 83)) pn (cst K (cnB K t (K 0 11) (-1)) (vw (JL 83)) pn) IF JF := ⟨hRP, hSF, fun s hs => by rw [f3 s hs, hcg s hs], fun s hs => by rw [f2 83 (by decide), vw_lt hs], hz0⟩
          have hM5 := hMF.keep (I' := I11) (J' := JF) (fun i a b => i0 i b) i52 rfl
          have hcs := sets_fin hS hpn hLS (cst_ck hS _ _ _) s0 (by omega) hbt
          obtain ⟨r, hr64, er, -, hfi⟩ := hRP.root (s := s0) (by omega) (by omega)
          have hkd := hX.1.2.2
          have hT5 : RTh K I11 := (show EdH K L I11 from hM5.2.1.1).2.2.2.2.2.2.1
          have hks := kS_lt hkd (s := s0) (by omega)
          have h585 : I11 58 (kS K s0) = (r : Int) := ((show EdH K L I11 from hM5.2.1.1).2.2.2.2.2.2.2.1.2 _ hks).trans er
          have hR5 : RsP K L (cnB K t (K 0 11) (-1)) (vw (JL 83)) pn (cst K (cnB K t (K 0 11) (-1)) (vw (JL 83)) pn) (tale K (cnB K t (K 0 11) (-1)) (vw (JL 83)) pn (cst K (cnB K t (K 0 11) (-1)) (vw (JL 83)) pn) s0 r) I11 0 0 ([] ++ tale K (cnB K t (K 0 11) (-1)) (vw (JL 83)) pn (cst K (cnB K t (K 0 11) (-1)) (vw (JL 83)) pn) s0 r) := ⟨i56, by omega, i54, fun i hi => by omega, by simp [lsA, flW]⟩
          have hmz := mz_in hRP hfi
          have hR6 := hR5.opens hfi (by omega)
          refine V.blk [(84, .aload 0, 1), (85, .iload 5, 2), (87, .aload 0, 1), (88, .getfield 10006, 3), (91, .aload 0, 1), (92, .iload 5, 2)] (ps := []) (z' := (94, [some (aR 52), some (aI th), some (aI rl), some (aI (pn : Int)), some (aI t), some (aI (s0 : Int))], [aI (s0 : Int), aR 52, aR 58, aI (s0 : Int), aR 52], MM N I11 JF)) (by decide +kernel) rfl trivial ?_
          refine V.cv (c := 168) (na := 2) (o := 10) (a := 52) [aI (s0 : Int)] [aR 58, aI (s0 : Int), aR 52] (by decide +kernel) rfl rfl rfl rfl rfl (V.pr (m_nodeOf (K := K) hT5 hkd hs8 (by omega)) ?_)
          show V 187 (97, [some (aR 52), some (aI th), some (aI rl), some (aI (pn : Int)), some (aI t), some (aI (s0 : Int))], [aI ((kS K s0 : Nat) : Int), aR 58, aI (s0 : Int), aR 52], MM N I11 JF) _
          refine V.blk [(97, .iaload, 1)] (ps := [0 ≤ ((kS K s0 : Nat) : Int) ∧ ((kS K s0 : Nat) : Int) < 48]) (z' := (98, [some (aR 52), some (aI th), some (aI rl), some (aI (pn : Int)), some (aI t), some (aI (s0 : Int))], [aI (I11 58 (kS K s0)), aI (s0 : Int), aR 52], MM N I11 JF)) (by decide +kernel) rfl (show (0 ≤ ((kS K s0 : Nat) : Int) ∧ ((kS K s0 : Nat) : Int) < 48) from (by omega)) ?_
          rw [h585]
          refine V.cv (c := 183) (na := 3) (o := 10) (a := 52) [aI (r : Int), aI (s0 : Int)] [] (by decide +kernel) rfl rfl rfl rfl rfl ((m_opens (by omega)).mono (fun rv M1 q => ?_))
          obtain ⟨rfl, rfl⟩ := q
          show V 187 (101, [some (aR 52), some (aI th), some (aI rl), some (aI (pn : Int)), some (aI t), some (aI (s0 : Int))], [], MM N ((opU I11 (s0 : Int) (r : Int))) JF) _
          refine V.nI (fun I12 eI12 => ?_)
          have hM6 := hM5.keep (I' := I12) (J' := JF) (fun i a b => by rw [eI12]; exact (opU_f I11 (s0 : Int) (r : Int)).1 i b (by omega) (by omega)) (fun k a b => by rw [eI12]; exact (opU_f I11 (s0 : Int) (r : Int)).2.1 k a) rfl
          rw [← eI12] at hR6
          have hG6 : ∀ i, i ≠ 52 → i ≠ 91 → i ≠ 92 → I12 i = I11 i := fun i a b c => by rw [eI12]; exact (opU_f I11 (s0 : Int) (r : Int)).1 i a b c
          have hG7 : ∀ k, k ≠ 54 → I12 52 k = I11 52 k := fun k a => by rw [eI12]; exact (opU_f I11 (s0 : Int) (r : Int)).2.1 k a
          refine l_whyl (N := N) (I := I12) (J := JF) (T0 := tale K (cnB K t (K 0 11) (-1)) (vw (JL 83)) pn (cst K (cnB K t (K 0 11) (-1)) (vw (JL 83)) pn) s0 r) (fun n w I7 J7 hM7 hR7 hw7 hF7 hj7 => ?_) (msr 0 20545) 0 1 I12 JF (fun a b x1 x2 x3 => ?_) hM6 hR6 ⟨fun _ _ _ _ _ _ _ _ => rfl, fun _ _ _ => rfl⟩ (fun _ _ => rfl)
          rotate_left
          · obtain ⟨a2, b2, y1, y2, -, y4⟩ := hR6.2.2.2.1 0 (by omega)
            have ea : a2 = a := by have x2 : I12 91 0 = (a : Int) := x2; omega
            have eb : b2 = b := by have x3 : I12 92 0 = (b : Int) := x3; omega
            subst ea
            subst eb
            exact msr_z (by omega)
          have hend : ∀ I9 : MI, (∀ i, i ≠ 52 → I9 i = I7 i) → (∀ k, k ≠ 57 → k ≠ 58 → k ≠ 59 → k ≠ 60 → k ≠ 61 → I9 52 k = I7 52 k) → I9 52 57 = th → I9 52 58 = rl → I9 52 59 = (pn : Int) → I9 52 60 = t → I9 52 61 = 1 → ∃ a U I' J', some (aI (I9 89 s0)) = some a ∧ MM N I9 J7 = MM N I' J' ∧ WhyR K L th rl (pn : Int) t a U ∧ PO U L I I' J' := by
            intro I9 z0 z52 z57 z58 z59 z60 z61
            obtain ⟨u1, u2, u3, u4, u5, u6⟩ := whM_f K I9 (th * 8 + rl) (pn : Int) t
            have q0 : ∀ i, 53 ≤ i → (i ≤ 77 ∨ i = 87 ∨ i = 88 ∨ i = 94) → I9 i = IL i := fun i a b => by
              rw [z0 i (by omega), hF7.1 i (by omega) (by omega) (by omega) (by omega) (by omega) (by omega) (by omega), hG6 i (by omega) (by omega) (by omega), i0 i (by omega), f1 i (by omega) (by omega) (by omega) (by omega)]
            have q52 : ∀ k, k ≠ 54 → k ≠ 56 → k ≠ 57 → k ≠ 58 → k ≠ 59 → k ≠ 60 → k ≠ 61 → I9 52 k = IL 52 k := fun k a b c d e f g => by
              rw [z52 k c d e f g, hF7.2 k a b, hG7 k a, i52 k a b, f52]
            have e56 : I9 52 56 = (n : Int) := by rw [z52 56 (by decide) (by decide) (by decide) (by decide) (by decide)]; exact hR7.1
            have e93 : I9 93 = I7 93 := z0 93 (by decide)
            have hRRe : RRe (whM K I9 (th * 8 + rl) (pn : Int) t) I9 := by
              refine ⟨by rw [u2], fun i hi => by rw [u6], ?_, fun _ => ?_⟩
              · rw [u3, if_neg (by omega), z61]
              · rw [u3, u4, u5, z57, z58, z59, z60]
                omega
            have hs : sameS K (whM K I9 (th * 8 + rl) (pn : Int) t) := ⟨fun i hi => u1 i (by unfold rdC at hi; omega) (by unfold rdC at hi; omega), by rw [u1 0 (by decide) (by decide)]⟩
            obtain ⟨p1, p2, p3⟩ := hPL
            refine ⟨_, whM K I9 (th * 8 + rl) (pn : Int) t, I9, J7, rfl, rfl, ⟨fun w => absurd ⟨hcel, by omega, htu⟩ w, fun _ => ⟨vw (JL 83), hLS, fun w => absurd (by rw [es1]; exact hbt) w, fun _ => ⟨?_, u1, u3, u4, u5, ?_⟩⟩⟩, hAL.why u1 (fun i a b => q0 i a (by omega)) q52 hRRe, ?_, ?_⟩
            · rw [es1, z0 89 (by decide)]
              exact congrArg aI (hM7.2.2.1 s0 (by omega))
            · rw [es1, er]
              obtain ⟨y1, y2, y3, y4, y5⟩ := hR7
              refine ⟨n, by rw [u2, e56], y2, ?_⟩
              rw [u6, e93]
              refine take_of y5 (lsA_len _ _) ?_
              rcases hw7 with h | h
              · left
                subst h
                exact ⟨rfl, y2⟩
              · exact Or.inr h
            · rw [q52 37 (by decide) (by decide) (by decide) (by decide) (by decide) (by decide) (by decide), q52 43 (by decide) (by decide) (by decide) (by decide) (by decide) (by decide) (by decide), q52 41 (by decide) (by decide) (by decide) (by decide) (by decide) (by decide) (by decide), q52 40 (by decide) (by decide) (by decide) (by decide) (by decide) (by decide) (by decide)]
              exact p2
            · exact hCA2.same hs (q52 40 (by decide) (by decide) (by decide) (by decide) (by decide) (by decide) (by decide)) (q52 41 (by decide) (by decide) (by decide) (by decide) (by decide) (by decide) (by decide)) (q52 42 (by decide) (by decide) (by decide) (by decide) (by decide) (by decide) (by decide)) (q0 87 (by decide) (by decide)) (q0 88 (by decide) (by decide)) (by rw [hj7 83 (by decide), f2 83 (by decide)])
          clear hG6 hG7 i0 i52
          refine V.blk [(125, .aload 0, 1), (126, .bipush 1, 1), (127, .putfield 10061, 3), (130, .aload 0, 1), (131, .iload 1, 1), (132, .putfield 10057, 3), (135, .aload 0, 1), (136, .iload 2, 1), (137, .putfield 10058, 3), (140, .aload 0, 1), (141, .iload 3, 1), (142, .putfield 10059, 3), (145, .aload 0, 1), (146, .iload 4, 2), (148, .putfield 10060, 3)] (ps := [0 ≤ 1 ∧ 1 ≤ 1]) (z' := (151, [some (aR 52), some (aI th), some (aI rl), some (aI (pn : Int)), some (aI t), some (aI (s0 : Int))], [], MM N (ma (ma (ma (ma (ma I7 52 (ma (I7 52) 61 1)) 52 (ma ((ma I7 52 (ma (I7 52) 61 1)) 52) 57 th)) 52 (ma ((ma (ma I7 52 (ma (I7 52) 61 1)) 52 (ma ((ma I7 52 (ma (I7 52) 61 1)) 52) 57 th)) 52) 58 rl)) 52 (ma ((ma (ma (ma I7 52 (ma (I7 52) 61 1)) 52 (ma ((ma I7 52 (ma (I7 52) 61 1)) 52) 57 th)) 52 (ma ((ma (ma I7 52 (ma (I7 52) 61 1)) 52 (ma ((ma I7 52 (ma (I7 52) 61 1)) 52) 57 th)) 52) 58 rl)) 52) 59 (pn : Int))) 52 (ma ((ma (ma (ma (ma I7 52 (ma (I7 52) 61 1)) 52 (ma ((ma I7 52 (ma (I7 52) 61 1)) 52) 57 th)) 52 (ma ((ma (ma I7 52 (ma (I7 52) 61 1)) 52 (ma ((ma I7 52 (ma (I7 52) 61 1)) 52) 57 th)) 52) 58 rl)) 52 (ma ((ma (ma (ma I7 52 (ma (I7 52) 61 1)) 52 (ma ((ma I7 52 (ma (I7 52) 61 1)) 52) 57 th)) 52 (ma ((ma (ma I7 52 (ma (I7 52) 61 1)) 52 (ma ((ma I7 52 (ma (I7 52) 61 1)) 52) 57 th)) 52) 58 rl)) 52) 59 (pn : Int))) 52) 60 t)) J7)) (by decide +kernel) rfl (show (0 ≤ 1 ∧ 1 ≤ 1) from (by omega)) ?_
          refine V.nI (fun I1 eI1 => ?_)
          refine V.blk [(151, .aload 0, 1), (152, .getfield 10050, 3), (155, .iload 5, 2), (157, .iaload, 1)] (ps := [0 ≤ (s0 : Int) ∧ (s0 : Int) < 320]) (z' := (158, [some (aR 52), some (aI th), some (aI rl), some (aI (pn : Int)), some (aI t), some (aI (s0 : Int))], [aI (I1 89 s0)], MM N I1 J7)) (by decide +kernel) rfl (show (0 ≤ (s0 : Int) ∧ (s0 : Int) < 320) from (by omega)) ?_
          refine V.ri (by decide +kernel) ?_
          have z0 : ∀ i, i ≠ 52 → I1 i = I7 i := fun i a => by rw [eI1]; simp only [ma_ne, ne_eq, a, not_false_eq_true]
          have z52 : ∀ k, k ≠ 57 → k ≠ 58 → k ≠ 59 → k ≠ 60 → k ≠ 61 → I1 52 k = I7 52 k := fun k a b c d e => by rw [eI1]; simp only [ma_self, ma_ne, ne_eq, a, b, c, d, e, not_false_eq_true]
          have z57 : I1 52 57 = th := by rw [eI1]; simp only [ma_self, ma_ne, ne_eq, reduceCtorEq, not_false_eq_true, Nat.reduceEqDiff]
          have z58 : I1 52 58 = rl := by rw [eI1]; simp only [ma_self, ma_ne, ne_eq, reduceCtorEq, not_false_eq_true, Nat.reduceEqDiff]
          have z59 : I1 52 59 = (pn : Int) := by rw [eI1]; simp only [ma_self, ma_ne, ne_eq, reduceCtorEq, not_false_eq_true, Nat.reduceEqDiff]
          have z60 : I1 52 60 = t := by rw [eI1]; simp only [ma_self, ma_ne, ne_eq, reduceCtorEq, not_false_eq_true, Nat.reduceEqDiff]
          have z61 : I1 52 61 = 1 := by rw [eI1]; simp only [ma_self, ma_ne, ne_eq, reduceCtorEq, not_false_eq_true, Nat.reduceEqDiff]
          exact hend I1 z0 z52 z57 z58 z59 z60 z61
        · skip
          try simp only [b2_cast, b2_ncast, Classical.not_not, lcm_lt, lcm_ge, lcm_gt, lcm_le, lcm_eq, b2_0, b2_n0, Bool.not_eq_false, Bool.not_eq_true, decide_eq_true_eq, decide_eq_false_iff_not] at bh10
          refine V.blk [(62, .aload 0, 1), (63, .bipush (-2), 2)] (ps := []) (z' := (65, [some (aR 52), some (aI th), some (aI rl), some (aI (pn : Int)), some (aI t), some (aI (s0 : Int))], [aI (-2), aR 52], MM N IL JL)) (by decide +kernel) rfl trivial ?_
          refine V.cv (c := 116) (na := 2) (o := 10) (a := 52) [aI (-2)] [] (by decide +kernel) rfl rfl rfl rfl rfl ((m_no (by assumption) (by omega)).mono (fun rv M1 q => ?_))
          obtain ⟨rfl, rfl⟩ := q
          show V 187 (68, [some (aR 52), some (aI th), some (aI rl), some (aI (pn : Int)), some (aI t), some (aI (s0 : Int))], [aI (-2)], MM N ((noU IL (-2))) JL) _
          refine V.nI (fun I13 eI13 => ?_)
          refine V.ri (by decide +kernel) ?_
          have hnb : ¬ tb (vw (JL 83) s0) pn = true := by
            rw [hvs, hbit.mp (by assumption)]
            decide
          refine ⟨_, rfU K (-2), noU IL (-2), JL, rfl, by subst_vars; rfl, ⟨fun w => absurd ⟨hcel, by omega, htu⟩ w, fun _ => ⟨vw (JL 83), hLS, fun _ => ⟨rfl, rfl⟩, fun w => absurd (by rw [es1] at w; exact w) hnb⟩⟩, (PO.no hAL hVL hCA2 (by decide)).base (hL2 40 (by decide) (by decide))⟩
      · skip
        try simp only [b2_cast, b2_ncast, Classical.not_not, lcm_lt, lcm_ge, lcm_gt, lcm_le, lcm_eq, b2_0, b2_n0, Bool.not_eq_false, Bool.not_eq_true, decide_eq_true_eq, decide_eq_false_iff_not] at bh8
        refine V.blk [(25, .aload 0, 1), (26, .bipush (-3), 2)] (ps := []) (z' := (28, [some (aR 52), some (aI th), some (aI rl), some (aI pe), some (aI t), none], [aI (-3), aR 52], MM N I J)) (by decide +kernel) rfl trivial ?_
        refine V.cv (c := 116) (na := 2) (o := 10) (a := 52) [aI (-3)] [] (by decide +kernel) rfl rfl rfl rfl rfl ((m_no (by assumption) (by omega)).mono (fun rv M1 q => ?_))
        obtain ⟨rfl, rfl⟩ := q
        show V 187 (31, [some (aR 52), some (aI th), some (aI rl), some (aI pe), some (aI t), none], [aI (-3)], MM N ((noU I (-3))) J) _
        refine V.nI (fun I14 eI14 => ?_)
        refine V.ri (by decide +kernel) ?_
        have hno : ¬ (cellP K th rl ∧ (0 ≤ pe ∧ pe < 40) ∧ turnP K t) := by unfold cellP turnP; omega
        refine ⟨_, rfU K (-3), noU I (-3), J, rfl, by subst_vars; rfl, ⟨fun _ => ⟨rfl, rfl⟩, fun w => absurd w hno⟩, PO.no hA hV hC (by decide)⟩
