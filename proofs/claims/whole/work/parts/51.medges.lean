/-! ===== the reference: all edges ===== -/
def askC (K : MI) (CB : Nat → Nat → Prop) (p n i : Nat) : Prop := ((K 4 p = 0 ∨ K 4 p = 1) ∧ CB n i) ∨ (K 4 p = 2 ∧ (i : Int) = n / 8 * 8 + K 5 p) ∨ (K 4 p = 3 ∧ ∃ k : Nat, k < 6 ∧ (i : Int) = k * 8 + K 6 p)
def ex8 (K : MI) (L : MJ) (CB : Nat → Nat → Prop) (r m n i : Nat) : Prop := ∃ p : Nat, p < m ∧ askd L r p = true ∧ askC K CB p n i
def ex9 (K : MI) (L : MJ) (CB : Nat → Nat → Prop) (r m n i : Nat) : Prop := ∃ p : Nat, p < m ∧ tb (L 9 r) p = true ∧ askC K CB p n i
theorem ex8_s {K : MI} {L : MJ} {CB : Nat → Nat → Prop} {r m n i : Nat} : ex8 K L CB r (m + 1) n i ↔ ex8 K L CB r m n i ∨ (askd L r m = true ∧ askC K CB m n i) := ex_s
theorem ex9_s {K : MI} {L : MJ} {CB : Nat → Nat → Prop} {r m n i : Nat} : ex9 K L CB r (m + 1) n i ↔ ex9 K L CB r m n i ∨ (tb (L 9 r) m = true ∧ askC K CB m n i) := ex_s
/-- all that knot n leads to -/
def EX8 (K : MI) (L : MJ) (CB : Nat → Nat → Prop) : ED := fun n i => ex8 K L CB (K 7 n).toNat (K 7 n + 1).toNat n i
def EX9 (K : MI) (L : MJ) (CB : Nat → Nat → Prop) : ED := fun n i => ex9 K L CB (K 7 n).toNat (K 7 n + 1).toNat n i
theorem l_thr {N : Nat} {I : MI} {J : MJ} {K : MI} {n p : Nat} {ov : Int} {Q : Option AV → M5 → Prop} (hn : n < 48) (hp : p < 64) (hr6 : K 4 p = 3 → 0 ≤ K 6 p ∧ K 6 p < 8) (h54 : I 54 p = K 4 p) (h56 : K 4 p = 3 → I 56 p = K 6 p) (h81 : I 81 p = ov) (cont : ∀ (w3 : Option AV) (I' : MI), (∀ i, i ≠ 78 → i ≠ 79 → I' i = I i) → EdR I n (fun b => K 4 p = 3 ∧ ∃ q : Nat, q < 6 ∧ (b : Int) = q * 8 + K 6 p) (fun b => ov ≠ 0 ∧ K 4 p = 3 ∧ ∃ q : Nat, q < 6 ∧ (b : Int) = q * 8 + K 6 p) I' → V 127 (125, [some (aR 52), some (aI (n : Int)), some (aI (p : Int)), w3], [], MM N I' J) Q) : ∀ (m k : Nat) (I' : MI), 7 ≤ m + k → k ≤ 6 → (K 4 p ≠ 3 → k = 0) → (∀ i, i ≠ 78 → i ≠ 79 → I' i = I i) → EdR I n (fun b => K 4 p = 3 ∧ ∃ q : Nat, q < k ∧ (b : Int) = q * 8 + K 6 p) (fun b => ov ≠ 0 ∧ K 4 p = 3 ∧ ∃ q : Nat, q < k ∧ (b : Int) = q * 8 + K 6 p) I' → V 127 (81, [some (aR 52), some (aI (n : Int)), some (aI (p : Int)), some (aI (k : Int))], [], MM N I' J) Q := by
  intro m
  induction m with
  | zero => intro k I' h1 h2; exfalso; omega
  | succ m ih =>
    intro k I' h1 h2 h3 ho hR
    have g54 : I' 54 p = K 4 p := by rw [ho 54 (by decide) (by decide)]; exact h54
    have g56 : K 4 p = 3 → I' 56 p = K 6 p := fun w => by rw [ho 56 (by decide) (by decide)]; exact h56 w
    have g81 : I' 81 p = ov := by rw [ho 81 (by decide) (by decide)]; exact h81
    refine V.blk [(81, .iload 3, 1), (82, .bipush 6, 2), (84, .if_icmp .ge 125, 3)] (ps := []) (z' := (brc .ge (k : Int) 6 125 87, [some (aR 52), some (aI (n : Int)), some (aI (p : Int)), some (aI (k : Int))], [], MM N I' J)) (by decide +kernel) rfl trivial ?_
    refine V.ge (fun bh1 => ?_) (fun bh2 => ?_)
    · skip
      try simp only [b2_cast, b2_ncast, Classical.not_not, lcm_lt, lcm_ge, lcm_gt, lcm_le, lcm_eq] at bh1
      refine cont _ I' ho (hR.iff (fun b _ => ?_) (fun b _ => ?_))
      · first
          | rw [show k = 6 by omega]
          | (have e3 : K 4 p ≠ 3 := by omega
             simp [e3])
      · first
          | rw [show k = 6 by omega]
          | (have e3 : K 4 p ≠ 3 := by omega
             simp [e3])
    · skip
      try simp only [b2_cast, b2_ncast, Classical.not_not, lcm_lt, lcm_ge, lcm_gt, lcm_le, lcm_eq] at bh2
      refine V.blk [(87, .aload 0, 1), (88, .getfield 10002, 3), (91, .iload 2, 1), (92, .iaload, 1), (93, .bipush 3, 1), (94, .if_icmp .ne 125, 3)] (ps := [0 ≤ (p : Int) ∧ (p : Int) < 64]) (z' := (brc .ne (I' 54 p) 3 125 97, [some (aR 52), some (aI (n : Int)), some (aI (p : Int)), some (aI (k : Int))], [], MM N I' J)) (by decide +kernel) rfl (show (0 ≤ (p : Int) ∧ (p : Int) < 64) from (by omega)) ?_
      refine V.ne (fun bh3 => ?_) (fun bh4 => ?_)
      · skip
        try simp only [b2_cast, b2_ncast, Classical.not_not, lcm_lt, lcm_ge, lcm_gt, lcm_le, lcm_eq] at bh3
        refine cont _ I' ho (hR.iff (fun b _ => ?_) (fun b _ => ?_))
        · first
            | rw [show k = 6 by omega]
            | (have e3 : K 4 p ≠ 3 := by omega
               simp [e3])
        · first
            | rw [show k = 6 by omega]
            | (have e3 : K 4 p ≠ 3 := by omega
               simp [e3])
      · skip
        try simp only [b2_cast, b2_ncast, Classical.not_not, lcm_lt, lcm_ge, lcm_gt, lcm_le, lcm_eq] at bh4
        have e3 : K 4 p = 3 := by omega
        have x56 := g56 e3
        have x6 := hr6 e3
        refine V.blk [(97, .aload 0, 1), (98, .iload 1, 1), (99, .bipush 8, 2), (101, .iload 3, 1), (102, .imul, 1), (103, .aload 0, 1), (104, .getfield 10004, 3), (107, .iload 2, 1), (108, .iaload, 1), (109, .iadd, 1), (110, .aload 0, 1), (111, .getfield 10036, 3), (114, .iload 2, 1), (115, .baload, 1)] (ps := [inR (8 * (k : Int)), 0 ≤ (p : Int) ∧ (p : Int) < 64, inR (((8 * k : Nat) : Int) + (I' 56 p)), 0 ≤ (p : Int) ∧ (p : Int) < 64]) (z' := (116, [some (aR 52), some (aI (n : Int)), some (aI (p : Int)), some (aI (k : Int))], [aI (I' 81 p), aI (((8 * k : Nat) : Int) + (I' 56 p)), aI (n : Int), aR 52], MM N I' J)) (by decide +kernel) rfl (show (inR (8 * (k : Int))) ∧ (0 ≤ (p : Int) ∧ (p : Int) < 64) ∧ (inR (((8 * k : Nat) : Int) + (I' 56 p))) ∧ (0 ≤ (p : Int) ∧ (p : Int) < 64) from ⟨(by unfold inR; omega), (by omega), (by unfold inR; omega), (by omega)⟩) ?_
        refine V.cv (c := 125) (na := 4) (o := 10) (a := 52) [aI (I' 81 p), aI (((8 * k : Nat) : Int) + (I' 56 p)), aI (n : Int)] [] (by decide +kernel) rfl rfl rfl rfl rfl ((m_edge (by omega) (by omega)).mono (fun rv M1 q => ?_))
        obtain ⟨rfl, rfl⟩ := q
        show V 127 (119, [some (aR 52), some (aI (n : Int)), some (aI (p : Int)), some (aI (k : Int))], [], MM N ((edU I' (n : Int) (((8 * k : Nat) : Int) + (I' 56 p)) (I' 81 p))) J) _
        refine V.blk [(119, .iinc 3 1, 3), (122, .goto 81, 3)] (ps := [inR ((k : Int) + 1)]) (z' := (81, [some (aR 52), some (aI (n : Int)), some (aI (p : Int)), some (aI ((k + 1 : Nat) : Int))], [], MM N ((edU I' (n : Int) (((8 * k : Nat) : Int) + (I' 56 p)) (I' 81 p))) J)) (by decide +kernel) rfl (show (inR ((k : Int) + 1)) from (by unfold inR; omega)) ?_
        refine V.nI (fun I5 eI5 => ?_)
        have eM : ((8 * k : Nat) : Int) + I' 56 p = ((k * 8 + (K 6 p).toNat : Nat) : Int) := by omega
        have hone := (EdR.one (I := I') (n := n) (m := k * 8 + (K 6 p).toNat) (ov := ov) hn (by omega)).iff (R := fun b => K 4 p = 3 ∧ (b : Int) = k * 8 + K 6 p) (S := fun b => ov ≠ 0 ∧ K 4 p = 3 ∧ (b : Int) = k * 8 + K 6 p) (fun b _ => by omega) (fun b _ => by omega)
        rw [← eM, ← g81] at hone
        rw [← eI5] at hone
        rw [g81] at hone
        refine ih (k + 1) I5 (by omega) (by omega) (fun w => absurd e3 w) (fun i a b => by rw [eI5, edU_ne _ _ _ _ a b]; exact ho i a b) (hR.trans hone (fun b _ => ?_) (fun b _ => ?_))
        · rw [ex_s]
          exact and_or_left
        · rw [ex_s, and_or_left, and_or_left]
theorem l_edges {N : Nat} {I : MI} {J : MJ} {K : MI} {L : MJ} {n r : Nat} (hn : n < 48) (hE : EdH K L I) (er : K 7 n = (r : Int)) (hr : r < 64) (hw : ∀ q, q < 64 → (I 80 q ≠ 0 ↔ askd L r q = true) ∧ (I 81 q ≠ 0 ↔ tb (L 9 r) q = true)) : ∀ (k p : Nat) (I' : MI) (w3 : Option AV), r + 2 ≤ k + p → p ≤ r + 1 → (∀ i, i ≠ 78 → i ≠ 79 → I' i = I i) → EdR I n (fun b => ex8 K L (cbX K (I 52 37)) r p n b) (fun b => ex9 K L (cbX K (I 52 37)) r p n b) I' → V 127 (22, [some (aR 52), some (aI (n : Int)), some (aI (p : Int)), w3], [], MM N I' J) (fun rv M' => rv = none ∧ ∃ I', M' = MM N I' J ∧ (∀ i, i ≠ 78 → i ≠ 79 → I' i = I i) ∧ EdR I n (fun b => ex8 K L (cbX K (I 52 37)) r (r + 1) n b) (fun b => ex9 K L (cbX K (I 52 37)) r (r + 1) n b) I') := by
  intro k
  induction k with
  | zero => intro p I' w3 h1 h2; exfalso; omega
  | succ k ih =>
    intro p I' w3 h1 h2 ho hR
    have hE2 : EdH K L I' := hE.keep0 fun i b => ho i (by omega) (by omega)
    have h58 : I' 58 n = (r : Int) := (hE2.2.2.2.2.2.2.2.1.2 n hn).trans er
    have h37 : I' 52 37 = I 52 37 := by rw [ho 52 (by decide) (by decide)]
    have hwp := hw p
    have h80 : I' 80 p = I 80 p := by rw [ho 80 (by decide) (by decide)]
    have h81 : I' 81 p = I 81 p := by rw [ho 81 (by decide) (by decide)]
    refine V.blk [(22, .iload 2, 1), (23, .aload 0, 1), (24, .getfield 10006, 3), (27, .iload 1, 1), (28, .iaload, 1), (29, .if_icmp .gt 161, 3)] (ps := [0 ≤ (n : Int) ∧ (n : Int) < 48]) (z' := (brc .gt (p : Int) (I' 58 n) 161 32, [some (aR 52), some (aI (n : Int)), some (aI (p : Int)), w3], [], MM N I' J)) (by decide +kernel) rfl (show (0 ≤ (n : Int) ∧ (n : Int) < 48) from (by first | omega | (rw [r55 (by omega) (by omega)]; omega))) ?_
    refine V.gt (fun bh1 => ?_) (fun bh2 => ?_)
    · skip
      try simp only [b2_cast, b2_ncast, Classical.not_not, lcm_lt, lcm_ge, lcm_gt, lcm_le, lcm_eq] at bh1
      refine V.rv (by decide +kernel) ?_
      have e : p = r + 1 := by omega
      subst e
      exact ⟨rfl, I', rfl, ho, hR⟩
    · skip
      try simp only [b2_cast, b2_ncast, Classical.not_not, lcm_lt, lcm_ge, lcm_gt, lcm_le, lcm_eq] at bh2
      have hp : p < 64 := by omega
      obtain ⟨hw8, hw9⟩ := hwp hp
      obtain ⟨r54, r55, r56, -⟩ := hE2.2.2.2.2.2.2.2.1.1 p hp
      have hrt := hE.2.1.rt.1 p hp
      refine V.blk [(32, .aload 0, 1), (33, .getfield 10035, 3), (36, .iload 2, 1), (37, .baload, 1), (38, .ifCond .ne 44, 3)] (ps := [0 ≤ (p : Int) ∧ (p : Int) < 64]) (z' := (brc .ne (I' 80 p) 0 44 41, [some (aR 52), some (aI (n : Int)), some (aI (p : Int)), w3], [], MM N I' J)) (by decide +kernel) rfl (show (0 ≤ (p : Int) ∧ (p : Int) < 64) from (by first | omega | (rw [r55 (by omega) (by omega)]; omega))) ?_
      refine V.ne (fun bh3 => ?_) (fun bh4 => ?_)
      · skip
        try simp only [b2_cast, b2_ncast, Classical.not_not, lcm_lt, lcm_ge, lcm_gt, lcm_le, lcm_eq] at bh3
        refine V.blk [(44, .aload 0, 1), (45, .getfield 10002, 3), (48, .iload 2, 1), (49, .iaload, 1), (50, .bipush 2, 1), (51, .if_icmp .ne 79, 3)] (ps := [0 ≤ (p : Int) ∧ (p : Int) < 64]) (z' := (brc .ne (I' 54 p) 2 79 54, [some (aR 52), some (aI (n : Int)), some (aI (p : Int)), w3], [], MM N I' J)) (by decide +kernel) rfl (show (0 ≤ (p : Int) ∧ (p : Int) < 64) from (by first | omega | (rw [r55 (by omega) (by omega)]; omega))) ?_
        refine V.ne (fun bh5 => ?_) (fun bh6 => ?_)
        · skip
          try simp only [b2_cast, b2_ncast, Classical.not_not, lcm_lt, lcm_ge, lcm_gt, lcm_le, lcm_eq] at bh5
          refine V.blk [(79, .bipush 0, 1), (80, .istore 3, 1)] (ps := []) (z' := (81, [some (aR 52), some (aI (n : Int)), some (aI (p : Int)), some (aI 0)], [], MM N I' J)) (by decide +kernel) rfl trivial ?_
          have ha : askd L r p = true := hw8.mp (by omega)
          have h9 : I' 81 p ≠ 0 ↔ tb (L 9 r) p = true := by rw [h81]; exact hw9
          have k2 : K 4 p ≠ 2 := by omega
          have hRA : EdR I n (fun b => ex8 K L (cbX K (I 52 37)) r p n b ∨ (K 4 p = 2 ∧ (b : Int) = n / 8 * 8 + K 5 p)) (fun b => ex9 K L (cbX K (I 52 37)) r p n b ∨ (I' 81 p ≠ 0 ∧ K 4 p = 2 ∧ (b : Int) = n / 8 * 8 + K 5 p)) I' := hR.iff (fun b _ => by simp [k2]) (fun b _ => by simp [k2])
          have oA : ∀ i, i ≠ 78 → i ≠ 79 → I' i = I' i := fun _ _ _ => rfl
          refine l_thr (N := N) (J := J) (I := I') (K := K) (n := n) (p := p) (ov := I' 81 p) hn hp (fun w => (hrt.2 w).2.2) ?_ (fun w => ?_) ?_ (fun w3 I2 f2 hR2 => ?_) 7 0 I' (by omega) (by omega) (fun _ => rfl) (fun _ _ _ => rfl) (EdR.zero.iff (fun b _ => by simp) (fun b _ => by simp))
          · rw [oA 54 (by decide) (by decide)]; exact r54
          · rw [oA 56 (by decide) (by decide)]; exact r56 (by omega) (by omega)
          · rw [oA 81 (by decide) (by decide)]
          have hRB := hRA.trans hR2 (fun b _ => Iff.rfl) (fun b _ => Iff.rfl)
          have oB : ∀ i, i ≠ 78 → i ≠ 79 → I2 i = I' i := fun i a b => (f2 i a b).trans (oA i a b)
          have oC : ∀ i, i ≠ 78 → i ≠ 79 → I2 i = I i := fun i a b => (oB i a b).trans (ho i a b)
          have hE3 : EdH K L I2 := hE.keep0 fun i b => oC i (by omega) (by omega)
          have b54 : I2 54 p = K 4 p := by rw [oB 54 (by decide) (by decide)]; exact r54
          have b81 : I2 81 p = I' 81 p := by rw [oB 81 (by decide) (by decide)]
          have b37 : I2 52 37 = I 52 37 := by rw [oC 52 (by decide) (by decide)]
          refine V.blk [(125, .aload 0, 1), (126, .getfield 10002, 3), (129, .iload 2, 1), (130, .iaload, 1), (131, .ifCond .eq 144, 3)] (ps := [0 ≤ (p : Int) ∧ (p : Int) < 64]) (z' := (brc .eq (I2 54 p) 0 144 134, [some (aR 52), some (aI (n : Int)), some (aI (p : Int)), w3], [], MM N I2 J)) (by decide +kernel) rfl (show (0 ≤ (p : Int) ∧ (p : Int) < 64) from (by omega)) ?_
          refine V.eq (fun g1 => ?_) (fun g2 => ?_)
          · skip
            try simp only [b2_cast, b2_ncast, Classical.not_not, lcm_lt, lcm_ge, lcm_gt, lcm_le, lcm_eq] at g1
            refine V.blk [(144, .aload 0, 1), (145, .iload 1, 1), (146, .aload 0, 1), (147, .getfield 10036, 3), (150, .iload 2, 1), (151, .baload, 1)] (ps := [0 ≤ (p : Int) ∧ (p : Int) < 64]) (z' := (152, [some (aR 52), some (aI (n : Int)), some (aI (p : Int)), w3], [aI (I2 81 p), aI (n : Int), aR 52], MM N I2 J)) (by decide +kernel) rfl (show (0 ≤ (p : Int) ∧ (p : Int) < 64) from (by omega)) ?_
            refine V.cv (c := 129) (na := 3) (o := 10) (a := 52) [aI (I2 81 p), aI (n : Int)] [] (by decide +kernel) rfl rfl rfl rfl rfl ((m_clubEdges (ov := I2 81 p) hn hE3).mono (fun rv M1 q => ?_))
            obtain ⟨rfl, IC, rfl, c1, c2⟩ := q
            rw [b37, b81] at c2
            show V 127 (155, [some (aR 52), some (aI (n : Int)), some (aI (p : Int)), w3], [], MM N IC J) _
            refine V.blk [(155, .iinc 2 1, 3), (158, .goto 22, 3)] (ps := [inR ((p : Int) + 1)]) (z' := (22, [some (aR 52), some (aI (n : Int)), some (aI ((p + 1 : Nat) : Int)), w3], [], MM N IC J)) (by decide +kernel) rfl (show (inR ((p : Int) + 1)) from (by unfold inR; omega)) ?_
            have k01 : K 4 p = 0 ∨ K 4 p = 1 := by omega
            have k2n : ¬ K 4 p = 2 ∧ ¬ K 4 p = 3 := by omega
            exact ih (p + 1) IC _ (by omega) (by omega) (fun i a b => (c1 i a b).trans (oC i a b)) (hRB.trans c2 (fun b _ => by rw [ex8_s]; unfold askC; simp only [ha, k01, k2n.1, k2n.2, true_and, false_and, or_false]) (fun b _ => by rw [ex9_s, ← h9]; unfold askC; simp only [k01, k2n.1, k2n.2, true_and, false_and, or_false, and_false]))
          · skip
            try simp only [b2_cast, b2_ncast, Classical.not_not, lcm_lt, lcm_ge, lcm_gt, lcm_le, lcm_eq] at g2
            refine V.blk [(134, .aload 0, 1), (135, .getfield 10002, 3), (138, .iload 2, 1), (139, .iaload, 1), (140, .bipush 1, 1), (141, .if_icmp .ne 155, 3)] (ps := [0 ≤ (p : Int) ∧ (p : Int) < 64]) (z' := (brc .ne (I2 54 p) 1 155 144, [some (aR 52), some (aI (n : Int)), some (aI (p : Int)), w3], [], MM N I2 J)) (by decide +kernel) rfl (show (0 ≤ (p : Int) ∧ (p : Int) < 64) from (by omega)) ?_
            refine V.ne (fun g3 => ?_) (fun g4 => ?_)
            · skip
              try simp only [b2_cast, b2_ncast, Classical.not_not, lcm_lt, lcm_ge, lcm_gt, lcm_le, lcm_eq] at g3
              refine V.blk [(155, .iinc 2 1, 3), (158, .goto 22, 3)] (ps := [inR ((p : Int) + 1)]) (z' := (22, [some (aR 52), some (aI (n : Int)), some (aI ((p + 1 : Nat) : Int)), w3], [], MM N I2 J)) (by decide +kernel) rfl (show (inR ((p : Int) + 1)) from (by unfold inR; omega)) ?_
              have k01 : ¬ K 4 p = 0 ∧ ¬ K 4 p = 1 := by omega
              exact ih (p + 1) I2 _ (by omega) (by omega) oC (hRB.iff (fun b _ => by rw [ex8_s]; unfold askC; simp only [ha, k01.1, k01.2, true_and, false_and, false_or, or_assoc]) (fun b _ => by rw [ex9_s, ← h9]; unfold askC; simp only [k01.1, k01.2, false_and, false_or, or_assoc, and_or_left]))
            · skip
              try simp only [b2_cast, b2_ncast, Classical.not_not, lcm_lt, lcm_ge, lcm_gt, lcm_le, lcm_eq] at g4
              refine V.blk [(144, .aload 0, 1), (145, .iload 1, 1), (146, .aload 0, 1), (147, .getfield 10036, 3), (150, .iload 2, 1), (151, .baload, 1)] (ps := [0 ≤ (p : Int) ∧ (p : Int) < 64]) (z' := (152, [some (aR 52), some (aI (n : Int)), some (aI (p : Int)), w3], [aI (I2 81 p), aI (n : Int), aR 52], MM N I2 J)) (by decide +kernel) rfl (show (0 ≤ (p : Int) ∧ (p : Int) < 64) from (by omega)) ?_
              refine V.cv (c := 129) (na := 3) (o := 10) (a := 52) [aI (I2 81 p), aI (n : Int)] [] (by decide +kernel) rfl rfl rfl rfl rfl ((m_clubEdges (ov := I2 81 p) hn hE3).mono (fun rv M1 q => ?_))
              obtain ⟨rfl, IC, rfl, c1, c2⟩ := q
              rw [b37, b81] at c2
              show V 127 (155, [some (aR 52), some (aI (n : Int)), some (aI (p : Int)), w3], [], MM N IC J) _
              refine V.blk [(155, .iinc 2 1, 3), (158, .goto 22, 3)] (ps := [inR ((p : Int) + 1)]) (z' := (22, [some (aR 52), some (aI (n : Int)), some (aI ((p + 1 : Nat) : Int)), w3], [], MM N IC J)) (by decide +kernel) rfl (show (inR ((p : Int) + 1)) from (by unfold inR; omega)) ?_
              have k01 : K 4 p = 0 ∨ K 4 p = 1 := by omega
              have k2n : ¬ K 4 p = 2 ∧ ¬ K 4 p = 3 := by omega
              exact ih (p + 1) IC _ (by omega) (by omega) (fun i a b => (c1 i a b).trans (oC i a b)) (hRB.trans c2 (fun b _ => by rw [ex8_s]; unfold askC; simp only [ha, k01, k2n.1, k2n.2, true_and, false_and, or_false]) (fun b _ => by rw [ex9_s, ← h9]; unfold askC; simp only [k01, k2n.1, k2n.2, true_and, false_and, or_false, and_false]))
        · skip
          try simp only [b2_cast, b2_ncast, Classical.not_not, lcm_lt, lcm_ge, lcm_gt, lcm_le, lcm_eq] at bh6
          refine V.blk [(54, .aload 0, 1), (55, .iload 1, 1), (56, .iload 1, 1), (57, .bipush 8, 2), (59, .idiv, 1), (60, .bipush 8, 2), (62, .imul, 1), (63, .aload 0, 1), (64, .getfield 10003, 3), (67, .iload 2, 1), (68, .iaload, 1), (69, .iadd, 1), (70, .aload 0, 1), (71, .getfield 10036, 3), (74, .iload 2, 1), (75, .baload, 1)] (ps := [0 ≤ (n : Int) ∧ 0 < 8, inR (((n / 8 : Nat) : Int) * 8), 0 ≤ (p : Int) ∧ (p : Int) < 64, inR ((((n / 8) * 8 : Nat) : Int) + (I' 55 p)), 0 ≤ (p : Int) ∧ (p : Int) < 64]) (z' := (76, [some (aR 52), some (aI (n : Int)), some (aI (p : Int)), w3], [aI (I' 81 p), aI ((((n / 8) * 8 : Nat) : Int) + (I' 55 p)), aI (n : Int), aR 52], MM N I' J)) (by decide +kernel) rfl (show (0 ≤ (n : Int) ∧ 0 < 8) ∧ (inR (((n / 8 : Nat) : Int) * 8)) ∧ (0 ≤ (p : Int) ∧ (p : Int) < 64) ∧ (inR ((((n / 8) * 8 : Nat) : Int) + (I' 55 p))) ∧ (0 ≤ (p : Int) ∧ (p : Int) < 64) from ⟨(by first | omega | (rw [r55 (by omega) (by omega)]; omega)), (by unfold inR; first | omega | (rw [r55 (by omega) (by omega)]; omega)), (by first | omega | (rw [r55 (by omega) (by omega)]; omega)), (by unfold inR; first | omega | (rw [r55 (by omega) (by omega)]; omega)), (by first | omega | (rw [r55 (by omega) (by omega)]; omega))⟩) ?_
          refine V.cv (c := 125) (na := 4) (o := 10) (a := 52) [aI (I' 81 p), aI ((((n / 8) * 8 : Nat) : Int) + (I' 55 p)), aI (n : Int)] [] (by decide +kernel) rfl rfl rfl rfl rfl ((m_edge (by omega) (by rw [r55 (by omega) (by omega)]; omega)).mono (fun rv M1 q => ?_))
          obtain ⟨rfl, rfl⟩ := q
          show V 127 (79, [some (aR 52), some (aI (n : Int)), some (aI (p : Int)), w3], [], MM N ((edU I' (n : Int) ((((n / 8) * 8 : Nat) : Int) + (I' 55 p)) (I' 81 p))) J) _
          refine V.blk [(79, .bipush 0, 1), (80, .istore 3, 1)] (ps := []) (z' := (81, [some (aR 52), some (aI (n : Int)), some (aI (p : Int)), some (aI 0)], [], MM N ((edU I' (n : Int) ((((n / 8) * 8 : Nat) : Int) + (I' 55 p)) (I' 81 p))) J)) (by decide +kernel) rfl trivial ?_
          refine V.nI (fun I7 eI7 => ?_)
          have ha : askd L r p = true := hw8.mp (by omega)
          have h9 : I' 81 p ≠ 0 ↔ tb (L 9 r) p = true := by rw [h81]; exact hw9
          have k2 : K 4 p = 2 := by omega
          have x55 := r55 (by omega) (by omega)
          have eM : (n : Int) / 8 * 8 + I' 55 p = ((n / 8 * 8 + (K 5 p).toNat : Nat) : Int) := by omega
          have hone := (EdR.one (I := I') (n := n) (m := n / 8 * 8 + (K 5 p).toNat) (ov := I' 81 p) hn (by omega)).iff (R := fun b => K 4 p = 2 ∧ (b : Int) = n / 8 * 8 + K 5 p) (S := fun b => I' 81 p ≠ 0 ∧ K 4 p = 2 ∧ (b : Int) = n / 8 * 8 + K 5 p) (fun b _ => by omega) (fun b _ => by omega)
          rw [← eM] at hone
          have eI0 : I7 = edU I' (n : Int) ((n : Int) / 8 * 8 + I' 55 p) (I' 81 p) := by rw [eI7]; rfl
          rw [← eI0] at hone
          have hRA : EdR I n (fun b => ex8 K L (cbX K (I 52 37)) r p n b ∨ (K 4 p = 2 ∧ (b : Int) = n / 8 * 8 + K 5 p)) (fun b => ex9 K L (cbX K (I 52 37)) r p n b ∨ (I' 81 p ≠ 0 ∧ K 4 p = 2 ∧ (b : Int) = n / 8 * 8 + K 5 p)) I7 := hR.trans hone (fun b _ => Iff.rfl) (fun b _ => Iff.rfl)
          have oA : ∀ i, i ≠ 78 → i ≠ 79 → I7 i = I' i := fun i a b => by rw [eI0, edU_ne _ _ _ _ a b]
          refine l_thr (N := N) (J := J) (I := I7) (K := K) (n := n) (p := p) (ov := I' 81 p) hn hp (fun w => (hrt.2 w).2.2) ?_ (fun w => ?_) ?_ (fun w3 I2 f2 hR2 => ?_) 7 0 I7 (by omega) (by omega) (fun _ => rfl) (fun _ _ _ => rfl) (EdR.zero.iff (fun b _ => by simp) (fun b _ => by simp))
          · rw [oA 54 (by decide) (by decide)]; exact r54
          · rw [oA 56 (by decide) (by decide)]; exact r56 (by omega) (by omega)
          · rw [oA 81 (by decide) (by decide)]
          have hRB := hRA.trans hR2 (fun b _ => Iff.rfl) (fun b _ => Iff.rfl)
          have oB : ∀ i, i ≠ 78 → i ≠ 79 → I2 i = I' i := fun i a b => (f2 i a b).trans (oA i a b)
          have oC : ∀ i, i ≠ 78 → i ≠ 79 → I2 i = I i := fun i a b => (oB i a b).trans (ho i a b)
          have hE3 : EdH K L I2 := hE.keep0 fun i b => oC i (by omega) (by omega)
          have b54 : I2 54 p = K 4 p := by rw [oB 54 (by decide) (by decide)]; exact r54
          have b81 : I2 81 p = I' 81 p := by rw [oB 81 (by decide) (by decide)]
          have b37 : I2 52 37 = I 52 37 := by rw [oC 52 (by decide) (by decide)]
          refine V.blk [(125, .aload 0, 1), (126, .getfield 10002, 3), (129, .iload 2, 1), (130, .iaload, 1), (131, .ifCond .eq 144, 3)] (ps := [0 ≤ (p : Int) ∧ (p : Int) < 64]) (z' := (brc .eq (I2 54 p) 0 144 134, [some (aR 52), some (aI (n : Int)), some (aI (p : Int)), w3], [], MM N I2 J)) (by decide +kernel) rfl (show (0 ≤ (p : Int) ∧ (p : Int) < 64) from (by omega)) ?_
          refine V.eq (fun g1 => ?_) (fun g2 => ?_)
          · skip
            try simp only [b2_cast, b2_ncast, Classical.not_not, lcm_lt, lcm_ge, lcm_gt, lcm_le, lcm_eq] at g1
            refine V.blk [(144, .aload 0, 1), (145, .iload 1, 1), (146, .aload 0, 1), (147, .getfield 10036, 3), (150, .iload 2, 1), (151, .baload, 1)] (ps := [0 ≤ (p : Int) ∧ (p : Int) < 64]) (z' := (152, [some (aR 52), some (aI (n : Int)), some (aI (p : Int)), w3], [aI (I2 81 p), aI (n : Int), aR 52], MM N I2 J)) (by decide +kernel) rfl (show (0 ≤ (p : Int) ∧ (p : Int) < 64) from (by omega)) ?_
            refine V.cv (c := 129) (na := 3) (o := 10) (a := 52) [aI (I2 81 p), aI (n : Int)] [] (by decide +kernel) rfl rfl rfl rfl rfl ((m_clubEdges (ov := I2 81 p) hn hE3).mono (fun rv M1 q => ?_))
            obtain ⟨rfl, IC, rfl, c1, c2⟩ := q
            rw [b37, b81] at c2
            show V 127 (155, [some (aR 52), some (aI (n : Int)), some (aI (p : Int)), w3], [], MM N IC J) _
            refine V.blk [(155, .iinc 2 1, 3), (158, .goto 22, 3)] (ps := [inR ((p : Int) + 1)]) (z' := (22, [some (aR 52), some (aI (n : Int)), some (aI ((p + 1 : Nat) : Int)), w3], [], MM N IC J)) (by decide +kernel) rfl (show (inR ((p : Int) + 1)) from (by unfold inR; omega)) ?_
            have k01 : K 4 p = 0 ∨ K 4 p = 1 := by omega
            have k2n : ¬ K 4 p = 2 ∧ ¬ K 4 p = 3 := by omega
            exact ih (p + 1) IC _ (by omega) (by omega) (fun i a b => (c1 i a b).trans (oC i a b)) (hRB.trans c2 (fun b _ => by rw [ex8_s]; unfold askC; simp only [ha, k01, k2n.1, k2n.2, true_and, false_and, or_false]) (fun b _ => by rw [ex9_s, ← h9]; unfold askC; simp only [k01, k2n.1, k2n.2, true_and, false_and, or_false, and_false]))
          · skip
            try simp only [b2_cast, b2_ncast, Classical.not_not, lcm_lt, lcm_ge, lcm_gt, lcm_le, lcm_eq] at g2
            refine V.blk [(134, .aload 0, 1), (135, .getfield 10002, 3), (138, .iload 2, 1), (139, .iaload, 1), (140, .bipush 1, 1), (141, .if_icmp .ne 155, 3)] (ps := [0 ≤ (p : Int) ∧ (p : Int) < 64]) (z' := (brc .ne (I2 54 p) 1 155 144, [some (aR 52), some (aI (n : Int)), some (aI (p : Int)), w3], [], MM N I2 J)) (by decide +kernel) rfl (show (0 ≤ (p : Int) ∧ (p : Int) < 64) from (by omega)) ?_
            refine V.ne (fun g3 => ?_) (fun g4 => ?_)
            · skip
              try simp only [b2_cast, b2_ncast, Classical.not_not, lcm_lt, lcm_ge, lcm_gt, lcm_le, lcm_eq] at g3
              refine V.blk [(155, .iinc 2 1, 3), (158, .goto 22, 3)] (ps := [inR ((p : Int) + 1)]) (z' := (22, [some (aR 52), some (aI (n : Int)), some (aI ((p + 1 : Nat) : Int)), w3], [], MM N I2 J)) (by decide +kernel) rfl (show (inR ((p : Int) + 1)) from (by unfold inR; omega)) ?_
              have k01 : ¬ K 4 p = 0 ∧ ¬ K 4 p = 1 := by omega
              exact ih (p + 1) I2 _ (by omega) (by omega) oC (hRB.iff (fun b _ => by rw [ex8_s]; unfold askC; simp only [ha, k01.1, k01.2, true_and, false_and, false_or, or_assoc]) (fun b _ => by rw [ex9_s, ← h9]; unfold askC; simp only [k01.1, k01.2, false_and, false_or, or_assoc, and_or_left]))
            · skip
              try simp only [b2_cast, b2_ncast, Classical.not_not, lcm_lt, lcm_ge, lcm_gt, lcm_le, lcm_eq] at g4
              refine V.blk [(144, .aload 0, 1), (145, .iload 1, 1), (146, .aload 0, 1), (147, .getfield 10036, 3), (150, .iload 2, 1), (151, .baload, 1)] (ps := [0 ≤ (p : Int) ∧ (p : Int) < 64]) (z' := (152, [some (aR 52), some (aI (n : Int)), some (aI (p : Int)), w3], [aI (I2 81 p), aI (n : Int), aR 52], MM N I2 J)) (by decide +kernel) rfl (show (0 ≤ (p : Int) ∧ (p : Int) < 64) from (by omega)) ?_
              refine V.cv (c := 129) (na := 3) (o := 10) (a := 52) [aI (I2 81 p), aI (n : Int)] [] (by decide +kernel) rfl rfl rfl rfl rfl ((m_clubEdges (ov := I2 81 p) hn hE3).mono (fun rv M1 q => ?_))
              obtain ⟨rfl, IC, rfl, c1, c2⟩ := q
              rw [b37, b81] at c2
              show V 127 (155, [some (aR 52), some (aI (n : Int)), some (aI (p : Int)), w3], [], MM N IC J) _
              refine V.blk [(155, .iinc 2 1, 3), (158, .goto 22, 3)] (ps := [inR ((p : Int) + 1)]) (z' := (22, [some (aR 52), some (aI (n : Int)), some (aI ((p + 1 : Nat) : Int)), w3], [], MM N IC J)) (by decide +kernel) rfl (show (inR ((p : Int) + 1)) from (by unfold inR; omega)) ?_
              have k01 : K 4 p = 0 ∨ K 4 p = 1 := by omega
              have k2n : ¬ K 4 p = 2 ∧ ¬ K 4 p = 3 := by omega
              exact ih (p + 1) IC _ (by omega) (by omega) (fun i a b => (c1 i a b).trans (oC i a b)) (hRB.trans c2 (fun b _ => by rw [ex8_s]; unfold askC; simp only [ha, k01, k2n.1, k2n.2, true_and, false_and, or_false]) (fun b _ => by rw [ex9_s, ← h9]; unfold askC; simp only [k01, k2n.1, k2n.2, true_and, false_and, or_false, and_false]))
      · skip
        try simp only [b2_cast, b2_ncast, Classical.not_not, lcm_lt, lcm_ge, lcm_gt, lcm_le, lcm_eq] at bh4
        refine V.blk [(41, .goto 155, 3), (155, .iinc 2 1, 3), (158, .goto 22, 3)] (ps := [inR ((p : Int) + 1)]) (z' := (22, [some (aR 52), some (aI (n : Int)), some (aI ((p + 1 : Nat) : Int)), w3], [], MM N I' J)) (by decide +kernel) rfl (show (inR ((p : Int) + 1)) from (by unfold inR; first | omega | (rw [r55 (by omega) (by omega)]; omega))) ?_
        have hna : ¬ askd L r p = true := fun w => (hw8.mpr w) (by omega)
        have hn9 : ¬ tb (L 9 r) p = true := fun w => hna (askd_or.mpr (Or.inr w))
        exact ih (p + 1) I' _ (by omega) (by omega) ho (hR.iff (fun b _ => by rw [ex8_s]; simp [hna]) (fun b _ => by rw [ex9_s]; simp [hn9]))
theorem m_edgesOf {N : Nat} {I : MI} {J : MJ} {K : MI} {L : MJ} {n : Nat} (hn : n < 48) (hE : EdH K L I) : CT 127 [aR 52, aI (n : Int)] (MM N I J) (fun rv M' => rv = none ∧ ∃ I', M' = MM N I' J ∧ (∀ i, i ≠ 78 → i ≠ 79 → i ≠ 80 → i ≠ 81 → I' i = I i) ∧ EdR I n (fun b => EX8 K L (cbX K (I 52 37)) n b) (fun b => EX9 K L (cbX K (I 52 37)) n b) I') := by
  have h7 := hE.2.1.rt.2.2 n hn
  have h58 : I 58 n = K 7 n := hE.2.2.2.2.2.2.2.1.2 n hn
  refine CT.ofV (n := 4) (ls := [some (aR 52), some (aI (n : Int)), none, none]) rfl rfl rfl ?_
  refine V.blk [(0, .aload 0, 1), (1, .getfield 10006, 3), (4, .iload 1, 1), (5, .iaload, 1), (6, .ifCond .ge 10, 3)] (ps := [0 ≤ (n : Int) ∧ (n : Int) < 48]) (z' := (brc .ge (I 58 n) 0 10 9, [some (aR 52), some (aI (n : Int)), none, none], [], MM N I J)) (by decide +kernel) rfl (show (0 ≤ (n : Int) ∧ (n : Int) < 48) from (by omega)) ?_
  refine V.ge (fun bh1 => ?_) (fun bh2 => ?_)
  · skip
    try simp only [b2_cast, b2_ncast, Classical.not_not, lcm_lt, lcm_ge, lcm_gt, lcm_le, lcm_eq] at bh1
    refine V.blk [(10, .aload 0, 1), (11, .aload 0, 1), (12, .getfield 10006, 3), (15, .iload 1, 1), (16, .iaload, 1)] (ps := [0 ≤ (n : Int) ∧ (n : Int) < 48]) (z' := (17, [some (aR 52), some (aI (n : Int)), none, none], [aI (I 58 n), aR 52], MM N I J)) (by decide +kernel) rfl (show (0 ≤ (n : Int) ∧ (n : Int) < 48) from (by omega)) ?_
    obtain ⟨r, er⟩ : ∃ r : Nat, K 7 n = r := ⟨(K 7 n).toNat, by omega⟩
    rw [show I 58 n = (r : Int) by omega]
    refine V.cv (c := 126) (na := 2) (o := 10) (a := 52) [aI (r : Int)] [] (by decide +kernel) rfl rfl rfl rfl rfl ((m_want (by omega) hE).mono (fun rv M1 q => ?_))
    obtain ⟨rfl, IW, rfl, w1, w2⟩ := q
    show V 127 (20, [some (aR 52), some (aI (n : Int)), none, none], [], MM N IW J) _
    refine V.blk [(20, .bipush 0, 1), (21, .istore 2, 1)] (ps := []) (z' := (22, [some (aR 52), some (aI (n : Int)), some (aI 0), none], [], MM N IW J)) (by decide +kernel) rfl trivial ?_
    have hEW : EdH K L IW := hE.keep0 fun i b => w1 i (by omega) (by omega)
    have hz8 : ∀ b, ¬ ex8 K L (cbX K (IW 52 37)) r 0 n b := fun b w => by obtain ⟨q, hq, -⟩ := w; omega
    have hz9 : ∀ b, ¬ ex9 K L (cbX K (IW 52 37)) r 0 n b := fun b w => by obtain ⟨q, hq, -⟩ := w; omega
    refine (l_edges (N := N) (J := J) hn hEW er (by omega) w2 (r + 2) 0 IW none (by omega) (by omega) (fun _ _ _ => rfl) (EdR.zero.iff (fun b _ => by simp [hz8]) (fun b _ => by simp [hz9]))).mono (fun rv M2 q => ?_)
    obtain ⟨rfl, I9, rfl, g1, g2⟩ := q
    have e37 : IW 52 37 = I 52 37 := by rw [w1 52 (by decide) (by decide)]
    refine ⟨rfl, I9, rfl, fun i a b c d => (g1 i a b).trans (w1 i c d), ?_⟩
    intro a b ha hb
    have g := g2 a b ha hb
    rw [w1 78 (by decide) (by decide), w1 79 (by decide) (by decide), e37] at g
    unfold EX8 EX9
    rw [er]
    rw [show ((r : Int) + 1).toNat = r + 1 by omega]
    exact g
  · skip
    try simp only [b2_cast, b2_ncast, Classical.not_not, lcm_lt, lcm_ge, lcm_gt, lcm_le, lcm_eq] at bh2
    refine V.rv (by decide +kernel) ?_
    refine ⟨rfl, I, rfl, fun _ _ _ _ _ => rfl, EdR.zero.iff (fun b _ => ?_) (fun b _ => ?_)⟩
    · refine ⟨fun w => ?_, fun w => w.elim⟩
      obtain ⟨q, hq, -⟩ := w
      omega
    · refine ⟨fun w => ?_, fun w => w.elim⟩
      obtain ⟨q, hq, -⟩ := w
      omega
theorem l_fe2 {N : Nat} {I : MI} {J : MJ} {K : MI} {L : MJ} (hE : EdH K L I) : ∀ (k n : Nat) (I' : MI), 49 ≤ k + n → n ≤ 48 → (∀ i, i ≠ 78 → i ≠ 79 → i ≠ 80 → i ≠ 81 → I' i = I i) → (∀ a b, a < 48 → b < 48 → (I' 78 (48 * a + b) ≠ 0 ↔ a < n ∧ EX8 K L (cbX K (I 52 37)) a b) ∧ (I' 79 (48 * a + b) ≠ 0 ↔ a < n ∧ EX9 K L (cbX K (I 52 37)) a b)) → V 130 (31, [some (aR 52), some (aI (n : Int))], [], MM N I' J) (fun rv M' => rv = none ∧ ∃ I', M' = MM N I' J ∧ (∀ i, i ≠ 78 → i ≠ 79 → i ≠ 80 → i ≠ 81 → I' i = I i) ∧ ∀ a b, a < 48 → b < 48 → (I' 78 (48 * a + b) ≠ 0 ↔ EX8 K L (cbX K (I 52 37)) a b) ∧ (I' 79 (48 * a + b) ≠ 0 ↔ EX9 K L (cbX K (I 52 37)) a b)) := by
  intro k
  induction k with
  | zero => intro n I' h1 h2; exfalso; omega
  | succ k ih =>
    intro n I' h1 h2 ho hR
    have hE2 : EdH K L I' := hE.keep0 fun i b => ho i (by omega) (by omega) (by omega) (by omega)
    have h37 : I' 52 37 = I 52 37 := by rw [ho 52 (by decide) (by decide) (by decide) (by decide)]
    refine V.blk [(31, .iload 1, 1), (32, .bipush 48, 2), (34, .if_icmp .ge 48, 3)] (ps := []) (z' := (brc .ge (n : Int) 48 48 37, [some (aR 52), some (aI (n : Int))], [], MM N I' J)) (by decide +kernel) rfl trivial ?_
    refine V.ge (fun bh1 => ?_) (fun bh2 => ?_)
    · skip
      try simp only [b2_cast, b2_ncast, Classical.not_not, lcm_lt, lcm_ge, lcm_gt, lcm_le, lcm_eq] at bh1
      refine V.rv (by decide +kernel) ?_
      refine ⟨rfl, I', rfl, ho, fun a b ha hb => ?_⟩
      have h := hR a b ha hb
      have e : a < n := by omega
      simp only [e, true_and] at h
      exact h
    · skip
      try simp only [b2_cast, b2_ncast, Classical.not_not, lcm_lt, lcm_ge, lcm_gt, lcm_le, lcm_eq] at bh2
      refine V.blk [(37, .aload 0, 1), (38, .iload 1, 1)] (ps := []) (z' := (39, [some (aR 52), some (aI (n : Int))], [aI (n : Int), aR 52], MM N I' J)) (by decide +kernel) rfl trivial ?_
      refine V.cv (c := 127) (na := 2) (o := 10) (a := 52) [aI (n : Int)] [] (by decide +kernel) rfl rfl rfl rfl rfl ((m_edgesOf (by omega) hE2).mono (fun rv M1 q => ?_))
      obtain ⟨rfl, IC, rfl, c1, c2⟩ := q
      rw [h37] at c2
      show V 130 (42, [some (aR 52), some (aI (n : Int))], [], MM N IC J) _
      refine V.blk [(42, .iinc 1 1, 3), (45, .goto 31, 3)] (ps := [inR ((n : Int) + 1)]) (z' := (31, [some (aR 52), some (aI ((n + 1 : Nat) : Int))], [], MM N IC J)) (by decide +kernel) rfl (show (inR ((n : Int) + 1)) from (by unfold inR; omega)) ?_
      refine ih (n + 1) IC (by omega) (by omega) (fun i a b c d => (c1 i a b c d).trans (ho i a b c d)) (fun a b ha hb => ?_)
      have g := c2 a b ha hb
      have h := hR a b ha hb
      rw [g.1, g.2, h.1, h.2]
      by_cases e : a = n
      · subst e
        simp
      · have e2 : a < n + 1 ↔ a < n := by omega
        simp [e, e2]
theorem l_fe1 {N : Nat} {I : MI} {J : MJ} {K : MI} {L : MJ} (hE : EdH K L I) : ∀ (k e : Nat) (I' : MI), 2305 ≤ k + e → e ≤ 2304 → (∀ i, i ≠ 78 → i ≠ 79 → I' i = I i) → (∀ q, q < e → I' 78 q = 0 ∧ I' 79 q = 0) → V 130 (2, [some (aR 52), some (aI (e : Int))], [], MM N I' J) (fun rv M' => rv = none ∧ ∃ I', M' = MM N I' J ∧ (∀ i, i ≠ 78 → i ≠ 79 → i ≠ 80 → i ≠ 81 → I' i = I i) ∧ ∀ a b, a < 48 → b < 48 → (I' 78 (48 * a + b) ≠ 0 ↔ EX8 K L (cbX K (I 52 37)) a b) ∧ (I' 79 (48 * a + b) ≠ 0 ↔ EX9 K L (cbX K (I 52 37)) a b)) := by
  intro k
  induction k with
  | zero => intro e I' h1 h2; exfalso; omega
  | succ k ih =>
    intro e I' h1 h2 ho hz
    refine V.blk [(2, .iload 1, 1), (3, .bipush 2304, 3), (6, .if_icmp .ge 29, 3)] (ps := []) (z' := (brc .ge (e : Int) 2304 29 9, [some (aR 52), some (aI (e : Int))], [], MM N I' J)) (by decide +kernel) rfl trivial ?_
    refine V.ge (fun bh1 => ?_) (fun bh2 => ?_)
    · skip
      try simp only [b2_cast, b2_ncast, Classical.not_not, lcm_lt, lcm_ge, lcm_gt, lcm_le, lcm_eq] at bh1
      refine V.blk [(29, .bipush 0, 1), (30, .istore 1, 1)] (ps := []) (z' := (31, [some (aR 52), some (aI 0)], [], MM N I' J)) (by decide +kernel) rfl trivial ?_
      have hE2 : EdH K L I' := hE.keep0 fun i b => ho i (by omega) (by omega)
      have h37 : I' 52 37 = I 52 37 := by rw [ho 52 (by decide) (by decide)]
      refine (l_fe2 (N := N) (J := J) hE2 49 0 I' (by omega) (by omega) (fun _ _ _ _ _ => rfl) (fun a b ha hb => ?_)).mono (fun rv M2 q => ?_)
      · have z := hz (48 * a + b) (by omega)
        rw [z.1, z.2]
        simp
      · obtain ⟨rfl, I9, rfl, g1, g2⟩ := q
        rw [h37] at g2
        exact ⟨rfl, I9, rfl, fun i a b c d => (g1 i a b c d).trans (ho i a b), g2⟩
    · skip
      try simp only [b2_cast, b2_ncast, Classical.not_not, lcm_lt, lcm_ge, lcm_gt, lcm_le, lcm_eq] at bh2
      refine V.blk [(9, .aload 0, 1), (10, .getfield 10033, 3), (13, .iload 1, 1), (14, .bipush 0, 1), (15, .bastore, 1), (16, .aload 0, 1), (17, .getfield 10034, 3), (20, .iload 1, 1), (21, .bipush 0, 1), (22, .bastore, 1), (23, .iinc 1 1, 3), (26, .goto 2, 3)] (ps := [0 ≤ (e : Int) ∧ (e : Int) < 2304, 0 ≤ 0 ∧ 0 ≤ 1, 0 ≤ (e : Int) ∧ (e : Int) < 2304, 0 ≤ 0 ∧ 0 ≤ 1, inR ((e : Int) + 1)]) (z' := (2, [some (aR 52), some (aI ((e + 1 : Nat) : Int))], [], MM N (ma (ma I' 78 (ma (I' 78) e 0)) 79 (ma ((ma I' 78 (ma (I' 78) e 0)) 79) e 0)) J)) (by decide +kernel) rfl (show (0 ≤ (e : Int) ∧ (e : Int) < 2304) ∧ (0 ≤ 0 ∧ 0 ≤ 1) ∧ (0 ≤ (e : Int) ∧ (e : Int) < 2304) ∧ (0 ≤ 0 ∧ 0 ≤ 1) ∧ (inR ((e : Int) + 1)) from ⟨(by omega), (by omega), (by omega), (by omega), (by unfold inR; omega)⟩) ?_
      refine V.nI (fun I3 eI3 => ?_)
      refine ih (e + 1) I3 (by omega) (by omega) (fun i a b => by rw [eI3]; simp only [ma_ne, ne_eq, a, b, not_false_eq_true]; exact ho i a b) (fun q hq => ?_)
      rw [eI3]
      simp only [ma_self, ma_ne, ne_eq, reduceCtorEq, not_false_eq_true, Nat.reduceEqDiff]
      by_cases c : q = e
      · subst c
        rw [ma_self, ma_self]
        exact ⟨rfl, rfl⟩
      · rw [ma_ne _ _ c, ma_ne _ _ c]
        exact hz q (by omega)
theorem m_findEdges {N : Nat} {I : MI} {J : MJ} {K : MI} {L : MJ} (hE : EdH K L I) : CT 130 [aR 52] (MM N I J) (fun rv M' => rv = none ∧ ∃ I', M' = MM N I' J ∧ (∀ i, i ≠ 78 → i ≠ 79 → i ≠ 80 → i ≠ 81 → I' i = I i) ∧ ∀ a b, a < 48 → b < 48 → (I' 78 (48 * a + b) ≠ 0 ↔ EX8 K L (cbX K (I 52 37)) a b) ∧ (I' 79 (48 * a + b) ≠ 0 ↔ EX9 K L (cbX K (I 52 37)) a b)) := by
  refine CT.ofV (n := 2) (ls := [some (aR 52), none]) rfl rfl rfl ?_
  refine V.blk [(0, .bipush 0, 1), (1, .istore 1, 1)] (ps := []) (z' := (2, [some (aR 52), some (aI 0)], [], MM N I J)) (by decide +kernel) rfl trivial ?_
  exact l_fe1 hE 2305 0 I (by omega) (by omega) (fun _ _ _ => rfl) (fun q hq => by omega)
