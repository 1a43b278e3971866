/-! ===== the reference: costs of all spots ===== -/
theorem l_costAt {N : Nat} {I : MI} {J : MJ} {K : MI} {L : MJ} {cp : Nat → Bool} {s r pe : Nat} (hH : SH K L cp I) (hs : (s : Int) < K 1 1 * 8) (er : K 7 (kS K s) = (r : Int)) (hr : r < 64) (hpe : pe < 64) (hc : CPos (I 89)) {tv : Int64} (hw : ∀ q, q < 64 → (I 80 q ≠ 0 ↔ askd L r q = true)) (hpl : ∀ q, q < 64 → askd L r q = true → J 85 q = pl K cp (J 83) s q) : ∀ (k p : Nat) (I' : MI), r + 2 ≤ k + p → p ≤ r + 1 → (∀ i, i ≠ 90 → I' i = I i) → (∀ q, q < p → askd L r q = true → I' 90 q = pr K cp (J 83) (I 89) pe s q) → V 181 (21, [some (aR 52), some (aI (s : Int)), some (aI (pe : Int)), some (aI (r : Int)), some (aL (tv)), none, some (aI (p : Int))], [], MM N I' J) (fun rv M' => ∃ I', rv = some (aI (pr K cp (J 83) (I 89) pe s r)) ∧ M' = MM N I' J ∧ (∀ i, i ≠ 90 → I' i = I i) ∧ ∀ q, q < 64 → askd L r q = true → I' 90 q = pr K cp (J 83) (I 89) pe s q) := by
  intro k
  induction k with
  | zero => intro p I' h1 h2; exfalso; omega
  | succ k ih =>
    intro p I' h1 h2 ho ht
    have h40 := hH.1.1.2.1
    have hsv := hH.1.2.2.1
    have hl := hH.1.2.1.rt.2.1
    have e80 : I' 80 = I 80 := ho 80 (by decide)
    have e89 : I' 89 = I 89 := ho 89 (by decide)
    have hH' : SH K L cp I' := hH.keep fun i hi => ho i (by omega)
    have hin := pr_in (cp := cp) (v := J 83) (c := I 89) (pe := pe) (s := s) hl hH.2.1.2.2.1 hH.2.1.2.2.2.1 (by omega) hc
    refine V.blk [(21, .iload 6, 2), (23, .iload 3, 1), (24, .if_icmp .gt 91, 3)] (ps := []) (z' := (brc .gt (p : Int) (r : Int) 91 27, [some (aR 52), some (aI (s : Int)), some (aI (pe : Int)), some (aI (r : Int)), some (aL (tv)), none, some (aI (p : Int))], [], MM N I' J)) (by decide +kernel) rfl trivial ?_
    refine V.gt (fun bh1 => ?_) (fun bh2 => ?_)
    · skip
      try simp only [b2_cast, b2_ncast, Classical.not_not, lcm_lt, lcm_ge, lcm_gt, lcm_le, lcm_eq, b2_0, b2_n0, b2_e1, b2_e0, Bool.not_eq_false, Bool.not_eq_true, decide_eq_true_eq, decide_eq_false_iff_not, Classical.not_not] at bh1
      refine V.blk [(91, .aload 0, 1), (92, .getfield 10051, 3), (95, .iload 3, 1), (96, .iaload, 1)] (ps := [0 ≤ (r : Int) ∧ (r : Int) < 64]) (z' := (97, [some (aR 52), some (aI (s : Int)), some (aI (pe : Int)), some (aI (r : Int)), some (aL (tv)), none, some (aI (p : Int))], [aI (I' 90 r)], MM N I' J)) (by decide +kernel) rfl (show (0 ≤ (r : Int) ∧ (r : Int) < 64) from (by omega)) ?_
      refine V.ri (by decide +kernel) ?_
      have hrr : askd L r r = true := by rw [askd_or]; exact Or.inl (sv_self hsv hr)
      refine ⟨I', congrArg (fun w => some (aI w)) (ht r (by omega) hrr), rfl, ho, fun q hq hqa => ht q ?_ hqa⟩
      have : q ≤ r := by
        have := sv_lt hsv hl r hr q hq
        rw [askd_or] at hqa
        rcases hqa with w | w
        · exact this.1 w
        · exact Nat.le_of_lt (this.2 w)
      omega
    · skip
      try simp only [b2_cast, b2_ncast, Classical.not_not, lcm_lt, lcm_ge, lcm_gt, lcm_le, lcm_eq, b2_0, b2_n0, b2_e1, b2_e0, Bool.not_eq_false, Bool.not_eq_true, decide_eq_true_eq, decide_eq_false_iff_not, Classical.not_not] at bh2
      refine V.blk [(27, .aload 0, 1), (28, .getfield 10035, 3), (31, .iload 6, 2), (33, .baload, 1), (34, .ifCond .eq 52, 3)] (ps := [0 ≤ (p : Int) ∧ (p : Int) < 64]) (z' := (brc .eq (I' 80 p) 0 52 37, [some (aR 52), some (aI (s : Int)), some (aI (pe : Int)), some (aI (r : Int)), some (aL (tv)), none, some (aI (p : Int))], [], MM N I' J)) (by decide +kernel) rfl (show (0 ≤ (p : Int) ∧ (p : Int) < 64) from (by omega)) ?_
      refine V.eq (fun bh3 => ?_) (fun bh4 => ?_)
      · skip
        try simp only [b2_cast, b2_ncast, Classical.not_not, lcm_lt, lcm_ge, lcm_gt, lcm_le, lcm_eq, b2_0, b2_n0, b2_e1, b2_e0, Bool.not_eq_false, Bool.not_eq_true, decide_eq_true_eq, decide_eq_false_iff_not, Classical.not_not] at bh3
        refine V.blk [(52, .aload 0, 1), (53, .getfield 10035, 3), (56, .iload 6, 2), (58, .baload, 1), (59, .ifCond .eq 85, 3)] (ps := [0 ≤ (p : Int) ∧ (p : Int) < 64]) (z' := (brc .eq (I' 80 p) 0 85 62, [some (aR 52), some (aI (s : Int)), some (aI (pe : Int)), some (aI (r : Int)), some (aL (tv)), none, some (aI (p : Int))], [], MM N I' J)) (by decide +kernel) rfl (show (0 ≤ (p : Int) ∧ (p : Int) < 64) from (by omega)) ?_
        refine V.eq (fun bh5 => ?_) (fun bh6 => ?_)
        · skip
          try simp only [b2_cast, b2_ncast, Classical.not_not, lcm_lt, lcm_ge, lcm_gt, lcm_le, lcm_eq, b2_0, b2_n0, b2_e1, b2_e0, Bool.not_eq_false, Bool.not_eq_true, decide_eq_true_eq, decide_eq_false_iff_not, Classical.not_not] at bh5
          refine V.blk [(85, .iinc 6 1, 3), (88, .goto 21, 3)] (ps := [inR ((p : Int) + 1)]) (z' := (21, [some (aR 52), some (aI (s : Int)), some (aI (pe : Int)), some (aI (r : Int)), some (aL (tv)), none, some (aI ((p + 1 : Nat) : Int))], [], MM N I' J)) (by decide +kernel) rfl (show (inR ((p : Int) + 1)) from (by unfold inR; omega)) ?_
          first
            | (refine ih (p + 1) I' (by omega) (by omega) ho (fun q hq hqa => ?_)
               by_cases e : q = p
               · subst e
                 exact absurd ((hw q (by omega)).mpr hqa) (by rw [← e80]; first | assumption | (simp only [ne_eq, Classical.not_not]; assumption))
               · exact ht q (by omega) hqa)
            | (exfalso; omega)
        · skip
          try simp only [b2_cast, b2_ncast, Classical.not_not, lcm_lt, lcm_ge, lcm_gt, lcm_le, lcm_eq, b2_0, b2_n0, b2_e1, b2_e0, Bool.not_eq_false, Bool.not_eq_true, decide_eq_true_eq, decide_eq_false_iff_not, Classical.not_not] at bh6
          refine V.blk [(62, .aload 0, 1), (63, .getfield 10051, 3), (66, .iload 6, 2), (68, .iaload, 1), (69, .bipush 1000000, 3), (72, .if_icmp .le 85, 3)] (ps := [0 ≤ (p : Int) ∧ (p : Int) < 64]) (z' := (brc .le (I' 90 p) 1000000 85 75, [some (aR 52), some (aI (s : Int)), some (aI (pe : Int)), some (aI (r : Int)), some (aL (tv)), none, some (aI (p : Int))], [], MM N I' J)) (by decide +kernel) rfl (show (0 ≤ (p : Int) ∧ (p : Int) < 64) from (by omega)) ?_
          refine V.le (fun bh7 => ?_) (fun bh8 => ?_)
          · skip
            try simp only [b2_cast, b2_ncast, Classical.not_not, lcm_lt, lcm_ge, lcm_gt, lcm_le, lcm_eq, b2_0, b2_n0, b2_e1, b2_e0, Bool.not_eq_false, Bool.not_eq_true, decide_eq_true_eq, decide_eq_false_iff_not, Classical.not_not] at bh7
            refine V.blk [(85, .iinc 6 1, 3), (88, .goto 21, 3)] (ps := [inR ((p : Int) + 1)]) (z' := (21, [some (aR 52), some (aI (s : Int)), some (aI (pe : Int)), some (aI (r : Int)), some (aL (tv)), none, some (aI ((p + 1 : Nat) : Int))], [], MM N I' J)) (by decide +kernel) rfl (show (inR ((p : Int) + 1)) from (by unfold inR; omega)) ?_
            first
              | (refine ih (p + 1) I' (by omega) (by omega) ho (fun q hq hqa => ?_)
                 by_cases e : q = p
                 · subst e
                   exact absurd ((hw q (by omega)).mpr hqa) (by rw [← e80]; first | assumption | (simp only [ne_eq, Classical.not_not]; assumption))
                 · exact ht q (by omega) hqa)
              | (exfalso; omega)
          · skip
            try simp only [b2_cast, b2_ncast, Classical.not_not, lcm_lt, lcm_ge, lcm_gt, lcm_le, lcm_eq, b2_0, b2_n0, b2_e1, b2_e0, Bool.not_eq_false, Bool.not_eq_true, decide_eq_true_eq, decide_eq_false_iff_not, Classical.not_not] at bh8
            refine V.blk [(75, .aload 0, 1), (76, .getfield 10051, 3), (79, .iload 6, 2), (81, .bipush 1000000, 3), (84, .iastore, 1), (85, .iinc 6 1, 3), (88, .goto 21, 3)] (ps := [0 ≤ (p : Int) ∧ (p : Int) < 64, inR ((p : Int) + 1)]) (z' := (21, [some (aR 52), some (aI (s : Int)), some (aI (pe : Int)), some (aI (r : Int)), some (aL (tv)), none, some (aI ((p + 1 : Nat) : Int))], [], MM N (ma I' 90 (ma (I' 90) p 1000000)) J)) (by decide +kernel) rfl (show (0 ≤ (p : Int) ∧ (p : Int) < 64) ∧ (inR ((p : Int) + 1)) from ⟨(by omega), (by unfold inR; omega)⟩) ?_
            refine V.nI (fun I9 eI9 => ?_)
            exfalso
            omega
      · skip
        try simp only [b2_cast, b2_ncast, Classical.not_not, lcm_lt, lcm_ge, lcm_gt, lcm_le, lcm_eq, b2_0, b2_n0, b2_e1, b2_e0, Bool.not_eq_false, Bool.not_eq_true, decide_eq_true_eq, decide_eq_false_iff_not, Classical.not_not] at bh4
        have ha : askd L r p = true := (hw p (by omega)).mp (by rw [← e80]; assumption)
        have hcl := fun h4 h6 => askd_clo hsv hl hr (show p < 64 by omega) h4 h6 ha
        have hll := hl p (by omega)
        have hTc : 4 ≤ K 4 p → K 4 p ≤ 6 → I' 90 (K 5 p).toNat = pr K cp (J 83) (I 89) pe s (K 5 p).toNat ∧ I' 90 (K 6 p).toNat = pr K cp (J 83) (I 89) pe s (K 6 p).toNat := fun h4 h6 => by
          have a := hll h4 h6
          exact ⟨ht _ (by omega) (hcl h4 h6).1, ht _ (by omega) (hcl h4 h6).2⟩
        have hTd : 4 ≤ K 4 p → K 4 p ≤ 6 → (1 ≤ I' 90 (K 5 p).toNat ∧ I' 90 (K 5 p).toNat ≤ 1000000) ∧ (1 ≤ I' 90 (K 6 p).toNat ∧ I' 90 (K 6 p).toNat ≤ 1000000) := fun h4 h6 => by
          have a := hll h4 h6
          rw [(hTc h4 h6).1, (hTc h4 h6).2]
          exact ⟨hin _ (by omega), hin _ (by omega)⟩
        refine V.blk [(37, .aload 0, 1), (38, .getfield 10051, 3), (41, .iload 6, 2), (43, .aload 0, 1), (44, .iload 6, 2), (46, .iload 1, 1), (47, .iload 2, 1)] (ps := []) (z' := (48, [some (aR 52), some (aI (s : Int)), some (aI (pe : Int)), some (aI (r : Int)), some (aL (tv)), none, some (aI (p : Int))], [aI (pe : Int), aI (s : Int), aI (p : Int), aR 52, aI (p : Int), aR 90], MM N I' J)) (by decide +kernel) rfl trivial ?_
        refine V.cv (c := 177) (na := 4) (o := 10) (a := 52) [aI (pe : Int), aI (s : Int), aI (p : Int)] [aI (p : Int), aR 90] (by decide +kernel) rfl rfl rfl rfl rfl ((m_costOf (cp := cp) (L := L) hH' (by omega) (by omega) hpe (by rw [e89]; exact hc) hTd (fun h6 => hpl _ (by have := hll (by omega) (by omega); omega) (hcl (by omega) (by omega)).2)).mono (fun rv M1 q => ?_))
        obtain ⟨rr, rfl, rfl, c1, c2, c3⟩ := q
        have c4 : (if 1000000 < rr then 1000000 else rr) = pr K cp (J 83) (I 89) pe s p := by
          rw [c3, pr_eq hl (by omega), e89]
          exact prS_T hTc
        show V 181 (51, [some (aR 52), some (aI (s : Int)), some (aI (pe : Int)), some (aI (r : Int)), some (aL (tv)), none, some (aI (p : Int))], [aI rr, aI (p : Int), aR 90], MM N I' J) _
        refine V.blk [(51, .iastore, 1)] (ps := [0 ≤ (p : Int) ∧ (p : Int) < 64]) (z' := (52, [some (aR 52), some (aI (s : Int)), some (aI (pe : Int)), some (aI (r : Int)), some (aL (tv)), none, some (aI (p : Int))], [], MM N (ma I' 90 (ma (I' 90) p rr)) J)) (by decide +kernel) rfl (show (0 ≤ (p : Int) ∧ (p : Int) < 64) from (by omega)) ?_
        refine V.nI (fun I10 eI10 => ?_)
        have f0 : ∀ i, i ≠ 90 → I10 i = I' i := fun i a => by rw [eI10, ma_ne _ _ a]
        have f90 : I10 90 = ma (I' 90) p rr := by rw [eI10, ma_self]
        have f80 : I10 80 p = I' 80 p := by rw [f0 80 (by decide)]
        have f9p : I10 90 p = rr := by rw [f90, ma_self]
        refine V.blk [(52, .aload 0, 1), (53, .getfield 10035, 3), (56, .iload 6, 2), (58, .baload, 1), (59, .ifCond .eq 85, 3)] (ps := [0 ≤ (p : Int) ∧ (p : Int) < 64]) (z' := (brc .eq (I10 80 p) 0 85 62, [some (aR 52), some (aI (s : Int)), some (aI (pe : Int)), some (aI (r : Int)), some (aL (tv)), none, some (aI (p : Int))], [], MM N I10 J)) (by decide +kernel) rfl (show (0 ≤ (p : Int) ∧ (p : Int) < 64) from (by omega)) ?_
        refine V.eq (fun bh11 => ?_) (fun bh12 => ?_)
        · skip
          try simp only [b2_cast, b2_ncast, Classical.not_not, lcm_lt, lcm_ge, lcm_gt, lcm_le, lcm_eq, b2_0, b2_n0, b2_e1, b2_e0, Bool.not_eq_false, Bool.not_eq_true, decide_eq_true_eq, decide_eq_false_iff_not, Classical.not_not] at bh11
          refine V.blk [(85, .iinc 6 1, 3), (88, .goto 21, 3)] (ps := [inR ((p : Int) + 1)]) (z' := (21, [some (aR 52), some (aI (s : Int)), some (aI (pe : Int)), some (aI (r : Int)), some (aL (tv)), none, some (aI ((p + 1 : Nat) : Int))], [], MM N I10 J)) (by decide +kernel) rfl (show (inR ((p : Int) + 1)) from (by unfold inR; omega)) ?_
          have g0 := f0
          have g90 : I10 90 = ma (I' 90) p (if 1000000 < rr then 1000000 else rr) := by rw [if_neg (show ¬ 1000000 < rr by omega)]; exact f90
          refine ih (p + 1) I10 (by omega) (by omega) (fun i a => (g0 i a).trans (ho i a)) (fun q hq hqa => ?_)
          rw [g90]
          by_cases e : q = p
          · subst e
            rw [ma_self]
            exact c4
          · rw [ma_ne _ _ e]
            exact ht q (by omega) hqa
        · skip
          try simp only [b2_cast, b2_ncast, Classical.not_not, lcm_lt, lcm_ge, lcm_gt, lcm_le, lcm_eq, b2_0, b2_n0, b2_e1, b2_e0, Bool.not_eq_false, Bool.not_eq_true, decide_eq_true_eq, decide_eq_false_iff_not, Classical.not_not] at bh12
          refine V.blk [(62, .aload 0, 1), (63, .getfield 10051, 3), (66, .iload 6, 2), (68, .iaload, 1), (69, .bipush 1000000, 3), (72, .if_icmp .le 85, 3)] (ps := [0 ≤ (p : Int) ∧ (p : Int) < 64]) (z' := (brc .le (I10 90 p) 1000000 85 75, [some (aR 52), some (aI (s : Int)), some (aI (pe : Int)), some (aI (r : Int)), some (aL (tv)), none, some (aI (p : Int))], [], MM N I10 J)) (by decide +kernel) rfl (show (0 ≤ (p : Int) ∧ (p : Int) < 64) from (by omega)) ?_
          refine V.le (fun bh13 => ?_) (fun bh14 => ?_)
          · skip
            try simp only [b2_cast, b2_ncast, Classical.not_not, lcm_lt, lcm_ge, lcm_gt, lcm_le, lcm_eq, b2_0, b2_n0, b2_e1, b2_e0, Bool.not_eq_false, Bool.not_eq_true, decide_eq_true_eq, decide_eq_false_iff_not, Classical.not_not] at bh13
            refine V.blk [(85, .iinc 6 1, 3), (88, .goto 21, 3)] (ps := [inR ((p : Int) + 1)]) (z' := (21, [some (aR 52), some (aI (s : Int)), some (aI (pe : Int)), some (aI (r : Int)), some (aL (tv)), none, some (aI ((p + 1 : Nat) : Int))], [], MM N I10 J)) (by decide +kernel) rfl (show (inR ((p : Int) + 1)) from (by unfold inR; omega)) ?_
            have g0 := f0
            have g90 : I10 90 = ma (I' 90) p (if 1000000 < rr then 1000000 else rr) := by rw [if_neg (show ¬ 1000000 < rr by omega)]; exact f90
            refine ih (p + 1) I10 (by omega) (by omega) (fun i a => (g0 i a).trans (ho i a)) (fun q hq hqa => ?_)
            rw [g90]
            by_cases e : q = p
            · subst e
              rw [ma_self]
              exact c4
            · rw [ma_ne _ _ e]
              exact ht q (by omega) hqa
          · skip
            try simp only [b2_cast, b2_ncast, Classical.not_not, lcm_lt, lcm_ge, lcm_gt, lcm_le, lcm_eq, b2_0, b2_n0, b2_e1, b2_e0, Bool.not_eq_false, Bool.not_eq_true, decide_eq_true_eq, decide_eq_false_iff_not, Classical.not_not] at bh14
            refine V.blk [(75, .aload 0, 1), (76, .getfield 10051, 3), (79, .iload 6, 2), (81, .bipush 1000000, 3), (84, .iastore, 1), (85, .iinc 6 1, 3), (88, .goto 21, 3)] (ps := [0 ≤ (p : Int) ∧ (p : Int) < 64, inR ((p : Int) + 1)]) (z' := (21, [some (aR 52), some (aI (s : Int)), some (aI (pe : Int)), some (aI (r : Int)), some (aL (tv)), none, some (aI ((p + 1 : Nat) : Int))], [], MM N (ma I10 90 (ma (I10 90) p 1000000)) J)) (by decide +kernel) rfl (show (0 ≤ (p : Int) ∧ (p : Int) < 64) ∧ (inR ((p : Int) + 1)) from ⟨(by omega), (by unfold inR; omega)⟩) ?_
            refine V.nI (fun I15 eI15 => ?_)
            have g0 : ∀ i, i ≠ 90 → I15 i = I' i := fun i a => by rw [eI15, ma_ne _ _ a]; exact f0 i a
            have g90 : I15 90 = ma (I' 90) p (if 1000000 < rr then 1000000 else rr) := by rw [if_pos (show 1000000 < rr by omega), eI15, ma_self, f90, ma_ma]
            refine ih (p + 1) I15 (by omega) (by omega) (fun i a => (g0 i a).trans (ho i a)) (fun q hq hqa => ?_)
            rw [g90]
            by_cases e : q = p
            · subst e
              rw [ma_self]
              exact c4
            · rw [ma_ne _ _ e]
              exact ht q (by omega) hqa
theorem m_costAt {N : Nat} {I : MI} {J : MJ} {K : MI} {L : MJ} {cp : Nat → Bool} {s r pe : Nat} (hH : SH K L cp I) (hs : (s : Int) < K 1 1 * 8) (er : K 7 (kS K s) = (r : Int)) (hr : r < 64) (hpe : pe < 64) (hc : CPos (I 89)) : CT 181 [aR 52, aI (s : Int), aI (pe : Int)] (MM N I J) (fun rv M' => ∃ I' J', rv = some (aI (prT K cp (J 83) (I 89) pe s)) ∧ M' = MM N I' J' ∧ (∀ i, i ≠ 80 → i ≠ 81 → i ≠ 90 → I' i = I i) ∧ (∀ i, i ≠ 85 → J' i = J i) ∧ (∀ q, q < 64 → askd L r q = true → I' 90 q = pr K cp (J 83) (I 89) pe s q) ∧ ∀ q, q < 64 → askd L r q = true → J' 85 q = pl K cp (J 83) s q) := by
  have hT := hH.1.2.2.2.2.2.2.1
  have hkd := hH.1.1.2.2
  have h40 := hH.1.1.2.1
  have hks := kS_lt hkd (s := s) (by omega)
  have h58 : I 58 (kS K s) = (r : Int) := (hH.1.2.2.2.2.2.2.2.1.2 _ hks).trans er
  refine CT.ofV (n := 7) (ls := [some (aR 52), some (aI (s : Int)), some (aI (pe : Int)), none, none, none, none]) rfl rfl rfl ?_
  refine V.blk [(0, .aload 0, 1), (1, .getfield 10006, 3), (4, .aload 0, 1), (5, .iload 1, 1)] (ps := []) (z' := (6, [some (aR 52), some (aI (s : Int)), some (aI (pe : Int)), none, none, none, none], [aI (s : Int), aR 52, aR 58], MM N I J)) (by decide +kernel) rfl trivial ?_
  refine V.cv (c := 168) (na := 2) (o := 10) (a := 52) [aI (s : Int)] [aR 58] (by decide +kernel) rfl rfl rfl rfl rfl (V.pr (m_nodeOf (K := K) hT hkd (by omega) (by omega)) ?_)
  show V 181 (9, [some (aR 52), some (aI (s : Int)), some (aI (pe : Int)), none, none, none, none], [aI ((kS K s : Nat) : Int), aR 58], MM N I J) _
  refine V.blk [(9, .iaload, 1)] (ps := [0 ≤ ((kS K s : Nat) : Int) ∧ ((kS K s : Nat) : Int) < 48]) (z' := (10, [some (aR 52), some (aI (s : Int)), some (aI (pe : Int)), none, none, none, none], [aI (I 58 (kS K s))], MM N I J)) (by decide +kernel) rfl (show (0 ≤ ((kS K s : Nat) : Int) ∧ ((kS K s : Nat) : Int) < 48) from (by omega)) ?_
  rw [h58]
  refine V.blk [(10, .istore 3, 1), (11, .aload 0, 1), (12, .iload 1, 1)] (ps := []) (z' := (13, [some (aR 52), some (aI (s : Int)), some (aI (pe : Int)), some (aI (r : Int)), none, none, none], [aI (s : Int), aR 52], MM N I J)) (by decide +kernel) rfl trivial ?_
  refine V.cv (c := 169) (na := 2) (o := 10) (a := 52) [aI (s : Int)] [] (by decide +kernel) rfl rfl rfl rfl rfl ((m_asked hH hs er hr).mono (fun rv M1 q => ?_))
  obtain ⟨IA, JA, rfl, rfl, a1, a2, a3, a4⟩ := q
  show V 181 (16, [some (aR 52), some (aI (s : Int)), some (aI (pe : Int)), some (aI (r : Int)), none, none, none], [aL (tellV K cp (J 83) s)], MM N IA JA) _
  refine V.blk [(16, .lstore 4, 2), (18, .bipush 0, 1), (19, .istore 6, 2)] (ps := []) (z' := (21, [some (aR 52), some (aI (s : Int)), some (aI (pe : Int)), some (aI (r : Int)), some (aL (tellV K cp (J 83) s)), none, some (aI 0)], [], MM N IA JA)) (by decide +kernel) rfl trivial ?_
  have hH2 : SH K L cp IA := hH.keep fun i hi => a1 i (by omega) (by omega)
  have e83 : JA 83 = J 83 := a3 83 (by decide)
  have e89 : IA 89 = I 89 := a1 89 (by decide) (by decide)
  refine (l_costAt (N := N) (I := IA) (J := JA) hH2 hs er hr hpe (by rw [e89]; exact hc) a2 (fun q hq ha => by rw [a4 q hq ha, e83]) (r + 2) 0 IA (by omega) (by omega) (fun _ _ => rfl) (fun q hq => by omega)).mono (fun rv M2 q => ?_)
  obtain ⟨I9, rfl, rfl, g1, g2⟩ := q
  rw [e83, e89] at g2 ⊢
  refine ⟨I9, JA, ?_, rfl, fun i a b c => (g1 i c).trans (a1 i a b), a3, g2, a4⟩
  unfold prT
  rw [if_neg (by omega), er]
  rfl
theorem csF_top {K : MI} {cp : Nat → Bool} {v : SV} {pe : Nat} {c : Nat → Int} {n : Nat} (hn : n ≤ 320) (h : ∀ t, n ≤ t → t < 320 → tb (v t) pe = false) : ∀ t, t < 320 → csF K cp v pe 320 c t = csF K cp v pe n c t := by
  intro t ht
  rw [csF_mix (n := n) ht hn]
  split
  · rfl
  · rw [csF_at 320 t ht, h t (by omega) ht]
    rfl
theorem prT_cg {K : MI} {L : MJ} (h : ScP K L) {cp : Nat → Bool} {v : SV} {c d : Nat → Int} {pe s : Nat} (hs : s < 320) (e : ∀ r, r < 320 → c r = d r) : prT K cp v c pe s = prT K cp v d pe s :=
  Int.le_antisymm (prT_mono h.2.1 h.2.2.2.2.2.1 h.1 h.2.2.1 h.2.2.2.1 hs fun r hr => Int.le_of_eq (e r hr)) (prT_mono h.2.1 h.2.2.2.2.2.1 h.1 h.2.2.1 h.2.2.2.1 hs fun r hr => Int.le_of_eq (e r hr).symm)
theorem l_fcs {N : Nat} {I : MI} {J : MJ} {K : MI} {L : MJ} {cp : Nat → Bool} {pe : Nat} {v : SV} (hH : SH K L cp I) (hpe : pe < 64) (hv : J 83 = v) (hz : ∀ s : Nat, s < 320 → ¬ ((s : Int) < K 1 1 * 8 ∧ K 7 (kS K s) ≠ -1) → J 83 s = Int64.ofInt 0) {kk : Nat} {Q : Option AV → M5 → Prop} (cont : ∀ (ch : Int) (w3 w4 : Option AV) (I' : MI) (J' : MJ), (∀ i, i ≠ 80 → i ≠ 81 → i ≠ 89 → i ≠ 90 → I' i = I i) → (∀ i, i ≠ 85 → J' i = J i) → (∀ t, t < 320 → I' 89 t = cit K cp v pe (kk + 1) t) → ((ch = 0 ∧ ∀ t, t < 320 → cit K cp v pe (kk + 1) t = cit K cp v pe kk t) ∨ (ch = 1 ∧ ∃ t, t < 320 ∧ cit K cp v pe (kk + 1) t ≠ cit K cp v pe kk t)) → V 182 (114, [some (aR 52), some (aI (pe : Int)), some (aI ch), w3, w4], [], MM N I' J') Q) : ∀ (k s : Nat) (ch : Int) (w4 : Option AV) (I' : MI) (J' : MJ), 321 ≤ k + s → (s : Int) ≤ K 1 1 * 8 → (∀ i, i ≠ 80 → i ≠ 81 → i ≠ 89 → i ≠ 90 → I' i = I i) → (∀ i, i ≠ 85 → J' i = J i) → (∀ t, t < 320 → I' 89 t = csF K cp v pe s (cit K cp v pe kk) t) → ((ch = 0 ∧ ∀ t, t < 320 → csF K cp v pe s (cit K cp v pe kk) t = cit K cp v pe kk t) ∨ (ch = 1 ∧ ∃ t, t < s ∧ csF K cp v pe s (cit K cp v pe kk) t ≠ cit K cp v pe kk t)) → V 182 (34, [some (aR 52), some (aI (pe : Int)), some (aI ch), some (aI (s : Int)), w4], [], MM N I' J') Q := by
  intro k
  induction k with
  | zero =>
    intro s ch w4 I' J' h1 h2
    have h40 := hH.1.1.2.1
    exfalso; omega
  | succ k ih =>
    intro s ch w4 I' J' h1 h2 ho hj hcs hch
    have hT0 := hH.1.2.2.2.2.2.2.1
    have hkd := hH.1.1.2.2
    have h40 := hH.1.1.2.1
    have e52 : I' 52 1 = K 1 1 := by rw [ho 52 (by decide) (by decide) (by decide) (by decide)]; exact hT0.1
    have hH' : SH K L cp I' := hH.keep fun i hi => ho i (by omega) (by omega) (by omega) (by omega)
    have hT := hH'.1.2.2.2.2.2.2.1
    have e83 : J' 83 = v := (hj 83 (by decide)).trans hv
    have hsc := hH.2.1
    have hqc := csF_dn hsc (cit_q hsc (cp := cp) (v := v) (pe := pe) kk) s (by omega)
    have hcp : CPos (I' 89) := fun t ht => by rw [hcs t ht]; exact hqc.1.1 t ht
    refine V.blk [(34, .iload 3, 1), (35, .bipush 8, 2), (37, .aload 0, 1), (38, .getfield 10001, 3), (41, .imul, 1), (42, .if_icmp .ge 114, 3)] (ps := [inR (8 * (I' 52 1))]) (z' := (brc .ge (s : Int) (8 * (I' 52 1)) 114 45, [some (aR 52), some (aI (pe : Int)), some (aI ch), some (aI (s : Int)), w4], [], MM N I' J')) (by decide +kernel) rfl (show (inR (8 * (I' 52 1))) from (by unfold inR; omega)) ?_
    refine V.ge (fun bh1 => ?_) (fun bh2 => ?_)
    · skip
      try simp only [b2_cast, b2_ncast, Classical.not_not, lcm_lt, lcm_ge, lcm_gt, lcm_le, lcm_eq, b2_0, b2_n0, b2_e1, b2_e0, Bool.not_eq_false, Bool.not_eq_true, decide_eq_true_eq, decide_eq_false_iff_not, Classical.not_not] at bh1
      have hse : (s : Int) = K 1 1 * 8 := by omega
      have htop : ∀ t, t < 320 → cit K cp v pe (kk + 1) t = csF K cp v pe s (cit K cp v pe kk) t := csF_top (n := s) (by omega) (fun t a b => by
        have := hz t b (fun w => by omega)
        rw [hv] at this
        rw [this]
        exact tb_0 pe)
      refine cont ch _ _ I' J' ho hj (fun t ht => by rw [htop t ht]; exact hcs t ht) ?_
      rcases hch with ⟨w, w1⟩ | ⟨w1, t, w2, w3⟩
      · exact Or.inl ⟨w, fun t ht => by rw [htop t ht]; exact w1 t ht⟩
      · exact Or.inr ⟨w1, t, by omega, by rw [htop t (by omega)]; exact w3⟩
    · skip
      try simp only [b2_cast, b2_ncast, Classical.not_not, lcm_lt, lcm_ge, lcm_gt, lcm_le, lcm_eq, b2_0, b2_n0, b2_e1, b2_e0, Bool.not_eq_false, Bool.not_eq_true, decide_eq_true_eq, decide_eq_false_iff_not, Classical.not_not] at bh2
      have hs8 : (s : Int) < K 1 1 * 8 := by omega
      have hs3 : s < 320 := by omega
      have hks := kS_lt hkd (s := s) hs3
      have h58 : I' 58 (kS K s) = K 7 (kS K s) := hH'.1.2.2.2.2.2.2.2.1.2 _ hks
      have h7b := hsc.2.2.2.2.2.1 _ hks
      have hbit := shrl_0 (J' 83 s) (k := pe) hpe
      rw [e83] at hbit
      have hvs : J' 83 s = v s := by rw [e83]
      refine V.blk [(45, .aload 0, 1), (46, .getfield 10006, 3), (49, .aload 0, 1), (50, .iload 3, 1)] (ps := []) (z' := (51, [some (aR 52), some (aI (pe : Int)), some (aI ch), some (aI (s : Int)), w4], [aI (s : Int), aR 52, aR 58], MM N I' J')) (by decide +kernel) rfl trivial ?_
      refine V.cv (c := 168) (na := 2) (o := 10) (a := 52) [aI (s : Int)] [aR 58] (by decide +kernel) rfl rfl rfl rfl rfl (V.pr (m_nodeOf (K := K) hT hkd (by omega) (by omega)) ?_)
      show V 182 (54, [some (aR 52), some (aI (pe : Int)), some (aI ch), some (aI (s : Int)), w4], [aI ((kS K s : Nat) : Int), aR 58], MM N I' J') _
      refine V.blk [(54, .iaload, 1), (55, .ifCond .lt 108, 3)] (ps := [0 ≤ ((kS K s : Nat) : Int) ∧ ((kS K s : Nat) : Int) < 48]) (z' := (brc .lt (I' 58 (kS K s)) 0 108 58, [some (aR 52), some (aI (pe : Int)), some (aI ch), some (aI (s : Int)), w4], [], MM N I' J')) (by decide +kernel) rfl (show (0 ≤ ((kS K s : Nat) : Int) ∧ ((kS K s : Nat) : Int) < 48) from (by omega)) ?_
      refine V.lt (fun bh3 => ?_) (fun bh4 => ?_)
      · skip
        try simp only [b2_cast, b2_ncast, Classical.not_not, lcm_lt, lcm_ge, lcm_gt, lcm_le, lcm_eq, b2_0, b2_n0, b2_e1, b2_e0, Bool.not_eq_false, Bool.not_eq_true, decide_eq_true_eq, decide_eq_false_iff_not, Classical.not_not] at bh3
        refine V.blk [(108, .iinc 3 1, 3), (111, .goto 34, 3)] (ps := [inR ((s : Int) + 1)]) (z' := (34, [some (aR 52), some (aI (pe : Int)), some (aI ch), some (aI ((s + 1 : Nat) : Int)), w4], [], MM N I' J')) (by decide +kernel) rfl (show (inR ((s : Int) + 1)) from (by unfold inR; omega)) ?_
        have hb : tb (v s) pe = false := by
          first
            | (have := hz s hs3 (fun w => by omega)
               rw [hv] at this
               rw [this]
               exact tb_0 pe)
            | exact hbit.mp (show shrl (v s) (pe : Int) &&& Int64.ofInt 1 = Int64.ofInt 0 by rw [← e83]; assumption)
        have ecs : csF K cp v pe (s + 1) (cit K cp v pe kk) = csF K cp v pe s (cit K cp v pe kk) := by rw [csF, if_neg (by rw [hb]; decide)]
        refine ih (s + 1) ch _ I' J' (by omega) (by omega) ho hj (by rw [ecs]; exact hcs) ?_
        rw [ecs]
        rcases hch with w | ⟨w1, t, w2, w3⟩
        · exact Or.inl w
        · exact Or.inr ⟨w1, t, by omega, w3⟩
      · skip
        try simp only [b2_cast, b2_ncast, Classical.not_not, lcm_lt, lcm_ge, lcm_gt, lcm_le, lcm_eq, b2_0, b2_n0, b2_e1, b2_e0, Bool.not_eq_false, Bool.not_eq_true, decide_eq_true_eq, decide_eq_false_iff_not, Classical.not_not] at bh4
        refine V.blk [(58, .aload 0, 1), (59, .getfield 10044, 3), (62, .iload 3, 1), (63, .laload, 1), (64, .iload 1, 1), (65, .lshr, 1), (66, .jsr_w 1, 1), (67, .land, 1), (68, .jsr_w 0, 1), (69, .lcmp, 1), (70, .ifCond .ne 76, 3)] (ps := [0 ≤ (s : Int) ∧ (s : Int) < 320, 0 ≤ (pe : Int) ∧ (pe : Int) < 64]) (z' := (brc .ne (lcm ((shrl (J' 83 s) (pe : Int)) &&& (Int64.ofInt 1)) (Int64.ofInt 0)) 0 76 73, [some (aR 52), some (aI (pe : Int)), some (aI ch), some (aI (s : Int)), w4], [], MM N I' J')) (by decide +kernel) rfl (show (0 ≤ (s : Int) ∧ (s : Int) < 320) ∧ (0 ≤ (pe : Int) ∧ (pe : Int) < 64) from ⟨(by omega), (by omega)⟩) ?_
        refine V.ne (fun bh5 => ?_) (fun bh6 => ?_)
        · skip
          try simp only [b2_cast, b2_ncast, Classical.not_not, lcm_lt, lcm_ge, lcm_gt, lcm_le, lcm_eq, b2_0, b2_n0, b2_e1, b2_e0, Bool.not_eq_false, Bool.not_eq_true, decide_eq_true_eq, decide_eq_false_iff_not, Classical.not_not] at bh5
          obtain ⟨r, er⟩ : ∃ r : Nat, K 7 (kS K s) = (r : Int) := ⟨(K 7 (kS K s)).toNat, by omega⟩
          have hr : r < 64 := by omega
          have hb : tb (v s) pe = true := by
            by_cases c : tb (v s) pe = true
            · exact c
            · exact absurd (show shrl (J' 83 s) (pe : Int) &&& Int64.ofInt 1 = Int64.ofInt 0 from by rw [e83]; exact hbit.mpr (by simpa using c)) (by assumption)
          refine V.blk [(76, .aload 0, 1), (77, .iload 3, 1), (78, .iload 1, 1)] (ps := []) (z' := (79, [some (aR 52), some (aI (pe : Int)), some (aI ch), some (aI (s : Int)), w4], [aI (pe : Int), aI (s : Int), aR 52], MM N I' J')) (by decide +kernel) rfl trivial ?_
          refine V.cv (c := 181) (na := 3) (o := 10) (a := 52) [aI (pe : Int), aI (s : Int)] [] (by decide +kernel) rfl rfl rfl rfl rfl ((m_costAt (cp := cp) hH' hs8 er hr hpe hcp).mono (fun rv M1 q => ?_))
          obtain ⟨IC, JC, rfl, rfl, a1, a2, -, -⟩ := q
          have ez : prT K cp (J' 83) (I' 89) pe s = prT K cp v (csF K cp v pe s (cit K cp v pe kk)) pe s := by
            rw [e83]
            exact prT_cg hsc hs3 hcs
          rw [ez]
          obtain ⟨z, hzz⟩ : ∃ z, prT K cp v (csF K cp v pe s (cit K cp v pe kk)) pe s = z := ⟨_, rfl⟩
          rw [hzz]
          have c89 : IC 89 = I' 89 := a1 89 (by decide) (by decide) (by decide)
          have ecs : csF K cp v pe (s + 1) (cit K cp v pe kk) = ma (csF K cp v pe s (cit K cp v pe kk)) s z := by
            rw [csF, if_pos hb, hzz]
          have hzin := prT_in hsc (cp := cp) (v := v) (pe := pe) hs3 hqc.1.1
          rw [hzz] at hzin
          have eold : csF K cp v pe s (cit K cp v pe kk) s = cit K cp v pe kk s := csF_out s s (Nat.le_refl _)
          have hqle := hqc.1.2 s hs3 hb
          rw [hzz] at hqle
          have hcss := hcs s hs3
          show V 182 (82, [some (aR 52), some (aI (pe : Int)), some (aI ch), some (aI (s : Int)), w4], [aI z], MM N IC JC) _
          refine V.blk [(82, .istore 4, 2), (84, .iload 4, 2), (86, .aload 0, 1), (87, .getfield 10050, 3), (90, .iload 3, 1), (91, .iaload, 1), (92, .if_icmp .lt 98, 3)] (ps := [0 ≤ (s : Int) ∧ (s : Int) < 320]) (z' := (brc .lt z (IC 89 s) 98 95, [some (aR 52), some (aI (pe : Int)), some (aI ch), some (aI (s : Int)), some (aI z)], [], MM N IC JC)) (by decide +kernel) rfl (show (0 ≤ (s : Int) ∧ (s : Int) < 320) from (by omega)) ?_
          refine V.lt (fun bh7 => ?_) (fun bh8 => ?_)
          · skip
            try simp only [b2_cast, b2_ncast, Classical.not_not, lcm_lt, lcm_ge, lcm_gt, lcm_le, lcm_eq, b2_0, b2_n0, b2_e1, b2_e0, Bool.not_eq_false, Bool.not_eq_true, decide_eq_true_eq, decide_eq_false_iff_not, Classical.not_not] at bh7
            refine V.blk [(98, .aload 0, 1), (99, .getfield 10050, 3), (102, .iload 3, 1), (103, .iload 4, 2), (105, .iastore, 1), (106, .bipush 1, 1), (107, .istore 2, 1), (108, .iinc 3 1, 3), (111, .goto 34, 3)] (ps := [0 ≤ (s : Int) ∧ (s : Int) < 320, inR ((s : Int) + 1)]) (z' := (34, [some (aR 52), some (aI (pe : Int)), some (aI 1), some (aI ((s + 1 : Nat) : Int)), some (aI z)], [], MM N (ma IC 89 (ma (IC 89) s z)) JC)) (by decide +kernel) rfl (show (0 ≤ (s : Int) ∧ (s : Int) < 320) ∧ (inR ((s : Int) + 1)) from ⟨(by omega), (by unfold inR; omega)⟩) ?_
            refine V.nI (fun I9 eI9 => ?_)
            have f0 : ∀ i, i ≠ 89 → I9 i = IC i := fun i a => by rw [eI9, ma_ne _ _ a]
            have f89 : I9 89 = ma (I' 89) s z := by rw [eI9, ma_self, c89]
            refine ih (s + 1) 1 _ I9 JC (by omega) (by omega) (fun i a b c d => (f0 i c).trans ((a1 i a b d).trans (ho i a b c d))) (fun i a => (a2 i a).trans (hj i a)) (fun t ht => ?_) (Or.inr ⟨rfl, s, by omega, ?_⟩)
            · rw [ecs, f89]
              by_cases e : t = s
              · rw [e, ma_self, ma_self]
              · rw [ma_ne _ _ e, ma_ne _ _ e]
                exact hcs t ht
            · rw [ecs, ma_self]
              rw [c89] at *
              omega
          · skip
            try simp only [b2_cast, b2_ncast, Classical.not_not, lcm_lt, lcm_ge, lcm_gt, lcm_le, lcm_eq, b2_0, b2_n0, b2_e1, b2_e0, Bool.not_eq_false, Bool.not_eq_true, decide_eq_true_eq, decide_eq_false_iff_not, Classical.not_not] at bh8
            refine V.blk [(95, .goto 108, 3), (108, .iinc 3 1, 3), (111, .goto 34, 3)] (ps := [inR ((s : Int) + 1)]) (z' := (34, [some (aR 52), some (aI (pe : Int)), some (aI ch), some (aI ((s + 1 : Nat) : Int)), some (aI z)], [], MM N IC JC)) (by decide +kernel) rfl (show (inR ((s : Int) + 1)) from (by unfold inR; omega)) ?_
            have ezz : z = csF K cp v pe s (cit K cp v pe kk) s := by
              rw [c89] at *
              omega
            have ecs2 : csF K cp v pe (s + 1) (cit K cp v pe kk) = csF K cp v pe s (cit K cp v pe kk) := by rw [ecs, ezz, ma_id]
            refine ih (s + 1) ch _ IC JC (by omega) (by omega) (fun i a b c d => (a1 i a b d).trans (ho i a b c d)) (fun i a => (a2 i a).trans (hj i a)) (by rw [ecs2, c89]; exact hcs) ?_
            rw [ecs2]
            rcases hch with w | ⟨w1, t, w2, w3⟩
            · exact Or.inl w
            · exact Or.inr ⟨w1, t, by omega, w3⟩
        · skip
          try simp only [b2_cast, b2_ncast, Classical.not_not, lcm_lt, lcm_ge, lcm_gt, lcm_le, lcm_eq, b2_0, b2_n0, b2_e1, b2_e0, Bool.not_eq_false, Bool.not_eq_true, decide_eq_true_eq, decide_eq_false_iff_not, Classical.not_not] at bh6
          refine V.blk [(73, .goto 108, 3), (108, .iinc 3 1, 3), (111, .goto 34, 3)] (ps := [inR ((s : Int) + 1)]) (z' := (34, [some (aR 52), some (aI (pe : Int)), some (aI ch), some (aI ((s + 1 : Nat) : Int)), w4], [], MM N I' J')) (by decide +kernel) rfl (show (inR ((s : Int) + 1)) from (by unfold inR; omega)) ?_
          have hb : tb (v s) pe = false := by
            first
              | (have := hz s hs3 (fun w => by omega)
                 rw [hv] at this
                 rw [this]
                 exact tb_0 pe)
              | exact hbit.mp (show shrl (v s) (pe : Int) &&& Int64.ofInt 1 = Int64.ofInt 0 by rw [← e83]; assumption)
          have ecs : csF K cp v pe (s + 1) (cit K cp v pe kk) = csF K cp v pe s (cit K cp v pe kk) := by rw [csF, if_neg (by rw [hb]; decide)]
          refine ih (s + 1) ch _ I' J' (by omega) (by omega) ho hj (by rw [ecs]; exact hcs) ?_
          rw [ecs]
          rcases hch with w | ⟨w1, t, w2, w3⟩
          · exact Or.inl w
          · exact Or.inr ⟨w1, t, by omega, w3⟩
theorem l_fcw {N : Nat} {I : MI} {J : MJ} {K : MI} {L : MJ} {cp : Nat → Bool} {pe : Nat} {v : SV} (hH : SH K L cp I) (hpe : pe < 64) (hv : J 83 = v) (hz : ∀ s : Nat, s < 320 → ¬ ((s : Int) < K 1 1 * 8 ∧ K 7 (kS K s) ≠ -1) → J 83 s = Int64.ofInt 0) : ∀ (k kk : Nat) (ch : Int) (w3 w4 : Option AV) (I' : MI) (J' : MJ), 322 ≤ k + kk → kk ≤ 321 → (∀ i, i ≠ 80 → i ≠ 81 → i ≠ 89 → i ≠ 90 → I' i = I i) → (∀ i, i ≠ 85 → J' i = J i) → (∀ t, t < 320 → I' 89 t = cit K cp v pe kk t) → ((ch = 0 ∧ ∀ t, t < 320 → I' 89 t = cst K cp v pe t) ∨ (ch = 1 ∧ kk ≤ 320)) → V 182 (26, [some (aR 52), some (aI (pe : Int)), some (aI ch), w3, w4], [], MM N I' J') (fun rv M' => rv = none ∧ ∃ I' J', M' = MM N I' J' ∧ (∀ i, i ≠ 80 → i ≠ 81 → i ≠ 89 → i ≠ 90 → I' i = I i) ∧ (∀ i, i ≠ 85 → J' i = J i) ∧ ∀ t, t < 320 → I' 89 t = cst K cp v pe t) := by
  intro k
  induction k with
  | zero => intro kk ch w3 w4 I' J' h1 h2; exfalso; omega
  | succ k ih =>
    intro kk ch w3 w4 I' J' h1 h2 ho hj hk hch
    refine V.blk [(26, .iload 2, 1), (27, .ifCond .eq 117, 3)] (ps := []) (z' := (brc .eq ch 0 117 30, [some (aR 52), some (aI (pe : Int)), some (aI ch), w3, w4], [], MM N I' J')) (by decide +kernel) rfl trivial ?_
    refine V.eq (fun bh1 => ?_) (fun bh2 => ?_)
    · skip
      try simp only [b2_cast, b2_ncast, Classical.not_not, lcm_lt, lcm_ge, lcm_gt, lcm_le, lcm_eq, b2_0, b2_n0, b2_e1, b2_e0, Bool.not_eq_false, Bool.not_eq_true, decide_eq_true_eq, decide_eq_false_iff_not, Classical.not_not] at bh1
      refine V.rv (by decide +kernel) ?_
      refine ⟨rfl, I', J', rfl, ho, hj, ?_⟩
      rcases hch with ⟨-, w⟩ | ⟨w, -⟩
      · exact w
      · exfalso; omega
    · skip
      try simp only [b2_cast, b2_ncast, Classical.not_not, lcm_lt, lcm_ge, lcm_gt, lcm_le, lcm_eq, b2_0, b2_n0, b2_e1, b2_e0, Bool.not_eq_false, Bool.not_eq_true, decide_eq_true_eq, decide_eq_false_iff_not, Classical.not_not] at bh2
      refine V.blk [(30, .bipush 0, 1), (31, .istore 2, 1), (32, .bipush 0, 1), (33, .istore 3, 1)] (ps := []) (z' := (34, [some (aR 52), some (aI (pe : Int)), some (aI 0), some (aI 0), w4], [], MM N I' J')) (by decide +kernel) rfl trivial ?_
      have hsc := hH.2.1
      have h40 := hH.1.1.2.1
      have h400 := hH.1.1.1
      refine l_fcs (N := N) (I := I) (J := J) (kk := kk) hH hpe hv hz (fun ch2 w5 w6 I2 J2 g1 g2 g3 g4 => ?_) 321 0 0 _ I' J' (by omega) (by omega) ho hj (fun t ht => by rw [csF]; exact hk t ht) (Or.inl ⟨rfl, fun t ht => by rw [csF]⟩)
      refine V.blk [(114, .goto 26, 3)] (ps := []) (z' := (26, [some (aR 52), some (aI (pe : Int)), some (aI ch2), w5, w6], [], MM N I2 J2)) (by decide +kernel) rfl trivial ?_
      refine ih (kk + 1) ch2 _ _ I2 J2 (by omega) (by omega) g1 g2 g3 ?_
      rcases g4 with ⟨w, w1⟩ | ⟨w, t, w1, w2⟩
      · exact Or.inl ⟨w, fun t ht => by rw [g3 t ht, w1 t ht]; exact cst_of hsc w1 t ht⟩
      · refine Or.inr ⟨w, ?_⟩
        by_cases c : kk < 320
        · omega
        · exfalso
          have a := cst_more hsc (cp := cp) (v := v) (pe := pe) (kk - 320) t w1
          have b := cst_more hsc (cp := cp) (v := v) (pe := pe) (kk + 1 - 320) t w1
          rw [show 320 + (kk - 320) = kk by omega] at a
          rw [show 320 + (kk + 1 - 320) = kk + 1 by omega] at b
          omega
theorem l_fc0 {N : Nat} {I : MI} {J : MJ} {K : MI} {L : MJ} {cp : Nat → Bool} {pe : Nat} {v : SV} (hH : SH K L cp I) (hpe : pe < 64) (hv : J 83 = v) (hz : ∀ s : Nat, s < 320 → ¬ ((s : Int) < K 1 1 * 8 ∧ K 7 (kS K s) ≠ -1) → J 83 s = Int64.ofInt 0) : ∀ (k s : Nat) (I' : MI), 321 ≤ k + s → s ≤ 320 → (∀ i, i ≠ 89 → I' i = I i) → (∀ t, t < s → I' 89 t = 1000000) → V 182 (2, [some (aR 52), some (aI (pe : Int)), some (aI (s : Int)), none, none], [], MM N I' J) (fun rv M' => rv = none ∧ ∃ I' J', M' = MM N I' J' ∧ (∀ i, i ≠ 80 → i ≠ 81 → i ≠ 89 → i ≠ 90 → I' i = I i) ∧ (∀ i, i ≠ 85 → J' i = J i) ∧ ∀ t, t < 320 → I' 89 t = cst K cp v pe t) := by
  intro k
  induction k with
  | zero => intro s I' h1 h2; exfalso; omega
  | succ k ih =>
    intro s I' h1 h2 ho hc
    refine V.blk [(2, .iload 2, 1), (3, .bipush 320, 3), (6, .if_icmp .ge 24, 3)] (ps := []) (z' := (brc .ge (s : Int) 320 24 9, [some (aR 52), some (aI (pe : Int)), some (aI (s : Int)), none, none], [], MM N I' J)) (by decide +kernel) rfl trivial ?_
    refine V.ge (fun bh1 => ?_) (fun bh2 => ?_)
    · skip
      refine V.blk [(24, .bipush 1, 1), (25, .istore 2, 1)] (ps := []) (z' := (26, [some (aR 52), some (aI (pe : Int)), some (aI 1), none, none], [], MM N I' J)) (by decide +kernel) rfl trivial ?_
      exact l_fcw hH hpe hv hz 322 0 1 _ _ I' J (by omega) (by omega) (fun i a b c d => ho i c) (fun _ _ => rfl) (fun t ht => hc t (by omega)) (Or.inr ⟨rfl, by omega⟩)
    · skip
      refine V.blk [(9, .aload 0, 1), (10, .getfield 10050, 3), (13, .iload 2, 1), (14, .bipush 1000000, 3), (17, .iastore, 1), (18, .iinc 2 1, 3), (21, .goto 2, 3)] (ps := [0 ≤ (s : Int) ∧ (s : Int) < 320, inR ((s : Int) + 1)]) (z' := (2, [some (aR 52), some (aI (pe : Int)), some (aI ((s + 1 : Nat) : Int)), none, none], [], MM N (ma I' 89 (ma (I' 89) s 1000000)) J)) (by decide +kernel) rfl (show (0 ≤ (s : Int) ∧ (s : Int) < 320) ∧ (inR ((s : Int) + 1)) from ⟨(by omega), (by unfold inR; omega)⟩) ?_
      refine V.nI (fun I3 eI3 => ?_)
      refine ih (s + 1) I3 (by omega) (by omega) (fun i a => by rw [eI3, ma_ne _ _ a]; exact ho i a) (fun t ht => ?_)
      rw [eI3, ma_self]
      by_cases e : t = s
      · subst e; rw [ma_self]
      · rw [ma_ne _ _ e]; exact hc t (by omega)
theorem m_findCosts {N : Nat} {I : MI} {J : MJ} {K : MI} {L : MJ} {cp : Nat → Bool} {pe : Nat} {v : SV} (hH : SH K L cp I) (hpe : pe < 64) (hv : J 83 = v) (hz : ∀ s : Nat, s < 320 → ¬ ((s : Int) < K 1 1 * 8 ∧ K 7 (kS K s) ≠ -1) → J 83 s = Int64.ofInt 0) : CT 182 [aR 52, aI (pe : Int)] (MM N I J) (fun rv M' => rv = none ∧ ∃ I' J', M' = MM N I' J' ∧ (∀ i, i ≠ 80 → i ≠ 81 → i ≠ 89 → i ≠ 90 → I' i = I i) ∧ (∀ i, i ≠ 85 → J' i = J i) ∧ ∀ t, t < 320 → I' 89 t = cst K cp v pe t) := by
  refine CT.ofV (n := 5) (ls := [some (aR 52), some (aI (pe : Int)), none, none, none]) rfl rfl rfl ?_
  refine V.blk [(0, .bipush 0, 1), (1, .istore 2, 1)] (ps := []) (z' := (2, [some (aR 52), some (aI (pe : Int)), some (aI 0), none, none], [], MM N I J)) (by decide +kernel) rfl trivial ?_
  exact l_fc0 hH hpe hv hz 321 0 I (by omega) (by omega) (fun _ _ => rfl) (fun t ht => by omega)
