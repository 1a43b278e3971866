/-! ===== the reference: makes, commit ===== -/
theorem cl_aoU {P : MI} {a : Nat} {n i : Nat} (h9 : 0 ≤ P 10 9) : clB (aoU P a) (aoU P a 10 9).toNat n i ↔ clB P (P 10 9).toNat n i ∨ (P 26 a ≠ -1 ∧ clU P (P 23 a) (P 24 a) (P 25 a) n i) := by
  unfold aoU
  by_cases c : P 26 a = -1
  · rw [if_pos c]
    obtain ⟨v, v16, v20, vch, vk⟩ := remU_v P (stF P (P 23 a) (P 24 a) (P 25 a))
    unfold clB kn
    rw [vk 9 (by decide), v 17 (by decide) (by decide) (by decide), v 18 (by decide) (by decide) (by decide), v 2 (by decide) (by decide) (by decide)]
    simp [c]
  · rw [if_neg c]
    obtain ⟨v, v11, v12, v13, v14, v15, v16, v17, v18, v19, v20, v9, vch, vk⟩ := addU_v P (P 23 a) (P 24 a) (P 25 a) (P 26 a)
    rw [v9, show (P 10 9 + 1).toNat = (P 10 9).toNat + 1 by omega, clB_s]
    have e2 : kn (addU P (P 23 a) (P 24 a) (P 25 a) (P 26 a)) = kn P := by
      funext s
      unfold kn
      rw [v 2 (by decide) (by decide) (by decide) (by decide) (by decide) (by decide) (by decide) (by decide) (by decide) (by decide) (by decide)]
    have e1 : clB (addU P (P 23 a) (P 24 a) (P 25 a) (P 26 a)) (P 10 9).toNat n i ↔ clB P (P 10 9).toNat n i := by
      unfold clB
      refine ex_congr fun q => ?_
      rw [e2, v17, v18]
      constructor
      · rintro ⟨a1, a2, a3, a4⟩
        rw [ma_ne _ _ (by omega)] at a2 a3 a4
        exact ⟨a1, a2, a3, a4⟩
      · rintro ⟨a1, a2, a3, a4⟩
        rw [ma_ne _ _ (by omega), ma_ne _ _ (by omega)]
        exact ⟨a1, a2, a3, a4⟩
    rw [e1, e2, v17, v18, ma_self, ma_self]
    refine or_congr Iff.rfl ?_
    unfold clU
    have e3 : clubOf (P 25 a) ≠ -1 ↔ 1000 ≤ P 25 a := by
      unfold clubOf
      constructor
      · intro w
        apply Classical.byContradiction
        intro x
        rw [if_neg x] at w
        exact w rfl
      · intro w
        rw [if_pos w]
        omega
    rw [e3]
    simp [c]
theorem cl_run {K : MI} (h9 : 0 ≤ K 10 9) {n i : Nat} : ∀ a : Nat, clB (runU K a) (runU K a 10 9).toNat n i ↔ clB K (K 10 9).toNat n i ∨ cbA K a n i
  | 0 => by
    have : ¬ cbA K 0 n i := fun w => by obtain ⟨q, hq, -⟩ := w; omega
    simp [this, runU]
  | a + 1 => by
    show clB (aoU (runU K a) a) (aoU (runU K a) a 10 9).toNat n i ↔ _
    have hc := cntF_in (wrB K) a
    have h9a : 0 ≤ runU K a 10 9 := by rw [runU_cnt]; omega
    have e2 : kn (runU K a) = kn K := by
      funext s
      unfold kn
      rw [runU_ne K (by omega) a]
    rw [cl_aoU h9a, cl_run h9 a, cbA_s, or_assoc]
    unfold clU
    rw [runU_26, runU_ne K (show 23 < 10 ∨ 20 < 23 by omega) a, runU_ne K (show 24 < 10 ∨ 20 < 24 by omega) a, runU_ne K (show 25 < 10 ∨ 20 < 25 by omega) a, e2]
/-- the ring with the acts that are written is the ring of the turn, where all can be done -/
theorem ring_acts {K : MI} {L : MJ} (hX : WX K L) : (¬ ∃ z, stab (EX8 K L (cbX K 1)) (EX9 K L (cbX K 1)) z ∧ nng z) ↔ ringF (finU K) L := by
  have hP := fun p hp => (hX.2.2.1.2.2.2.2.2.1 p hp).1
  have f4 : finU K 4 = K 4 := runU_ne K (by omega) _
  have f5 : finU K 5 = K 5 := runU_ne K (by omega) _
  have f6 : finU K 6 = K 6 := runU_ne K (by omega) _
  have f7 : finU K 7 = K 7 := runU_ne K (by omega) _
  have e8 : EX8 K L (cbX K 1) = EX8 (finU K) L (cbX K 1) := by
    unfold EX8 ex8 askC
    rw [f4, f5, f6, f7]
  have e9 : EX9 K L (cbX K 1) = EX9 (finU K) L (cbX K 1) := by
    unfold EX9 ex9 askC
    rw [f4, f5, f6, f7]
  rw [e8, e9]
  refine ring_ex fun n i _ _ => ?_
  show _ ↔ clB (runU K (K 22 4).toNat) (runU K (K 22 4).toNat 10 9).toNat n i
  rw [cl_run hX.2.2.1.1, ← cbP_cl hP]
  unfold cbX
  simp
theorem l_more {N : Nat} {I : MI} {J : MJ} {K : MI} (hD : RDr K I) (h20 : 0 ≤ K 22 4 ∧ K 22 4 ≤ 20) {Q : Option AV → M5 → Prop} (cont : ∀ w : Option AV, V 150 (35, [some (aR 52), some (aI (cntF (wrB K) (K 22 4).toNat)), w, none], [], MM N I J) Q) : ∀ (k a : Nat) (c : Int), K 22 4 + 1 ≤ (k : Int) + a → (a : Int) ≤ K 22 4 → c = cntF (wrB K) a → V 150 (4, [some (aR 52), some (aI c), some (aI (a : Int)), none], [], MM N I J) Q := by
  intro k
  induction k with
  | zero => intro a c h1 h2; exfalso; omega
  | succ k ih =>
    intro a c h1 h2 hc
    have h29 : I 52 29 = K 22 4 := hD.1
    have hd := hD.2.2.1 a
    have hb := cntF_in (wrB K) a
    refine V.blk [(4, .iload 2, 1), (5, .aload 0, 1), (6, .getfield 10029, 3), (9, .if_icmp .ge 35, 3)] (ps := []) (z' := (brc .ge (a : Int) (I 52 29) 35 12, [some (aR 52), some (aI c), some (aI (a : Int)), none], [], MM N I J)) (by decide +kernel) rfl trivial ?_
    refine V.ge (fun bh1 => ?_) (fun bh2 => ?_)
    · skip
      try simp only [b2_cast, b2_ncast, Classical.not_not, lcm_lt, lcm_ge, lcm_gt, lcm_le, lcm_eq, b2_0, b2_n0, Bool.not_eq_false, Bool.not_eq_true, decide_eq_true_eq, decide_eq_false_iff_not] at bh1
      have e : (K 22 4).toNat = a := by omega
      rw [e] at cont
      rw [hc]
      exact cont _
    · skip
      try simp only [b2_cast, b2_ncast, Classical.not_not, lcm_lt, lcm_ge, lcm_gt, lcm_le, lcm_eq, b2_0, b2_n0, Bool.not_eq_false, Bool.not_eq_true, decide_eq_true_eq, decide_eq_false_iff_not] at bh2
      obtain ⟨d1, -⟩ := hd (by omega)
      refine V.blk [(12, .iload 1, 1), (13, .aload 0, 1), (14, .getfield 10020, 3), (17, .iload 2, 1), (18, .baload, 1), (19, .ifCond .eq 26, 3)] (ps := [0 ≤ (a : Int) ∧ (a : Int) < 20]) (z' := (brc .eq (I 68 a) 0 26 22, [some (aR 52), some (aI c), some (aI (a : Int)), none], [aI c], MM N I J)) (by decide +kernel) rfl (show (0 ≤ (a : Int) ∧ (a : Int) < 20) from (by omega)) ?_
      refine V.eq (fun bh3 => ?_) (fun bh4 => ?_)
      · skip
        try simp only [b2_cast, b2_ncast, Classical.not_not, lcm_lt, lcm_ge, lcm_gt, lcm_le, lcm_eq, b2_0, b2_n0, Bool.not_eq_false, Bool.not_eq_true, decide_eq_true_eq, decide_eq_false_iff_not] at bh3
        refine V.blk [(26, .bipush 0, 1), (27, .iadd, 1), (28, .istore 1, 1), (29, .iinc 2 1, 3), (32, .goto 4, 3)] (ps := [inR (c + 0), inR ((a : Int) + 1)]) (z' := (4, [some (aR 52), some (aI (c + 0)), some (aI ((a + 1 : Nat) : Int)), none], [], MM N I J)) (by decide +kernel) rfl (show (inR (c + 0)) ∧ (inR ((a : Int) + 1)) from ⟨(by unfold inR; omega), (by unfold inR; omega)⟩) ?_
        refine ih (a + 1) _ (by omega) (by omega) ?_
        first
          | (have hw : wrB K a = true := decide_eq_true (fun w => by rw [if_pos w] at d1; omega)
             rw [cntF_t hw]
             omega)
          | (have hw : wrB K a = false := decide_eq_false (fun w => by rw [if_neg w] at d1; omega)
             rw [cntF_f hw]
             omega)
      · skip
        try simp only [b2_cast, b2_ncast, Classical.not_not, lcm_lt, lcm_ge, lcm_gt, lcm_le, lcm_eq, b2_0, b2_n0, Bool.not_eq_false, Bool.not_eq_true, decide_eq_true_eq, decide_eq_false_iff_not] at bh4
        refine V.blk [(22, .bipush 1, 1), (23, .goto 27, 3), (27, .iadd, 1), (28, .istore 1, 1), (29, .iinc 2 1, 3), (32, .goto 4, 3)] (ps := [inR (c + 1), inR ((a : Int) + 1)]) (z' := (4, [some (aR 52), some (aI (c + 1)), some (aI ((a + 1 : Nat) : Int)), none], [], MM N I J)) (by decide +kernel) rfl (show (inR (c + 1)) ∧ (inR ((a : Int) + 1)) from ⟨(by unfold inR; omega), (by unfold inR; omega)⟩) ?_
        refine ih (a + 1) _ (by omega) (by omega) ?_
        first
          | (have hw : wrB K a = true := decide_eq_true (fun w => by rw [if_pos w] at d1; omega)
             rw [cntF_t hw]
             omega)
          | (have hw : wrB K a = false := decide_eq_false (fun w => by rw [if_neg w] at d1; omega)
             rw [cntF_f hw]
             omega)
theorem l_cond {N : Nat} {I : MI} {J : MJ} {K : MI} (hD : RDr K I) (hP : RPr K I) (hL : WLe K) (h18 : I 52 18 = K 10 13) (hW : WDr K) {mo : Int} {Q : Option AV → M5 → Prop} (cont : ∀ (w : Option AV) (I' : MI), (∀ i, i ≠ 52 → I' i = I i) → (∀ k, k ≠ 39 → I' 52 k = I 52 k) → I' 52 39 = cdF K → V 150 (136, [some (aR 52), some (aI mo), w, none], [], MM N I' J) Q) : ∀ (k c : Nat) (I' : MI), K 22 9 + 1 ≤ (k : Int) + c → (c : Int) ≤ K 22 9 → (∀ i, i ≠ 52 → I' i = I i) → (∀ k, k ≠ 39 → I' 52 k = I 52 k) → ((I' 52 39 = -1 ∧ ∀ j, j < c → cdB K j = false) ∨ (0 ≤ I' 52 39 ∧ I' 52 39 = cdF K)) → V 150 (67, [some (aR 52), some (aI mo), some (aI (c : Int)), none], [], MM N I' J) Q := by
  intro k
  induction k with
  | zero => intro c I' h1 h2; exfalso; omega
  | succ k ih =>
    intro c I' h1 h2 ho h52 hf
    have h30 : I' 52 30 = K 22 9 := by rw [h52 30 (by decide)]; exact hD.2.1
    have hd := hD.2.2.2 c
    have hw := hW.2.2.2.2.2 c
    have h10 := hW.2.2.2.1
    have hm := hL.1
    have hm4 := hL.2.1
    have hP2 : RPr K I' := by
      unfold RPr
      rw [h52 13 (by decide), ho 59 (by decide), ho 60 (by decide), ho 61 (by decide), ho 62 (by decide), ho 63 (by decide), ho 64 (by decide)]
      exact hP
    have h18' : I' 52 18 = K 10 13 := (h52 18 (by decide)).trans h18
    refine V.blk [(67, .iload 2, 1), (68, .aload 0, 1), (69, .getfield 10030, 3), (72, .if_icmp .ge 136, 3)] (ps := []) (z' := (brc .ge (c : Int) (I' 52 30) 136 75, [some (aR 52), some (aI mo), some (aI (c : Int)), none], [], MM N I' J)) (by decide +kernel) rfl trivial ?_
    refine V.ge (fun bh1 => ?_) (fun bh2 => ?_)
    · skip
      try simp only [b2_cast, b2_ncast, Classical.not_not, lcm_lt, lcm_ge, lcm_gt, lcm_le, lcm_eq, b2_0, b2_n0, Bool.not_eq_false, Bool.not_eq_true, decide_eq_true_eq, decide_eq_false_iff_not] at bh1
      refine cont _ I' ho h52 ?_
      rcases hf with ⟨w1, w2⟩ | ⟨w1, w2⟩
      · have e : (K 22 9).toNat = c := by omega
        unfold cdF
        rw [e, w1]
        exact (fndF_no c w2).symm
      · exact w2
    · skip
      try simp only [b2_cast, b2_ncast, Classical.not_not, lcm_lt, lcm_ge, lcm_gt, lcm_le, lcm_eq, b2_0, b2_n0, Bool.not_eq_false, Bool.not_eq_true, decide_eq_true_eq, decide_eq_false_iff_not] at bh2
      refine V.blk [(75, .aload 0, 1), (76, .getfield 10039, 3), (79, .ifCond .ge 136, 3)] (ps := []) (z' := (brc .ge (I' 52 39) 0 136 82, [some (aR 52), some (aI mo), some (aI (c : Int)), none], [], MM N I' J)) (by decide +kernel) rfl trivial ?_
      refine V.ge (fun bh3 => ?_) (fun bh4 => ?_)
      · skip
        try simp only [b2_cast, b2_ncast, Classical.not_not, lcm_lt, lcm_ge, lcm_gt, lcm_le, lcm_eq, b2_0, b2_n0, Bool.not_eq_false, Bool.not_eq_true, decide_eq_true_eq, decide_eq_false_iff_not] at bh3
        refine cont _ I' ho h52 ?_
        rcases hf with ⟨w1, w2⟩ | ⟨w1, w2⟩
        · have e : (K 22 9).toNat = c := by omega
          unfold cdF
          rw [e, w1]
          exact (fndF_no c w2).symm
        · exact w2
      · skip
        try simp only [b2_cast, b2_ncast, Classical.not_not, lcm_lt, lcm_ge, lcm_gt, lcm_le, lcm_eq, b2_0, b2_n0, Bool.not_eq_false, Bool.not_eq_true, decide_eq_true_eq, decide_eq_false_iff_not] at bh4
        have hcl : (c : Int) < K 22 9 := by omega
        obtain ⟨d1, d2, d3, d4⟩ := hd hcl
        have d1 : I' 74 c = K 27 c := by rw [ho 74 (by decide)]; exact d1
        have d2 : I' 75 c = K 28 c := by rw [ho 75 (by decide)]; exact d2
        have d3 : I' 76 c = K 29 c := by rw [ho 76 (by decide)]; exact d3
        have d4 : I' 69 c = K 30 c := by rw [ho 69 (by decide)]; exact d4
        obtain ⟨w1, w2, w3, w4, w5, w6, w7⟩ := hw hcl
        have hno : ∀ j, j < c → cdB K j = false := by
          rcases hf with ⟨-, w⟩ | ⟨w, -⟩
          · exact w
          · exfalso; omega
        have hst := stF_in (K := K) (th := K 27 c) (rl := K 28 c) (u := K 29 c) hm
        refine V.blk [(82, .aload 0, 1), (83, .aload 0, 1), (84, .getfield 10026, 3), (87, .iload 2, 1), (88, .iaload, 1), (89, .aload 0, 1), (90, .getfield 10027, 3), (93, .iload 2, 1), (94, .iaload, 1), (95, .aload 0, 1), (96, .getfield 10028, 3), (99, .iload 2, 1), (100, .iaload, 1), (101, .aload 0, 1), (102, .getfield 10018, 3)] (ps := [0 ≤ (c : Int) ∧ (c : Int) < 10, 0 ≤ (c : Int) ∧ (c : Int) < 10, 0 ≤ (c : Int) ∧ (c : Int) < 10]) (z' := (105, [some (aR 52), some (aI mo), some (aI (c : Int)), none], [aI (I' 52 18), aI (I' 76 c), aI (I' 75 c), aI (I' 74 c), aR 52], MM N I' J)) (by decide +kernel) rfl (show (0 ≤ (c : Int) ∧ (c : Int) < 10) ∧ (0 ≤ (c : Int) ∧ (c : Int) < 10) ∧ (0 ≤ (c : Int) ∧ (c : Int) < 10) from ⟨(by omega), (by omega), (by omega)⟩) ?_
        refine V.cv (c := 149) (na := 5) (o := 10) (a := 52) [aI (I' 52 18), aI (I' 76 c), aI (I' 75 c), aI (I' 74 c)] [] (by decide +kernel) rfl rfl rfl rfl rfl (V.pr (m_find (P := K) (m := (K 10 9).toNat) (by omega) (by omega) hP2 (fun p hp => by
          obtain ⟨-, x2, x3, x4⟩ := hL.2.2.2.2.2.1 p (by omega)
          omega)) ?_)
        show V 150 (108, [some (aR 52), some (aI mo), some (aI (c : Int)), none], [aI (stF K (I' 74 c) (I' 75 c) (I' 76 c))], MM N I' J) _
        rw [d1, d2, d3]
        refine V.blk [(108, .ifCond .lt 115, 3)] (ps := []) (z' := (brc .lt (stF K (K 27 c) (K 28 c) (K 29 c)) 0 115 111, [some (aR 52), some (aI mo), some (aI (c : Int)), none], [], MM N I' J)) (by decide +kernel) rfl trivial ?_
        refine V.lt (fun bh5 => ?_) (fun bh6 => ?_)
        · skip
          try simp only [b2_cast, b2_ncast, Classical.not_not, lcm_lt, lcm_ge, lcm_gt, lcm_le, lcm_eq, b2_0, b2_n0, Bool.not_eq_false, Bool.not_eq_true, decide_eq_true_eq, decide_eq_false_iff_not] at bh5
          refine V.blk [(115, .bipush 0, 1), (116, .aload 0, 1), (117, .getfield 10021, 3), (120, .iload 2, 1), (121, .baload, 1)] (ps := [0 ≤ (c : Int) ∧ (c : Int) < 10]) (z' := (122, [some (aR 52), some (aI mo), some (aI (c : Int)), none], [aI (I' 69 c), aI 0], MM N I' J)) (by decide +kernel) rfl (show (0 ≤ (c : Int) ∧ (c : Int) < 10) from (by omega)) ?_
          rw [d4]
          refine V.blk [(122, .if_icmp .eq 130, 3)] (ps := []) (z' := (brc .eq 0 (K 30 c) 130 125, [some (aR 52), some (aI mo), some (aI (c : Int)), none], [], MM N I' J)) (by decide +kernel) rfl trivial ?_
          refine V.eq (fun bh7 => ?_) (fun bh8 => ?_)
          · skip
            try simp only [b2_cast, b2_ncast, Classical.not_not, lcm_lt, lcm_ge, lcm_gt, lcm_le, lcm_eq, b2_0, b2_n0, Bool.not_eq_false, Bool.not_eq_true, decide_eq_true_eq, decide_eq_false_iff_not] at bh7
            refine V.blk [(130, .iinc 2 1, 3), (133, .goto 67, 3)] (ps := [inR ((c : Int) + 1)]) (z' := (67, [some (aR 52), some (aI mo), some (aI ((c + 1 : Nat) : Int)), none], [], MM N I' J)) (by decide +kernel) rfl (show (inR ((c : Int) + 1)) from (by unfold inR; omega)) ?_
            refine ih (c + 1) I' (by omega) (by omega) ho h52 (Or.inl ⟨by omega, fun j hj => ?_⟩)
            by_cases e : j = c
            · subst e
              unfold cdB
              by_cases x : stF K (K 27 j) (K 28 j) (K 29 j) = -1
              · have y : ¬ K 30 j = 1 := by omega
                simp [x, y]
              · have y : K 30 j = 1 := by omega
                simp [x, y]
            · exact hno j (by omega)
          · skip
            try simp only [b2_cast, b2_ncast, Classical.not_not, lcm_lt, lcm_ge, lcm_gt, lcm_le, lcm_eq, b2_0, b2_n0, Bool.not_eq_false, Bool.not_eq_true, decide_eq_true_eq, decide_eq_false_iff_not] at bh8
            refine V.blk [(125, .aload 0, 1), (126, .iload 2, 1), (127, .putfield 10039, 3), (130, .iinc 2 1, 3), (133, .goto 67, 3)] (ps := [inR ((c : Int) + 1)]) (z' := (67, [some (aR 52), some (aI mo), some (aI ((c + 1 : Nat) : Int)), none], [], MM N (ma I' 52 (ma (I' 52) 39 (c : Int))) J)) (by decide +kernel) rfl (show (inR ((c : Int) + 1)) from (by unfold inR; omega)) ?_
            refine V.nI (fun I9 eI9 => ?_)
            have hcd : cdB K c = true := by
              unfold cdB
              by_cases x : stF K (K 27 c) (K 28 c) (K 29 c) = -1
              · have y : K 30 c = 1 := by omega
                simp [x, y]
              · have y : ¬ K 30 c = 1 := by omega
                simp [x, y]
            have hcf : cdF K = c := fndF_at hno hcd _ (by omega)
            refine ih (c + 1) I9 (by omega) (by omega) (fun i x => by rw [eI9, ma_ne _ _ x]; exact ho i x) (fun k x => by rw [eI9, ma_self, ma_ne _ _ x]; exact h52 k x) (Or.inr ?_)
            rw [eI9, ma_self, ma_self]
            omega
        · skip
          try simp only [b2_cast, b2_ncast, Classical.not_not, lcm_lt, lcm_ge, lcm_gt, lcm_le, lcm_eq, b2_0, b2_n0, Bool.not_eq_false, Bool.not_eq_true, decide_eq_true_eq, decide_eq_false_iff_not] at bh6
          refine V.blk [(111, .bipush 1, 1), (112, .goto 116, 3), (116, .aload 0, 1), (117, .getfield 10021, 3), (120, .iload 2, 1), (121, .baload, 1)] (ps := [0 ≤ (c : Int) ∧ (c : Int) < 10]) (z' := (122, [some (aR 52), some (aI mo), some (aI (c : Int)), none], [aI (I' 69 c), aI 1], MM N I' J)) (by decide +kernel) rfl (show (0 ≤ (c : Int) ∧ (c : Int) < 10) from (by omega)) ?_
          rw [d4]
          refine V.blk [(122, .if_icmp .eq 130, 3)] (ps := []) (z' := (brc .eq 1 (K 30 c) 130 125, [some (aR 52), some (aI mo), some (aI (c : Int)), none], [], MM N I' J)) (by decide +kernel) rfl trivial ?_
          refine V.eq (fun bh10 => ?_) (fun bh11 => ?_)
          · skip
            try simp only [b2_cast, b2_ncast, Classical.not_not, lcm_lt, lcm_ge, lcm_gt, lcm_le, lcm_eq, b2_0, b2_n0, Bool.not_eq_false, Bool.not_eq_true, decide_eq_true_eq, decide_eq_false_iff_not] at bh10
            refine V.blk [(130, .iinc 2 1, 3), (133, .goto 67, 3)] (ps := [inR ((c : Int) + 1)]) (z' := (67, [some (aR 52), some (aI mo), some (aI ((c + 1 : Nat) : Int)), none], [], MM N I' J)) (by decide +kernel) rfl (show (inR ((c : Int) + 1)) from (by unfold inR; omega)) ?_
            refine ih (c + 1) I' (by omega) (by omega) ho h52 (Or.inl ⟨by omega, fun j hj => ?_⟩)
            by_cases e : j = c
            · subst e
              unfold cdB
              by_cases x : stF K (K 27 j) (K 28 j) (K 29 j) = -1
              · have y : ¬ K 30 j = 1 := by omega
                simp [x, y]
              · have y : K 30 j = 1 := by omega
                simp [x, y]
            · exact hno j (by omega)
          · skip
            try simp only [b2_cast, b2_ncast, Classical.not_not, lcm_lt, lcm_ge, lcm_gt, lcm_le, lcm_eq, b2_0, b2_n0, Bool.not_eq_false, Bool.not_eq_true, decide_eq_true_eq, decide_eq_false_iff_not] at bh11
            refine V.blk [(125, .aload 0, 1), (126, .iload 2, 1), (127, .putfield 10039, 3), (130, .iinc 2 1, 3), (133, .goto 67, 3)] (ps := [inR ((c : Int) + 1)]) (z' := (67, [some (aR 52), some (aI mo), some (aI ((c + 1 : Nat) : Int)), none], [], MM N (ma I' 52 (ma (I' 52) 39 (c : Int))) J)) (by decide +kernel) rfl (show (inR ((c : Int) + 1)) from (by unfold inR; omega)) ?_
            refine V.nI (fun I12 eI12 => ?_)
            have hcd : cdB K c = true := by
              unfold cdB
              by_cases x : stF K (K 27 c) (K 28 c) (K 29 c) = -1
              · have y : K 30 c = 1 := by omega
                simp [x, y]
              · have y : ¬ K 30 c = 1 := by omega
                simp [x, y]
            have hcf : cdF K = c := fndF_at hno hcd _ (by omega)
            refine ih (c + 1) I12 (by omega) (by omega) (fun i x => by rw [eI12, ma_ne _ _ x]; exact ho i x) (fun k x => by rw [eI12, ma_self, ma_ne _ _ x]; exact h52 k x) (Or.inr ?_)
            rw [eI12, ma_self, ma_self]
            omega
theorem l_acts {N : Nat} {I : MI} {J : MJ} {K : MI} (hD : RDr K I) (hW : WDr K) (hO : WOp K) (h40 : K 1 1 ≤ 40) (hroom : roomP K) (hcd : cdF K = -1) (h1 : 0 ≤ K 10 11) {mo : Int} {rg : Bool} {Q : Option AV → M5 → Prop} (cont : ∀ (w : Option AV) (I' : MI), (∀ i, i ≠ 52 → (i < 59 ∨ 67 < i) → I' i = I i) → (∀ k, k ≠ 13 → k ≠ 17 → k ≠ 39 → I' 52 k = I 52 k) → ((perfA K = -1 ∧ I' 52 39 = -1 ∧ RO K (finU K) I') ∨ (perfA K ≠ -1 ∧ 0 ≤ I' 52 39 ∧ I' 52 39 = perfA K ∧ RO K (runU K (perfN K)) I')) → V 150 (199, [some (aR 52), some (aI mo), some (aI (b2 rg)), w], [], MM N I' J) Q) : ∀ (k a : Nat) (I' : MI), K 22 4 + 1 ≤ (k : Int) + a → (a : Int) ≤ K 22 4 → (∀ i, i ≠ 52 → (i < 59 ∨ 67 < i) → I' i = I i) → (∀ k, k ≠ 13 → k ≠ 17 → k ≠ 39 → I' 52 k = I 52 k) → ((I' 52 39 = -1 ∧ (∀ j, j < a → aoB (runU K j) j = true) ∧ RO K (runU K a) I') ∨ (∃ n : Nat, (n : Int) < K 22 4 ∧ (∀ j, j < n → aoB (runU K j) j = true) ∧ aoB (runU K n) n = false ∧ RO K (runU K n) I' ∧ I' 52 39 = 100 + n)) → V 150 (173, [some (aR 52), some (aI mo), some (aI (b2 rg)), some (aI (a : Int))], [], MM N I' J) Q := by
  intro k
  induction k with
  | zero => intro a I' h1 h2; exfalso; omega
  | succ k ih =>
    intro a I' h1' h2 ho h52 hf
    have h29 : I' 52 29 = K 22 4 := by rw [h52 29 (by decide) (by decide) (by decide)]; exact hD.1
    have h20 := hW.2.1
    refine V.blk [(173, .iload 3, 1), (174, .aload 0, 1), (175, .getfield 10029, 3), (178, .if_icmp .ge 199, 3)] (ps := []) (z' := (brc .ge (a : Int) (I' 52 29) 199 181, [some (aR 52), some (aI mo), some (aI (b2 rg)), some (aI (a : Int))], [], MM N I' J)) (by decide +kernel) rfl trivial ?_
    refine V.ge (fun bh1 => ?_) (fun bh2 => ?_)
    · skip
      try simp only [b2_cast, b2_ncast, Classical.not_not, lcm_lt, lcm_ge, lcm_gt, lcm_le, lcm_eq, b2_0, b2_n0, Bool.not_eq_false, Bool.not_eq_true, decide_eq_true_eq, decide_eq_false_iff_not] at bh1
      refine cont _ I' ho h52 ?_
      have hnn := hW.1
      rcases hf with ⟨w1, w2, w3⟩ | ⟨n, w0, w1, w2, w3, w4⟩
      · left
        have e : (K 22 4).toNat = a := by omega
        have hac : acF K = -1 := fndF_no _ fun j hj => by rw [w2 j (by omega)]; rfl
        have hpa : perfA K = -1 := by unfold perfA; rw [if_neg (by omega), if_neg (by omega)]
        refine ⟨hpa, w1, ?_⟩
        unfold finU
        rw [e]
        exact w3
      · right
        have hac : acF K = n := fndF_at (fun j hj => by rw [w1 j hj]; rfl) (by rw [w2]; rfl) _ (by omega)
        have hpa : perfA K = 100 + n := by unfold perfA; rw [if_neg (by omega), if_pos (by omega), hac]
        have hpn : perfN K = n := by
          unfold perfN
          rw [if_neg (by omega), if_pos (by omega), hac]
          rfl
        refine ⟨by omega, by omega, by omega, ?_⟩
        rw [hpn]
        exact w3
    · skip
      try simp only [b2_cast, b2_ncast, Classical.not_not, lcm_lt, lcm_ge, lcm_gt, lcm_le, lcm_eq, b2_0, b2_n0, Bool.not_eq_false, Bool.not_eq_true, decide_eq_true_eq, decide_eq_false_iff_not] at bh2
      refine V.blk [(181, .aload 0, 1), (182, .getfield 10039, 3), (185, .ifCond .ge 199, 3)] (ps := []) (z' := (brc .ge (I' 52 39) 0 199 188, [some (aR 52), some (aI mo), some (aI (b2 rg)), some (aI (a : Int))], [], MM N I' J)) (by decide +kernel) rfl trivial ?_
      refine V.ge (fun bh3 => ?_) (fun bh4 => ?_)
      · skip
        try simp only [b2_cast, b2_ncast, Classical.not_not, lcm_lt, lcm_ge, lcm_gt, lcm_le, lcm_eq, b2_0, b2_n0, Bool.not_eq_false, Bool.not_eq_true, decide_eq_true_eq, decide_eq_false_iff_not] at bh3
        refine cont _ I' ho h52 ?_
        have hnn := hW.1
        rcases hf with ⟨w1, w2, w3⟩ | ⟨n, w0, w1, w2, w3, w4⟩
        · left
          have e : (K 22 4).toNat = a := by omega
          have hac : acF K = -1 := fndF_no _ fun j hj => by rw [w2 j (by omega)]; rfl
          have hpa : perfA K = -1 := by unfold perfA; rw [if_neg (by omega), if_neg (by omega)]
          refine ⟨hpa, w1, ?_⟩
          unfold finU
          rw [e]
          exact w3
        · right
          have hac : acF K = n := fndF_at (fun j hj => by rw [w1 j hj]; rfl) (by rw [w2]; rfl) _ (by omega)
          have hpa : perfA K = 100 + n := by unfold perfA; rw [if_neg (by omega), if_pos (by omega), hac]
          have hpn : perfN K = n := by
            unfold perfN
            rw [if_neg (by omega), if_pos (by omega), hac]
            rfl
          refine ⟨by omega, by omega, by omega, ?_⟩
          rw [hpn]
          exact w3
      · skip
        try simp only [b2_cast, b2_ncast, Classical.not_not, lcm_lt, lcm_ge, lcm_gt, lcm_le, lcm_eq, b2_0, b2_n0, Bool.not_eq_false, Bool.not_eq_true, decide_eq_true_eq, decide_eq_false_iff_not] at bh4
        have hal : (a : Int) < K 22 4 := by omega
        obtain ⟨hok, hRa⟩ : (∀ j, j < a → aoB (runU K j) j = true) ∧ RO K (runU K a) I' := by
          rcases hf with ⟨-, w⟩ | ⟨n, -, -, -, -, w⟩
          · exact w
          · exfalso; omega
        have hOa : WOp (runU K a) := hO.run a (fun b hb => hW.2.2.2.2.1 b (by omega)) hok
        have hDa : RDr K I' := by
          unfold RDr
          rw [h52 29 (by decide) (by decide) (by decide), h52 30 (by decide) (by decide) (by decide), ho 68 (by decide) (by decide), ho 69 (by decide) (by decide), ho 70 (by decide) (by decide), ho 71 (by decide) (by decide), ho 72 (by decide) (by decide), ho 73 (by decide) (by decide), ho 74 (by decide) (by decide), ho 75 (by decide) (by decide), ho 76 (by decide) (by decide)]
          exact hD
        have hdo : CT 151 [aR 52, aI (a : Int)] (MM N I' J) (fun r M' => r = none ∧ ∃ I2, M' = MM N I2 J ∧ (∀ i, i ≠ 52 → (i < 59 ∨ 67 < i) → I2 i = I' i) ∧ (∀ k, k ≠ 13 → k ≠ 17 → k ≠ 39 → I2 52 k = I' 52 k) ∧ ((aoB (runU K a) a = true ∧ RO K (aoU (runU K a) a) I2 ∧ I2 52 39 = I' 52 39) ∨ (aoB (runU K a) a = false ∧ RO K (runU K a) I2 ∧ I2 52 39 = 100 + a))) := by
          have hch := runU_ch K a
          by_cases c : K 26 a = -1
          · exact m_does_s hRa hOa hDa hal (by omega) (hW.2.2.2.2.1 a hal) h40 (runU_10 K (by decide) (by decide) a) (by omega) h1 (by rw [runU_ne K (by omega) a]) (by rw [runU_ne K (by omega) a]) (by rw [runU_ne K (by omega) a]) (by rw [runU_26]) c
          · exact m_does_w hRa hOa hDa hal (by omega) (hW.2.2.2.2.1 a hal) h40 (runU_10 K (by decide) (by decide) a) (by omega) h1 (by rw [runU_ne K (by omega) a]) (by rw [runU_ne K (by omega) a]) (by rw [runU_ne K (by omega) a]) (by rw [runU_26]) c (room_lt hroom hal c)
        refine V.blk [(188, .aload 0, 1), (189, .iload 3, 1)] (ps := []) (z' := (190, [some (aR 52), some (aI mo), some (aI (b2 rg)), some (aI (a : Int))], [aI (a : Int), aR 52], MM N I' J)) (by decide +kernel) rfl trivial ?_
        refine V.cv (c := 151) (na := 2) (o := 10) (a := 52) [aI (a : Int)] [] (by decide +kernel) rfl rfl rfl rfl rfl ((hdo).mono (fun rv M1 q => ?_))
        obtain ⟨rfl, ID, rfl, o1, o2, o3⟩ := q
        show V 150 (193, [some (aR 52), some (aI mo), some (aI (b2 rg)), some (aI (a : Int))], [], MM N ID J) _
        refine V.blk [(193, .iinc 3 1, 3), (196, .goto 173, 3)] (ps := [inR ((a : Int) + 1)]) (z' := (173, [some (aR 52), some (aI mo), some (aI (b2 rg)), some (aI ((a + 1 : Nat) : Int))], [], MM N ID J)) (by decide +kernel) rfl (show (inR ((a : Int) + 1)) from (by unfold inR; omega)) ?_
        refine ih (a + 1) ID (by omega) (by omega) (fun i x y => (o1 i x y).trans (ho i x y)) (fun k x y z => (o2 k x y z).trans (h52 k x y z)) ?_
        rcases o3 with ⟨p1, p2, p3⟩ | ⟨p1, p2, p3⟩
        · left
          refine ⟨by omega, fun j hj => ?_, p2⟩
          by_cases e : j = a
          · subst e; exact p1
          · exact hok j (by omega)
        · exact Or.inr ⟨a, hal, hok, p1, p2, p3⟩
def MkR (K : MI) (L : MJ) (z : Int) (I : MI) : Prop := (z = -9 ∧ ¬ roomP K ∧ RA K I) ∨ (z = -8 ∧ roomP K ∧ perfA K ≠ -1 ∧ I 52 39 = perfA K ∧ RA K I) ∨ (z = -7 ∧ roomP K ∧ perfA K = -1 ∧ ringF (finU K) L ∧ RA K I) ∨ (z = 0 ∧ roomP K ∧ perfA K = -1 ∧ ¬ ringF (finU K) L ∧ RA (closeU (finU K)) I)
theorem RA.turn {K K' I I' : MI} (hA : RA K I) (e : ∀ i, i ≠ 52 → (i < 59 ∨ 67 < i) → (i ≤ 77 ∨ i = 93 ∨ i = 94) → I' i = I i) (f : ∀ k, k ≠ 13 → k ≠ 17 → k ≠ 18 → k ≠ 37 → k ≠ 39 → I' 52 k = I 52 k) (hk : ∀ i, i < 10 ∨ 21 < i → K' i = K i) (hP : RPr K' I') (hL : RLg K' I') : RA K' I' := by
  obtain ⟨h1, h2, h3, h4, h5, h6, h7, h8⟩ := hA
  have g : ∀ i, 53 ≤ i → i ≤ 77 → (i < 59 ∨ 67 < i) → I' i = I i := fun i a b c => e i (by omega) c (Or.inl b)
  refine ⟨?_, ?_, hP, hL, ?_, ?_, ?_, ?_⟩
  · unfold RTh; rw [hk 1 (by decide), hk 2 (by decide), f 1 (by decide) (by decide) (by decide) (by decide) (by decide), g 53 (by decide) (by decide) (by decide)]; exact h1
  · unfold RRu; rw [hk 4 (by decide), hk 5 (by decide), hk 6 (by decide), hk 7 (by decide), g 54 (by decide) (by decide) (by decide), g 55 (by decide) (by decide) (by decide), g 56 (by decide) (by decide) (by decide), g 57 (by decide) (by decide) (by decide), g 58 (by decide) (by decide) (by decide)]; exact h2
  · unfold RDr; rw [hk 22 (by decide), hk 23 (by decide), hk 24 (by decide), hk 25 (by decide), hk 26 (by decide), hk 27 (by decide), hk 28 (by decide), hk 29 (by decide), hk 30 (by decide), f 29 (by decide) (by decide) (by decide) (by decide) (by decide), f 30 (by decide) (by decide) (by decide) (by decide) (by decide), g 68 (by decide) (by decide) (by decide), g 69 (by decide) (by decide) (by decide), g 70 (by decide) (by decide) (by decide), g 71 (by decide) (by decide) (by decide), g 72 (by decide) (by decide) (by decide), g 73 (by decide) (by decide) (by decide), g 74 (by decide) (by decide) (by decide), g 75 (by decide) (by decide) (by decide), g 76 (by decide) (by decide) (by decide)]; exact h5
  · unfold RSc; rw [hk 0 (by decide), hk 51 (by decide), f 19 (by decide) (by decide) (by decide) (by decide) (by decide), f 31 (by decide) (by decide) (by decide) (by decide) (by decide), g 77 (by decide) (by decide) (by decide)]; exact h6
  · unfold RRe; rw [hk 44 (by decide), hk 45 (by decide), f 56 (by decide) (by decide) (by decide) (by decide) (by decide), f 57 (by decide) (by decide) (by decide) (by decide) (by decide), f 58 (by decide) (by decide) (by decide) (by decide) (by decide), f 59 (by decide) (by decide) (by decide) (by decide) (by decide), f 60 (by decide) (by decide) (by decide) (by decide) (by decide), f 61 (by decide) (by decide) (by decide) (by decide) (by decide), e 93 (by decide) (by decide) (by decide)]; exact h7
  · unfold RRo; rw [hk 48 (by decide), hk 49 (by decide), f 64 (by decide) (by decide) (by decide) (by decide) (by decide), e 94 (by decide) (by decide) (by decide)]; exact h8
theorem RO.close {K I : MI} (hL : WLe K) (h : RO K (finU K) I) : RPr (closeU (finU K)) I ∧ RLg (closeU (finU K)) I := by
  obtain ⟨hP, g18, g17, gL, gT, gU⟩ := h
  obtain ⟨v, v13, vk, v21⟩ := closeU_v (finU K)
  have f13 : finU K 10 13 = K 10 13 := runU_10 K (by decide) (by decide) _
  have f21 : finU K 21 = K 21 := runU_ne K (by omega) _
  have hch : finU K 10 11 = K 10 11 + (K 22 4).toNat := runU_ch K _
  have v9 := vk 9 (by decide)
  have v11 := vk 11 (by decide)
  have hl0 := hL.2.2.1
  refine ⟨?_, by rw [v11]; exact g17, by rw [v13, f13]; exact g18, fun c hc => ?_, fun c t hc ht => ?_⟩
  · unfold RPr
    rw [v9, v 11 (by decide) (by decide), v 12 (by decide) (by decide), v 13 (by decide) (by decide), v 14 (by decide) (by decide), v 15 (by decide) (by decide), v 16 (by decide) (by decide)]
    exact hP
  · rw [v11] at hc
    rw [v 20 (by decide) (by decide)]
    exact gL c hc
  · rw [v11] at hc
    rw [v13, f13] at ht
    rw [v21, f13, f21]
    by_cases e : t = (K 10 13 + 1).toNat
    · rw [e, ma_self]
      have := gT c hc
      refine ⟨fun _ => ?_, fun _ => hc⟩
      by_cases q : K 10 11 ≤ (c : Int)
      · have := this.1 q; omega
      · have := this.2 (by omega); omega
    · rw [ma_ne _ _ e]
      by_cases q : (c : Int) < K 10 11
      · exact gU c t q (by omega)
      · have u := up_le hL (t := t) (by omega)
        have := (gT c hc).1 (by omega)
        refine ⟨fun w => ?_, fun w => ?_⟩ <;> omega
theorem lm_tail {N : Nat} {I : MI} {J : MJ} {K : MI} {L : MJ} {I0 : MI} {mo : Int} {rg : Bool} {w : Option AV} (hX : WX K L) (hA : RA K I0) (hl : K 10 13 < 200) (hroom : roomP K) (hcd : cdF K = -1) (hrg : rg = true ↔ ringF (finU K) L) (e : ∀ i, i ≠ 52 → (i < 59 ∨ 67 < i) → (i ≤ 77 ∨ i = 93 ∨ i = 94) → I i = I0 i) (f : ∀ k, k ≠ 13 → k ≠ 17 → k ≠ 18 → k ≠ 37 → k ≠ 39 → I 52 k = I0 52 k) (e8 : I 87 = I0 87 ∧ I 88 = I0 88) (h37 : I 52 37 = 0) (hR : ((perfA K = -1 ∧ I 52 39 = -1 ∧ RO K (finU K) I) ∨ (perfA K ≠ -1 ∧ 0 ≤ I 52 39 ∧ I 52 39 = perfA K ∧ RO K (runU K (perfN K)) I))) : V 150 (199, [some (aR 52), some (aI mo), some (aI (b2 rg)), w], [], MM N I J) (fun r M' => ∃ z I', r = some (aI z) ∧ M' = MM N I' J ∧ MkR K L z I' ∧ (∀ k, 40 ≤ k → k ≤ 43 → I' 52 k = I0 52 k) ∧ I' 52 37 = 0 ∧ I' 87 = I0 87 ∧ I' 88 = I0 88) := by
  have hO : WOp K := hX.2.2.1.op hl
  have hd := hX.2.2.2.1
  have hc0 : 0 ≤ K 10 11 := by
    have := cS_in K (K 10 9).toNat
    have := hX.2.2.1.1
    have := hX.2.2.1.2.2.2.2.1
    omega
  have hpo := perf_ok (K := K) hd.1
  have hOb : ∀ b, b ≤ perfN K → WOp (runU K b) := fun b hb => hO.run b (fun j hj => hd.2.2.2.2.1 j (by omega)) (fun j hj => hpo.1 j (by omega))
  have hRn : RO K (runU K (perfN K)) I := by
    rcases hR with ⟨w1, w2, w3⟩ | ⟨w1, w2, w3, w4⟩
    · rw [hpo.2.2 w1]; exact w3
    · exact w4
  refine V.blk [(199, .aload 0, 1), (200, .getfield 10039, 3), (203, .ifCond .lt 211, 3)] (ps := []) (z' := (brc .lt (I 52 39) 0 211 206, [some (aR 52), some (aI mo), some (aI (b2 rg)), w], [], MM N I J)) (by decide +kernel) rfl trivial ?_
  refine V.lt (fun bh1 => ?_) (fun bh2 => ?_)
  · skip
    try simp only [b2_cast, b2_ncast, Classical.not_not, lcm_lt, lcm_ge, lcm_gt, lcm_le, lcm_eq, b2_0, b2_n0, Bool.not_eq_false, Bool.not_eq_true, decide_eq_true_eq, decide_eq_false_iff_not] at bh1
    refine V.blk [(211, .iload 2, 1), (212, .ifCond .eq 220, 3)] (ps := []) (z' := (brc .eq (b2 rg) 0 220 215, [some (aR 52), some (aI mo), some (aI (b2 rg)), w], [], MM N I J)) (by decide +kernel) rfl trivial ?_
    refine V.eq (fun bh3 => ?_) (fun bh4 => ?_)
    · skip
      try simp only [b2_cast, b2_ncast, Classical.not_not, lcm_lt, lcm_ge, lcm_gt, lcm_le, lcm_eq, b2_0, b2_n0, Bool.not_eq_false, Bool.not_eq_true, decide_eq_true_eq, decide_eq_false_iff_not] at bh3
      refine V.blk [(220, .bipush 0, 1), (221, .istore 3, 1), (222, .iload 3, 1), (223, .ifCond .eq 230, 3)] (ps := []) (z' := (brc .eq 0 0 230 226, [some (aR 52), some (aI mo), some (aI (b2 rg)), some (aI 0)], [], MM N I J)) (by decide +kernel) rfl trivial ?_
      refine V.eq (fun _ => ?_) (fun hz => absurd hz (by decide))
      refine V.blk [(230, .iload 3, 1)] (ps := []) (z' := (231, [some (aR 52), some (aI mo), some (aI (b2 rg)), some (aI 0)], [aI 0], MM N I J)) (by decide +kernel) rfl trivial ?_
      refine V.ri (by decide +kernel) ?_
      have hp : perfA K = -1 ∧ RO K (finU K) I := by
        rcases hR with ⟨w1, w2, w3⟩ | ⟨w1, w2, w3, -⟩
        · exact ⟨w1, w3⟩
        · exfalso; omega
      have hcl := hp.2.close hX.2.2.1
      have hng : ¬ ringF (finU K) L := fun w => by
        have := hrg.mpr w
        simp_all
      refine ⟨_, I, rfl, rfl, Or.inr (Or.inr (Or.inr ⟨rfl, hroom, hp.1, hng, hA.turn e f (fun i hi => ?_) hcl.1 hcl.2⟩)), fun k a b => f k (by omega) (by omega) (by omega) (by omega) (by omega), h37, e8⟩
      rw [(closeU_v _).1 i (by omega) (by omega)]
      exact runU_ne K (by omega) _
    · skip
      try simp only [b2_cast, b2_ncast, Classical.not_not, lcm_lt, lcm_ge, lcm_gt, lcm_le, lcm_eq, b2_0, b2_n0, Bool.not_eq_false, Bool.not_eq_true, decide_eq_true_eq, decide_eq_false_iff_not] at bh4
      refine V.blk [(215, .bipush (-7), 2), (217, .goto 221, 3), (221, .istore 3, 1), (222, .iload 3, 1), (223, .ifCond .eq 230, 3)] (ps := []) (z' := (brc .eq (-7) 0 230 226, [some (aR 52), some (aI mo), some (aI (b2 rg)), some (aI (-7))], [], MM N I J)) (by decide +kernel) rfl trivial ?_
      refine V.eq (fun hz => absurd hz (by decide)) (fun _ => ?_)
      refine V.blk [(226, .aload 0, 1)] (ps := []) (z' := (227, [some (aR 52), some (aI mo), some (aI (b2 rg)), some (aI (-7))], [aR 52], MM N I J)) (by decide +kernel) rfl trivial ?_
      refine V.cv (c := 152) (na := 1) (o := 10) (a := 52) [] [] (by decide +kernel) rfl rfl rfl rfl rfl ((m_takesBack hOb hpo.1 hc0 hRn).mono (fun rv M1 q => ?_))
      obtain ⟨rfl, IT, rfl, t1, t2, t3, t4⟩ := q
      have hAT : RA K IT := hA.turn (fun i x y z => (t1 i x y).trans (e i x y z)) (fun k x y z u v => (t2 k x y z).trans (f k x y z u v)) (fun _ _ => rfl) t3 t4
      show V 150 (230, [some (aR 52), some (aI mo), some (aI (b2 rg)), some (aI (-7))], [], MM N IT J) _
      refine V.blk [(230, .iload 3, 1)] (ps := []) (z' := (231, [some (aR 52), some (aI mo), some (aI (b2 rg)), some (aI (-7))], [aI (-7)], MM N IT J)) (by decide +kernel) rfl trivial ?_
      refine V.ri (by decide +kernel) ?_
      have hp : perfA K = -1 := by
        rcases hR with ⟨w1, w2, -⟩ | ⟨w1, w2, w3, -⟩
        · exact w1
        · exfalso; omega
      exact ⟨_, IT, rfl, rfl, Or.inr (Or.inr (Or.inl ⟨rfl, hroom, hp, hrg.mp (by assumption), hAT⟩)), fun k a b => (t2 k (by omega) (by omega) (by omega)).trans (f k (by omega) (by omega) (by omega) (by omega) (by omega)), (t2 37 (by decide) (by decide) (by decide)).trans h37, (t1 87 (by decide) (by decide)).trans e8.1, (t1 88 (by decide) (by decide)).trans e8.2⟩
  · skip
    try simp only [b2_cast, b2_ncast, Classical.not_not, lcm_lt, lcm_ge, lcm_gt, lcm_le, lcm_eq, b2_0, b2_n0, Bool.not_eq_false, Bool.not_eq_true, decide_eq_true_eq, decide_eq_false_iff_not] at bh2
    refine V.blk [(206, .bipush (-8), 2), (208, .goto 221, 3), (221, .istore 3, 1), (222, .iload 3, 1), (223, .ifCond .eq 230, 3)] (ps := []) (z' := (brc .eq (-8) 0 230 226, [some (aR 52), some (aI mo), some (aI (b2 rg)), some (aI (-8))], [], MM N I J)) (by decide +kernel) rfl trivial ?_
    refine V.eq (fun hz => absurd hz (by decide)) (fun _ => ?_)
    refine V.blk [(226, .aload 0, 1)] (ps := []) (z' := (227, [some (aR 52), some (aI mo), some (aI (b2 rg)), some (aI (-8))], [aR 52], MM N I J)) (by decide +kernel) rfl trivial ?_
    refine V.cv (c := 152) (na := 1) (o := 10) (a := 52) [] [] (by decide +kernel) rfl rfl rfl rfl rfl ((m_takesBack hOb hpo.1 hc0 hRn).mono (fun rv M1 q => ?_))
    obtain ⟨rfl, IT, rfl, t1, t2, t3, t4⟩ := q
    have hAT : RA K IT := hA.turn (fun i x y z => (t1 i x y).trans (e i x y z)) (fun k x y z u v => (t2 k x y z).trans (f k x y z u v)) (fun _ _ => rfl) t3 t4
    show V 150 (230, [some (aR 52), some (aI mo), some (aI (b2 rg)), some (aI (-8))], [], MM N IT J) _
    refine V.blk [(230, .iload 3, 1)] (ps := []) (z' := (231, [some (aR 52), some (aI mo), some (aI (b2 rg)), some (aI (-8))], [aI (-8)], MM N IT J)) (by decide +kernel) rfl trivial ?_
    refine V.ri (by decide +kernel) ?_
    have hp : perfA K ≠ -1 ∧ I 52 39 = perfA K := by
      rcases hR with ⟨w1, w2, -⟩ | ⟨w1, w2, w3, -⟩
      · exfalso; omega
      · exact ⟨w1, w3⟩
    exact ⟨_, IT, rfl, rfl, Or.inr (Or.inl ⟨rfl, hroom, hp.1, (t2 39 (by decide) (by decide) (by decide)).trans hp.2, hAT⟩), fun k a b => (t2 k (by omega) (by omega) (by omega)).trans (f k (by omega) (by omega) (by omega) (by omega) (by omega)), (t2 37 (by decide) (by decide) (by decide)).trans h37, (t1 87 (by decide) (by decide)).trans e8.1, (t1 88 (by decide) (by decide)).trans e8.2⟩
theorem lm_136 {N : Nat} {I : MI} {J : MJ} {K : MI} {L : MJ} {I0 : MI} {mo : Int} {w : Option AV} (hX : WX K L) (hA : RA K I0) (hroom : roomP K) (ho : ∀ i, i ≠ 52 → I i = I0 i) (h52 : ∀ k, k ≠ 39 → I 52 k = I0 52 k) (h39 : I 52 39 = cdF K) (h370 : I0 52 37 = 0) : V 150 (136, [some (aR 52), some (aI mo), w, none], [], MM N I J) (fun r M' => ∃ z I', r = some (aI z) ∧ M' = MM N I' J ∧ MkR K L z I' ∧ (∀ k, 40 ≤ k → k ≤ 43 → I' 52 k = I0 52 k) ∧ I' 52 37 = 0 ∧ I' 87 = I0 87 ∧ I' 88 = I0 88) := by
  have hl := hroom.1
  have hl0 := hX.2.2.1.2.2.1
  have hcd0 : cdF K = -1 ∨ 0 ≤ cdF K := by
    rcases fndF_cases (cdB K) (K 22 9).toNat with ⟨w1, -⟩ | ⟨q, -, w1, -⟩
    · exact Or.inl w1
    · right
      unfold cdF
      rw [w1]
      omega
  have hc0 : 0 ≤ K 10 11 := by
    have := cS_in K (K 10 9).toNat
    have := hX.2.2.1.1
    have := hX.2.2.1.2.2.2.2.1
    omega
  refine V.blk [(136, .aload 0, 1), (137, .getfield 10039, 3), (140, .ifCond .lt 146, 3)] (ps := []) (z' := (brc .lt (I 52 39) 0 146 143, [some (aR 52), some (aI mo), w, none], [], MM N I J)) (by decide +kernel) rfl trivial ?_
  refine V.lt (fun bh1 => ?_) (fun bh2 => ?_)
  · skip
    try simp only [b2_cast, b2_ncast, Classical.not_not, lcm_lt, lcm_ge, lcm_gt, lcm_le, lcm_eq, b2_0, b2_n0, Bool.not_eq_false, Bool.not_eq_true, decide_eq_true_eq, decide_eq_false_iff_not] at bh1
    refine V.blk [(146, .aload 0, 1), (147, .bipush 1, 1), (148, .putfield 10037, 3), (151, .aload 0, 1)] (ps := [0 ≤ 1 ∧ 1 ≤ 1]) (z' := (152, [some (aR 52), some (aI mo), w, none], [aR 52], MM N (ma I 52 (ma (I 52) 37 1)) J)) (by decide +kernel) rfl (show (0 ≤ 1 ∧ 1 ≤ 1) from (by first | omega | (simp [ma]; omega))) ?_
    refine V.nI (fun I3 eI3 => ?_)
    refine V.cv (c := 132) (na := 1) (o := 10) (a := 52) [] [] (by decide +kernel) rfl rfl rfl rfl rfl ((m_isRing (L := L) (hX.EdH (hA.keep (I' := I3) (fun i a b => by rw [eI3, ma_ne _ _ (by omega)]; exact ho i (by omega)) (fun k a b _ _ _ _ _ => by rw [eI3, ma_self, ma_ne _ _ a]; exact h52 k b)))).mono (fun rv M1 q => ?_))
    obtain ⟨rg, IR, rfl, rfl, r1, r2⟩ := q
    have hrg : rg = true ↔ ringF (finU K) L := by
      rw [r2, show I3 52 37 = 1 by rw [eI3, ma_self, ma_self]]
      exact ring_acts hX
    have u52 : ∀ k, k ≠ 37 → IR 52 k = I 52 k := fun k a => by rw [r1 52 (by decide) (by decide) (by decide) (by decide) (by decide), eI3, ma_self, ma_ne _ _ a]
    have uo : ∀ i, i ≠ 52 → (i ≤ 77 ∨ i = 93 ∨ i = 94) → IR i = I0 i := fun i a b => by rw [r1 i (by omega) (by omega) (by omega) (by omega) (by omega), eI3, ma_ne _ _ a]; exact ho i a
    have u8 : IR 87 = I0 87 ∧ IR 88 = I0 88 := ⟨by rw [r1 87 (by decide) (by decide) (by decide) (by decide) (by decide), eI3, ma_ne _ _ (by decide)]; exact ho 87 (by decide), by rw [r1 88 (by decide) (by decide) (by decide) (by decide) (by decide), eI3, ma_ne _ _ (by decide)]; exact ho 88 (by decide)⟩
    clear eI3
    show V 150 (155, [some (aR 52), some (aI mo), w, none], [aI (b2 rg)], MM N IR J) _
    refine V.blk [(155, .istore 2, 1), (156, .aload 0, 1), (157, .bipush 0, 1), (158, .putfield 10037, 3)] (ps := [0 ≤ 0 ∧ 0 ≤ 1]) (z' := (161, [some (aR 52), some (aI mo), some (aI (b2 rg)), none], [], MM N (ma IR 52 (ma (IR 52) 37 0)) J)) (by decide +kernel) rfl (show (0 ≤ 0 ∧ 0 ≤ 1) from (by first | omega | (simp [ma]; omega))) ?_
    refine V.nI (fun I4 eI4 => ?_)
    have hl18 : IR 52 18 = K 10 13 := by have := u52 18 (by decide); have := h52 18 (by decide); have := hA.2.2.2.1.2.1; omega
    have hl18b : I4 52 18 = IR 52 18 := by rw [eI4, ma_self, ma_ne _ _ (by decide)]
    refine V.blk [(161, .aload 0, 1), (162, .dup, 1), (163, .getfield 10018, 3), (166, .bipush 1, 1), (167, .iadd, 1), (168, .putfield 10018, 3), (171, .bipush 0, 1), (172, .istore 3, 1)] (ps := [inR ((I4 52 18) + 1)]) (z' := (173, [some (aR 52), some (aI mo), some (aI (b2 rg)), some (aI 0)], [], MM N (ma I4 52 (ma (I4 52) 18 ((I4 52 18) + 1))) J)) (by decide +kernel) rfl (show (inR ((I4 52 18) + 1)) from (by unfold inR; first | omega | (simp [ma]; omega))) ?_
    refine V.nI (fun I5 eI5 => ?_)
    have hcd : cdF K = -1 := by omega
    have v52 : ∀ k, k ≠ 18 → k ≠ 37 → I5 52 k = IR 52 k := fun k a b => by subst_vars; simp only [ma_self, ma_ne, ne_eq, a, b, not_false_eq_true]
    have v18 : I5 52 18 = I0 52 18 + 1 := by
      have := u52 18 (by decide)
      have := h52 18 (by decide)
      rw [show I5 52 18 = IR 52 18 + 1 by subst_vars; simp only [ma_self, ma_ne, ne_eq, reduceCtorEq, not_false_eq_true, Nat.reduceEqDiff]]
      omega
    have v37 : I5 52 37 = 0 := by subst_vars; simp only [ma_self, ma_ne, ne_eq, reduceCtorEq, not_false_eq_true, Nat.reduceEqDiff]
    have vo : ∀ i, i ≠ 52 → (i ≤ 77 ∨ i = 93 ∨ i = 94) → I5 i = I0 i := fun i a b => by
      rw [show I5 i = IR i by subst_vars; simp only [ma_ne, ne_eq, a, not_false_eq_true]]
      exact uo i a b
    have v8 : I5 87 = I0 87 ∧ I5 88 = I0 88 := ⟨by rw [show I5 87 = IR 87 by subst_vars; simp only [ma_ne, ne_eq, reduceCtorEq, not_false_eq_true, Nat.reduceEqDiff]]; exact u8.1, by rw [show I5 88 = IR 88 by subst_vars; simp only [ma_ne, ne_eq, reduceCtorEq, not_false_eq_true, Nat.reduceEqDiff]]; exact u8.2⟩
    have w52 : ∀ k, k ≠ 18 → k ≠ 37 → k ≠ 39 → I5 52 k = I0 52 k := fun k a b c => (v52 k a b).trans ((u52 k b).trans (h52 k c))
    have v39 : I5 52 39 = -1 := by
      have := v52 39 (by decide) (by decide)
      have := u52 39 (by decide)
      omega
    have hRO : RO K K I5 := RO.start hA hX.2.2.1 (fun i a b => vo i (by omega) (by omega)) (w52 13 (by decide) (by decide) (by decide)) (w52 17 (by decide) (by decide) (by decide)) v18
    have hDN : RDr K I5 := by
      have := hA.2.2.2.2.1
      unfold RDr at this ⊢
      rw [w52 29 (by decide) (by decide) (by decide), w52 30 (by decide) (by decide) (by decide), vo 68 (by decide) (by decide), vo 69 (by decide) (by decide), vo 70 (by decide) (by decide), vo 71 (by decide) (by decide), vo 72 (by decide) (by decide), vo 73 (by decide) (by decide), vo 74 (by decide) (by decide), vo 75 (by decide) (by decide), vo 76 (by decide) (by decide)]
      exact this
    have hdn := hX.2.2.2.1.1
    refine l_acts (N := N) (J := J) (I := I5) (K := K) hDN hX.2.2.2.1 (hX.2.2.1.op hl) hX.1.2.1 hroom hcd hc0 (fun w' I2 f1 f2 hE => ?_) ((K 22 4).toNat + 1) 0 I5 (by omega) (by omega) (fun _ _ _ => rfl) (fun _ _ _ _ => rfl) (Or.inl ⟨v39, fun j hj => by omega, hRO⟩)
    exact lm_tail hX hA hl hroom hcd hrg (fun i a b c => (f1 i a b).trans (vo i a c)) (fun k a b c d e => (f2 k a b e).trans (w52 k c d e)) ⟨(f1 87 (by decide) (by decide)).trans v8.1, (f1 88 (by decide) (by decide)).trans v8.2⟩ ((f2 37 (by decide) (by decide) (by decide)).trans v37) hE
  · skip
    try simp only [b2_cast, b2_ncast, Classical.not_not, lcm_lt, lcm_ge, lcm_gt, lcm_le, lcm_eq, b2_0, b2_n0, Bool.not_eq_false, Bool.not_eq_true, decide_eq_true_eq, decide_eq_false_iff_not] at bh2
    refine V.blk [(143, .bipush (-8), 2)] (ps := []) (z' := (145, [some (aR 52), some (aI mo), w, none], [aI (-8)], MM N I J)) (by decide +kernel) rfl trivial ?_
    refine V.ri (by decide +kernel) ?_
    have hcn : cdF K ≠ -1 := by omega
    have hpa : perfA K = cdF K := by unfold perfA; rw [if_pos hcn]
    exact ⟨_, I, rfl, rfl, Or.inr (Or.inl ⟨rfl, hroom, by omega, by omega, hA.keep (fun i a b => ho i (by omega)) (fun k _ a _ _ _ _ _ => h52 k a)⟩), fun k a b => h52 k (by omega), (h52 37 (by decide)).trans h370, ho 87 (by decide), ho 88 (by decide)⟩
theorem m_makes {N : Nat} {I : MI} {J : MJ} {K : MI} {L : MJ} (hX : WX K L) (hA : RA K I) (h37 : I 52 37 = 0) : CT 150 [aR 52] (MM N I J) (fun r M' => ∃ z I', r = some (aI z) ∧ M' = MM N I' J ∧ MkR K L z I' ∧ (∀ k, 40 ≤ k → k ≤ 43 → I' 52 k = I 52 k) ∧ I' 52 37 = 0 ∧ I' 87 = I 87 ∧ I' 88 = I 88) := by
  have hl0 := hX.2.2.1.2.2.1
  have hl2 := hX.2.2.1.2.2.2.1
  have hm := hX.2.2.1.1
  have hm4 := hX.2.2.1.2.1
  have hd0 := hX.2.2.2.1.1
  have hd2 := hX.2.2.2.1.2.1
  have hc9 := hX.2.2.2.1.2.2.1
  have g18 := hA.2.2.2.1.2.1
  have g13 := hA.2.2.1.1
  have hcw := cntF_in (wrB K) (K 22 4).toNat
  refine CT.ofV (n := 4) (ls := [some (aR 52), none, none, none]) rfl rfl rfl ?_
  refine V.blk [(0, .bipush 0, 1), (1, .istore 1, 1), (2, .bipush 0, 1), (3, .istore 2, 1)] (ps := []) (z' := (4, [some (aR 52), some (aI 0), some (aI 0), none], [], MM N I J)) (by decide +kernel) rfl trivial ?_
  refine l_more hA.2.2.2.2.1 ⟨hd0, hd2⟩ (fun w => ?_) ((K 22 4).toNat + 1) 0 0 (by omega) (by omega) rfl
  refine V.blk [(35, .aload 0, 1), (36, .getfield 10018, 3), (39, .bipush 200, 3), (42, .if_icmp .eq 57, 3)] (ps := []) (z' := (brc .eq (I 52 18) 200 57 45, [some (aR 52), some (aI (cntF (wrB K) (K 22 4).toNat)), w, none], [], MM N I J)) (by decide +kernel) rfl trivial ?_
  refine V.eq (fun g1 => ?_) (fun g2 => ?_)
  · skip
    try simp only [b2_cast, b2_ncast, Classical.not_not, lcm_lt, lcm_ge, lcm_gt, lcm_le, lcm_eq, b2_0, b2_n0, Bool.not_eq_false, Bool.not_eq_true, decide_eq_true_eq, decide_eq_false_iff_not] at g1
    refine V.blk [(57, .bipush (-9), 2)] (ps := []) (z' := (59, [some (aR 52), some (aI (cntF (wrB K) (K 22 4).toNat)), w, none], [aI (-9)], MM N I J)) (by decide +kernel) rfl trivial ?_
    refine V.ri (by decide +kernel) ?_
    have hroom : ¬ roomP K := fun w => by
      have := w.1
      have := w.2
      omega
    exact ⟨_, I, rfl, rfl, Or.inl ⟨rfl, hroom, hA⟩, fun _ _ _ => rfl, h37, rfl, rfl⟩
  · skip
    try simp only [b2_cast, b2_ncast, Classical.not_not, lcm_lt, lcm_ge, lcm_gt, lcm_le, lcm_eq, b2_0, b2_n0, Bool.not_eq_false, Bool.not_eq_true, decide_eq_true_eq, decide_eq_false_iff_not] at g2
    refine V.blk [(45, .aload 0, 1), (46, .getfield 10013, 3), (49, .iload 1, 1), (50, .iadd, 1), (51, .bipush 400, 3), (54, .if_icmp .le 60, 3)] (ps := [inR ((I 52 13) + (cntF (wrB K) (K 22 4).toNat))]) (z' := (brc .le ((I 52 13) + (cntF (wrB K) (K 22 4).toNat)) 400 60 57, [some (aR 52), some (aI (cntF (wrB K) (K 22 4).toNat)), w, none], [], MM N I J)) (by decide +kernel) rfl (show (inR ((I 52 13) + (cntF (wrB K) (K 22 4).toNat))) from (by unfold inR; omega)) ?_
    refine V.le (fun g3 => ?_) (fun g4 => ?_)
    · skip
      try simp only [b2_cast, b2_ncast, Classical.not_not, lcm_lt, lcm_ge, lcm_gt, lcm_le, lcm_eq, b2_0, b2_n0, Bool.not_eq_false, Bool.not_eq_true, decide_eq_true_eq, decide_eq_false_iff_not] at g3
      have hroom : roomP K := ⟨by omega, by omega⟩
      refine V.blk [(60, .aload 0, 1), (61, .bipush (-1), 1), (62, .putfield 10039, 3), (65, .bipush 0, 1), (66, .istore 2, 1)] (ps := []) (z' := (67, [some (aR 52), some (aI (cntF (wrB K) (K 22 4).toNat)), some (aI 0), none], [], MM N (ma I 52 (ma (I 52) 39 (-1))) J)) (by decide +kernel) rfl trivial ?_
      refine V.nI (fun I5 eI5 => ?_)
      have f0 : ∀ i, i ≠ 52 → I5 i = I i := fun i a => by rw [eI5, ma_ne _ _ a]
      have f52 : ∀ k, k ≠ 39 → I5 52 k = I 52 k := fun k a => by rw [eI5, ma_self, ma_ne _ _ a]
      have f39 : I5 52 39 = -1 := by rw [eI5, ma_self, ma_self]
      have hA2 : RA K I5 := hA.keep (fun i a b => f0 i (by omega)) (fun k _ a _ _ _ _ _ => f52 k a)
      refine l_cond (N := N) (J := J) (I := I5) (K := K) hA2.2.2.2.2.1 hA2.2.2.1 hX.2.2.1 hA2.2.2.2.1.2.1 hX.2.2.2.1 (fun w' I2 g1 g2 g3 => ?_) ((K 22 9).toNat + 1) 0 I5 (by omega) (by omega) (fun _ _ => rfl) (fun _ _ => rfl) (Or.inl ⟨f39, fun j hj => by omega⟩)
      exact lm_136 hX hA hroom (fun i a => (g1 i a).trans (f0 i a)) (fun k a => (g2 k a).trans (f52 k a)) g3 h37
    · skip
      try simp only [b2_cast, b2_ncast, Classical.not_not, lcm_lt, lcm_ge, lcm_gt, lcm_le, lcm_eq, b2_0, b2_n0, Bool.not_eq_false, Bool.not_eq_true, decide_eq_true_eq, decide_eq_false_iff_not] at g4
      refine V.blk [(57, .bipush (-9), 2)] (ps := []) (z' := (59, [some (aR 52), some (aI (cntF (wrB K) (K 22 4).toNat)), w, none], [aI (-9)], MM N I J)) (by decide +kernel) rfl trivial ?_
      refine V.ri (by decide +kernel) ?_
      have hroom : ¬ roomP K := fun w => by
        have := w.1
        have := w.2
        omega
      exact ⟨_, I, rfl, rfl, Or.inl ⟨rfl, hroom, hA⟩, fun _ _ _ => rfl, h37, rfl, rfl⟩
