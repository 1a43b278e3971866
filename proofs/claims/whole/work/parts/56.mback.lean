/-! ===== the reference: takesBack, makes, commit ===== -/
theorem runU_26 (K : MI) (a : Nat) : runU K a 26 = K 26 := runU_ne K (by omega) a
theorem runU_cnt (K : MI) : ∀ a : Nat, runU K a 10 9 = K 10 9 + cntF (wrB K) a
  | 0 => by show K 10 9 = K 10 9 + 0; omega
  | a + 1 => by
    have i := runU_cnt K a
    show aoU (runU K a) a 10 9 = _
    unfold aoU
    by_cases c : K 26 a = -1
    · have hb : wrB K a = false := decide_eq_false (by omega)
      rw [runU_26, if_pos c, (remU_v _ _).2.2.2.2 9 (by decide), i, cntF_f hb]
    · have hb : wrB K a = true := decide_eq_true c
      rw [runU_26, if_neg c, (addU_v _ _ _ _ _).2.2.2.2.2.2.2.2.2.2.2.1, i, cntF_t hb]
      omega
theorem room_lt {K : MI} (h : roomP K) {a : Nat} (ha : (a : Int) < K 22 4) (c : K 26 a ≠ -1) : runU K a 10 9 < 400 := by
  have h2 := h.2
  have hb : wrB K a = true := decide_eq_true c
  have m := cntF_mono (f := wrB K) (n := a + 1) (m := (K 22 4).toNat) (by omega)
  rw [cntF_t hb] at m
  rw [runU_cnt]
  omega
theorem up_le {K : MI} (h : WLe K) {t : Nat} (ht : (t : Int) ≤ K 10 13) : K 21 t ≤ K 10 11 := by
  obtain ⟨a, b, c, d, e, f, g, i, j, k⟩ := h
  have key : ∀ n : Nat, (t : Int) + n ≤ K 10 13 → K 21 t ≤ K 21 (t + n) := by
    intro n
    induction n with
    | zero => intro _; exact Int.le_refl _
    | succ n ih =>
      intro hn
      have := k (t + n) (by omega)
      exact Int.le_trans (ih (by omega)) this.1
  have := key ((K 10 13).toNat - t) (by omega)
  rw [show t + ((K 10 13).toNat - t) = (K 10 13).toNat by omega, j] at this
  exact this
theorem RO.start {K I I' : MI} (hA : RA K I) (hL : WLe K) (e : ∀ i, 59 ≤ i → i ≤ 67 → I' i = I i) (e13 : I' 52 13 = I 52 13) (e17 : I' 52 17 = I 52 17) (e18 : I' 52 18 = I 52 18 + 1) : RO K K I' := by
  obtain ⟨h1, h2, h3, h4, h5, h6, h7, h8⟩ := hA
  obtain ⟨l1, l2, l3, l4⟩ := h4
  refine ⟨?_, by rw [e18, l2], by rw [e17, l1], fun c hc => ?_, fun c hc => ⟨fun w => by omega, fun _ => ?_⟩, fun c t hc ht => ?_⟩
  · unfold RPr; rw [e13, e 59 (by decide) (by decide), e 60 (by decide) (by decide), e 61 (by decide) (by decide), e 62 (by decide) (by decide), e 63 (by decide) (by decide), e 64 (by decide) (by decide)]; exact h3
  · rw [e 66 (by decide) (by decide), e 67 (by decide) (by decide)]; exact l3 c hc
  · rw [e 65 (by decide) (by decide)]
    have q := l4 c (K 10 13).toNat hc (by have := hL.2.2.1; omega)
    rw [hL.2.2.2.2.2.2.2.2.1] at q
    have := q.mp hc
    have := hL.2.2.1
    omega
  · rw [e 65 (by decide) (by decide)]; exact l4 c t hc ht
theorem l_tback {N : Nat} {I : MI} {J : MJ} {K : MI} {n : Nat} (hO : ∀ b, b ≤ n → WOp (runU K b)) (hB : ∀ b, b < n → aoB (runU K b) b = true) (h1 : 0 ≤ K 10 11) : ∀ (b : Nat) (I' : MI), b ≤ n → (∀ i, i ≠ 52 → (i < 59 ∨ 67 < i) → I' i = I i) → (∀ k, k ≠ 13 → k ≠ 17 → k ≠ 18 → I' 52 k = I 52 k) → RO K (runU K b) I' → V 152 (0, [some (aR 52)], [], MM N I' J) (fun r M' => r = none ∧ ∃ I', M' = MM N I' J ∧ (∀ i, i ≠ 52 → (i < 59 ∨ 67 < i) → I' i = I i) ∧ (∀ k, k ≠ 13 → k ≠ 17 → k ≠ 18 → I' 52 k = I 52 k) ∧ RPr K I' ∧ RLg K I') := by
  intro b
  induction b with
  | zero =>
    intro I' h2 ho h52 hR
    have hR' : RO K K I' := hR
    have g17 := hR.2.2.1
    have g18 := hR.2.1
    have hw0 := hO 0 (Nat.zero_le _)
    have hc0 := hw0.1
    have hc1 : 0 ≤ K 10 13 ∧ K 10 13 ≤ 199 := hw0.2.1
    have hcs := cS_in K (K 10 9).toNat
    have hc2 : K 10 11 = K 10 9 + cS K (K 10 9).toNat := hw0.2.2.1
    have hc3 : 0 ≤ K 10 9 ∧ K 10 9 ≤ 400 := hc0
    have g17 : I' 52 17 = K 10 11 := g17
    refine V.blk [(0, .aload 0, 1), (1, .getfield 10017, 3), (4, .ifCond .le 78, 3)] (ps := []) (z' := (brc .le (I' 52 17) 0 78 7, [some (aR 52)], [], MM N I' J)) (by decide +kernel) rfl trivial ?_
    refine V.le (fun bh1 => ?_) (fun bh2 => ?_)
    · skip
      refine V.blk [(78, .aload 0, 1), (79, .dup, 1), (80, .getfield 10018, 3), (83, .bipush 1, 1), (84, .isub, 1), (85, .putfield 10018, 3)] (ps := [inR ((I' 52 18) - 1)]) (z' := (88, [some (aR 52)], [], MM N (ma I' 52 (ma (I' 52) 18 ((I' 52 18) - 1))) J)) (by decide +kernel) rfl (show (inR ((I' 52 18) - 1)) from (by unfold inR; omega)) ?_
      refine V.nI (fun I3 eI3 => ?_)
      refine V.rv (by decide +kernel) ?_
      refine ⟨rfl, I3, rfl, fun i x y => by rw [eI3, ma_ne _ _ x]; exact ho i x y, fun k x y z => by rw [eI3, ma_self, ma_ne _ _ z]; exact h52 k x y z, ?_, ?_⟩
      · obtain ⟨hP, -⟩ := hR'
        unfold RPr
        rw [eI3]
        simp only [ma_self, ma_ne, ne_eq, reduceCtorEq, not_false_eq_true, Nat.reduceEqDiff]
        exact hP
      · obtain ⟨hP, r18, r17, rL, rT, rU⟩ := hR'
        unfold RLg
        rw [eI3]
        simp only [ma_self, ma_ne, ne_eq, reduceCtorEq, not_false_eq_true, Nat.reduceEqDiff]
        exact ⟨r17, by omega, rL, rU⟩
    · skip
      refine V.blk [(7, .aload 0, 1), (8, .getfield 10014, 3), (11, .aload 0, 1), (12, .getfield 10017, 3), (15, .bipush 1, 1), (16, .isub, 1), (17, .iaload, 1), (18, .aload 0, 1), (19, .getfield 10018, 3), (22, .if_icmp .ne 78, 3)] (ps := [inR ((I' 52 17) - 1), 0 ≤ ((I' 52 17) - 1) ∧ ((I' 52 17) - 1) < 4020]) (z' := (brc .ne (I' 65 (((I' 52 17) - 1).toNat)) (I' 52 18) 78 25, [some (aR 52)], [], MM N I' J)) (by decide +kernel) rfl (show (inR ((I' 52 17) - 1)) ∧ (0 ≤ ((I' 52 17) - 1) ∧ ((I' 52 17) - 1) < 4020) from ⟨(by unfold inR; omega), (by omega)⟩) ?_
      refine V.ne (fun bh4 => ?_) (fun bh5 => ?_)
      · skip
        refine V.blk [(78, .aload 0, 1), (79, .dup, 1), (80, .getfield 10018, 3), (83, .bipush 1, 1), (84, .isub, 1), (85, .putfield 10018, 3)] (ps := [inR ((I' 52 18) - 1)]) (z' := (88, [some (aR 52)], [], MM N (ma I' 52 (ma (I' 52) 18 ((I' 52 18) - 1))) J)) (by decide +kernel) rfl (show (inR ((I' 52 18) - 1)) from (by unfold inR; omega)) ?_
        refine V.nI (fun I6 eI6 => ?_)
        refine V.rv (by decide +kernel) ?_
        refine ⟨rfl, I6, rfl, fun i x y => by rw [eI6, ma_ne _ _ x]; exact ho i x y, fun k x y z => by rw [eI6, ma_self, ma_ne _ _ z]; exact h52 k x y z, ?_, ?_⟩
        · obtain ⟨hP, -⟩ := hR'
          unfold RPr
          rw [eI6]
          simp only [ma_self, ma_ne, ne_eq, reduceCtorEq, not_false_eq_true, Nat.reduceEqDiff]
          exact hP
        · obtain ⟨hP, r18, r17, rL, rT, rU⟩ := hR'
          unfold RLg
          rw [eI6]
          simp only [ma_self, ma_ne, ne_eq, reduceCtorEq, not_false_eq_true, Nat.reduceEqDiff]
          exact ⟨r17, by omega, rL, rU⟩
      · skip
        exfalso
        have q := (hR'.2.2.2.2.1 (I' 52 17 - 1).toNat (by omega)).2 (by omega)
        omega
  | succ b ih =>
    intro I' h2 ho h52 hR
    have g17 := hR.2.2.1
    have g18 := hR.2.1
    have hwb := hO b (by omega)
    have hbb := hB b (by omega)
    have hch := runU_ch K b
    have hch2 := runU_ch K (b + 1)
    have hw1 := hO (b + 1) h2
    have hcs := cS_in (runU K (b + 1)) (runU K (b + 1) 10 9).toNat
    have hc2 := hw1.2.2.1
    have hc3 := hw1.1
    have hwc := hw1.2.2.2.2 (K 10 11 + b).toNat (by omega)
    have gT := (hR.2.2.2.2.1 (K 10 11 + b).toNat (by omega)).1 (by omega)
    have gL := hR.2.2.2.1 (K 10 11 + b).toNat (by omega)
    have ei : (I' 52 17 - 1).toNat = (K 10 11 + b).toNat := by omega
    have hcases : (I' 67 (K 10 11 + b).toNat = 0 ∧ runU K (b + 1) = addU (runU K b) (runU K b 23 b) (runU K b 24 b) (runU K b 25 b) (runU K b 26 b)) ∨ (I' 67 (K 10 11 + b).toNat = 1 ∧ ∃ p : Nat, I' 66 (K 10 11 + b).toNat = (p : Int) ∧ p < 400 ∧ runU K b 16 p = -1 ∧ runU K (b + 1) = remU (runU K b) (p : Int)) := by
      have e : runU K (b + 1) = aoU (runU K b) b := rfl
      have hst := stF_in (K := runU K b) (th := runU K b 23 b) (rl := runU K b 24 b) (u := runU K b 25 b) hwb.1.1
      have hm4 := hwb.1.2
      unfold aoU at e
      unfold aoB at hbb
      split at e
      · rename_i c
        rw [if_pos c] at hbb
        unfold rmB at hbb
        have hn := of_decide_eq_true hbb
        obtain ⟨p, ep⟩ : ∃ p : Nat, stF (runU K b) (runU K b 23 b) (runU K b 24 b) (runU K b 25 b) = p := ⟨(stF (runU K b) (runU K b 23 b) (runU K b 24 b) (runU K b 25 b)).toNat, by omega⟩
        rw [ep] at e hst
        right
        have v := (remU_v (runU K b) (p : Int)).2.2.1
        rw [e, v] at gL
        rw [show (K 10 11 + (b : Int)).toNat = (runU K b 10 11).toNat by omega] at gL ⊢
        rw [ma_self] at gL
        refine ⟨by omega, p, by omega, by omega, ?_, e⟩
        rcases hst with w | ⟨w1, w2, w3⟩
        · omega
        · unfold stB at w3
          exact (of_decide_eq_true w3).1
      · left
        have v := (addU_v (runU K b) (runU K b 23 b) (runU K b 24 b) (runU K b 25 b) (runU K b 26 b)).2.2.2.2.2.2.2.2.2.2.1
        rw [e, v] at gL
        rw [show (K 10 11 + (b : Int)).toNat = (runU K b 10 11).toNat by omega] at gL ⊢
        rw [ma_self] at gL
        exact ⟨by omega, e⟩
    refine V.blk [(0, .aload 0, 1), (1, .getfield 10017, 3), (4, .ifCond .le 78, 3)] (ps := []) (z' := (brc .le (I' 52 17) 0 78 7, [some (aR 52)], [], MM N I' J)) (by decide +kernel) rfl trivial ?_
    refine V.le (fun bh1 => ?_) (fun bh2 => ?_)
    · skip
      exfalso
      omega
    · skip
      refine V.blk [(7, .aload 0, 1), (8, .getfield 10014, 3), (11, .aload 0, 1), (12, .getfield 10017, 3), (15, .bipush 1, 1), (16, .isub, 1), (17, .iaload, 1), (18, .aload 0, 1), (19, .getfield 10018, 3), (22, .if_icmp .ne 78, 3)] (ps := [inR ((I' 52 17) - 1), 0 ≤ ((I' 52 17) - 1) ∧ ((I' 52 17) - 1) < 4020]) (z' := (brc .ne (I' 65 (((I' 52 17) - 1).toNat)) (I' 52 18) 78 25, [some (aR 52)], [], MM N I' J)) (by decide +kernel) rfl (show (inR ((I' 52 17) - 1)) ∧ (0 ≤ ((I' 52 17) - 1) ∧ ((I' 52 17) - 1) < 4020) from ⟨(by unfold inR; first | omega | (rw [f17]; omega) | (rw [f66p]; omega) | (have := f52 13 (by decide); have := hR.1.1; omega)), (by first | omega | (rw [f17]; omega) | (rw [f66p]; omega) | (have := f52 13 (by decide); have := hR.1.1; omega))⟩) ?_
      refine V.ne (fun bh3 => ?_) (fun bh4 => ?_)
      · skip
        exfalso
        rw [ei] at bh3
        omega
      · skip
        refine V.blk [(25, .aload 0, 1), (26, .dup, 1), (27, .getfield 10017, 3), (30, .bipush 1, 1), (31, .isub, 1), (32, .putfield 10017, 3)] (ps := [inR ((I' 52 17) - 1)]) (z' := (35, [some (aR 52)], [], MM N (ma I' 52 (ma (I' 52) 17 ((I' 52 17) - 1))) J)) (by decide +kernel) rfl (show (inR ((I' 52 17) - 1)) from (by unfold inR; first | omega | (rw [f17]; omega) | (rw [f66p]; omega) | (have := f52 13 (by decide); have := hR.1.1; omega))) ?_
        refine V.nI (fun I5 eI5 => ?_)
        have f0 : ∀ i, i ≠ 52 → I5 i = I' i := fun i x => by rw [eI5, ma_ne _ _ x]
        have f52 : ∀ k, k ≠ 17 → I5 52 k = I' 52 k := fun k x => by rw [eI5, ma_self, ma_ne _ _ x]
        have f17 : I5 52 17 = K 10 11 + b := by rw [eI5, ma_self, ma_self]; omega
        clear eI5
        have f67 : I5 67 (I5 52 17).toNat = I' 67 (K 10 11 + b).toNat := by rw [f17, f0 67 (by decide)]
        have f66 : I5 66 (I5 52 17).toNat = I' 66 (K 10 11 + b).toNat := by rw [f17, f0 66 (by decide)]
        refine V.blk [(35, .aload 0, 1), (36, .getfield 10016, 3), (39, .aload 0, 1), (40, .getfield 10017, 3), (43, .baload, 1), (44, .ifCond .eq 65, 3)] (ps := [0 ≤ (I5 52 17) ∧ (I5 52 17) < 4020]) (z' := (brc .eq (I5 67 ((I5 52 17).toNat)) 0 65 47, [some (aR 52)], [], MM N I5 J)) (by decide +kernel) rfl (show (0 ≤ (I5 52 17) ∧ (I5 52 17) < 4020) from (by first | omega | (rw [f17]; omega) | (rw [f66p]; omega) | (have := f52 13 (by decide); have := hR.1.1; omega))) ?_
        refine V.eq (fun bh6 => ?_) (fun bh7 => ?_)
        · skip
          obtain ⟨hz, er⟩ : I' 67 (K 10 11 + b).toNat = 0 ∧ runU K (b + 1) = addU (runU K b) (runU K b 23 b) (runU K b 24 b) (runU K b 25 b) (runU K b 26 b) := by
            rcases hcases with w | ⟨w, -⟩
            · exact w
            · exfalso; omega
          clear hcases
          refine V.blk [(65, .aload 0, 1), (66, .dup, 1), (67, .getfield 10013, 3), (70, .bipush 1, 1), (71, .isub, 1), (72, .putfield 10013, 3), (75, .goto 0, 3)] (ps := [inR ((I5 52 13) - 1)]) (z' := (0, [some (aR 52)], [], MM N (ma I5 52 (ma (I5 52) 13 ((I5 52 13) - 1))) J)) (by decide +kernel) rfl (show (inR ((I5 52 13) - 1)) from (by unfold inR; first | omega | (rw [f17]; omega) | (rw [f66p]; omega) | (have := f52 13 (by decide); have := hR.1.1; omega))) ?_
          refine V.nI (fun I8 eI8 => ?_)
          first
            | (rw [er] at hR
               refine ih I8 (by omega) (fun i x y => ?_) (fun k x y z => ?_) (hR.unrem (p := p) hwb.1.1 (by omega) hp16 ?_ ?_ ?_ (fun i x y z => ?_) ?_)
               · rw [eI8, ma_ne _ _ (by omega), f0 i x]; exact ho i x y
               · rw [eI8, ma_ne _ _ (by decide), f52 k y]; exact h52 k x y z
               · rw [eI8, ma_ne _ _ (by decide), f52 13 (by decide)]
               · rw [eI8, ma_ne _ _ (by decide), f52 18 (by decide)]
               · rw [eI8, ma_ne _ _ (by decide), f17]; omega
               · rw [eI8, ma_ne _ _ z, f0 i (by omega)]
               · rw [eI8, ma_self, f66p, f0 64 (by decide)]; rfl)
            | (rw [er] at hR
               refine ih I8 (by omega) (fun i x y => ?_) (fun k x y z => ?_) (hR.unadd hwb.1.1 (by omega) ?_ ?_ ?_ (fun i x y => ?_))
               · rw [eI8, ma_ne _ _ x, f0 i x]; exact ho i x y
               · rw [eI8, ma_self, ma_ne _ _ x, f52 k y]; exact h52 k x y z
               · rw [eI8, ma_self, ma_self, f52 13 (by decide)]
               · rw [eI8, ma_self, ma_ne _ _ (by decide), f52 18 (by decide)]
               · rw [eI8, ma_self, ma_ne _ _ (by decide), f17]; omega
               · rw [eI8, ma_ne _ _ (by omega), f0 i (by omega)])
        · skip
          obtain ⟨hz, p, ep, hp4, hp16, er⟩ : I' 67 (K 10 11 + b).toNat = 1 ∧ ∃ p : Nat, I' 66 (K 10 11 + b).toNat = (p : Int) ∧ p < 400 ∧ runU K b 16 p = -1 ∧ runU K (b + 1) = remU (runU K b) (p : Int) := by
            rcases hcases with ⟨w, -⟩ | w
            · exfalso; omega
            · exact w
          have f66p : I5 66 (I5 52 17).toNat = (p : Int) := by rw [f66]; exact ep
          clear hcases
          refine V.blk [(47, .aload 0, 1), (48, .getfield 10012, 3), (51, .aload 0, 1), (52, .getfield 10015, 3), (55, .aload 0, 1), (56, .getfield 10017, 3), (59, .iaload, 1), (60, .bipush (-1), 1), (61, .iastore, 1), (62, .goto 0, 3)] (ps := [0 ≤ (I5 52 17) ∧ (I5 52 17) < 4020, 0 ≤ (I5 66 ((I5 52 17).toNat)) ∧ (I5 66 ((I5 52 17).toNat)) < 420]) (z' := (0, [some (aR 52)], [], MM N (ma I5 64 (ma (I5 64) ((I5 66 ((I5 52 17).toNat)).toNat) (-1))) J)) (by decide +kernel) rfl (show (0 ≤ (I5 52 17) ∧ (I5 52 17) < 4020) ∧ (0 ≤ (I5 66 ((I5 52 17).toNat)) ∧ (I5 66 ((I5 52 17).toNat)) < 420) from ⟨(by first | omega | (rw [f17]; omega) | (rw [f66p]; omega) | (have := f52 13 (by decide); have := hR.1.1; omega)), (by first | omega | (rw [f17]; omega) | (rw [f66p]; omega) | (have := f52 13 (by decide); have := hR.1.1; omega))⟩) ?_
          refine V.nI (fun I9 eI9 => ?_)
          first
            | (rw [er] at hR
               refine ih I9 (by omega) (fun i x y => ?_) (fun k x y z => ?_) (hR.unrem (p := p) hwb.1.1 (by omega) hp16 ?_ ?_ ?_ (fun i x y z => ?_) ?_)
               · rw [eI9, ma_ne _ _ (by omega), f0 i x]; exact ho i x y
               · rw [eI9, ma_ne _ _ (by decide), f52 k y]; exact h52 k x y z
               · rw [eI9, ma_ne _ _ (by decide), f52 13 (by decide)]
               · rw [eI9, ma_ne _ _ (by decide), f52 18 (by decide)]
               · rw [eI9, ma_ne _ _ (by decide), f17]; omega
               · rw [eI9, ma_ne _ _ z, f0 i (by omega)]
               · rw [eI9, ma_self, f66p, f0 64 (by decide)]; rfl)
            | (rw [er] at hR
               refine ih I9 (by omega) (fun i x y => ?_) (fun k x y z => ?_) (hR.unadd hwb.1.1 (by omega) ?_ ?_ ?_ (fun i x y => ?_))
               · rw [eI9, ma_ne _ _ x, f0 i x]; exact ho i x y
               · rw [eI9, ma_self, ma_ne _ _ x, f52 k y]; exact h52 k x y z
               · rw [eI9, ma_self, ma_self, f52 13 (by decide)]
               · rw [eI9, ma_self, ma_ne _ _ (by decide), f52 18 (by decide)]
               · rw [eI9, ma_self, ma_ne _ _ (by decide), f17]; omega
               · rw [eI9, ma_ne _ _ (by omega), f0 i (by omega)])
theorem m_takesBack {N : Nat} {I : MI} {J : MJ} {K : MI} {n : Nat} (hO : ∀ b, b ≤ n → WOp (runU K b)) (hB : ∀ b, b < n → aoB (runU K b) b = true) (h1 : 0 ≤ K 10 11) (hR : RO K (runU K n) I) : CT 152 [aR 52] (MM N I J) (fun r M' => r = none ∧ ∃ I', M' = MM N I' J ∧ (∀ i, i ≠ 52 → (i < 59 ∨ 67 < i) → I' i = I i) ∧ (∀ k, k ≠ 13 → k ≠ 17 → k ≠ 18 → I' 52 k = I 52 k) ∧ RPr K I' ∧ RLg K I') := by
  refine CT.ofV (n := 1) (ls := [some (aR 52)]) rfl rfl rfl ?_
  exact l_tback hO hB h1 n I (Nat.le_refl _) (fun _ _ _ => rfl) (fun _ _ _ _ => rfl) hR
