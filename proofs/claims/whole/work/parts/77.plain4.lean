/-! ===== one call of both: when ===== -/
section PLAIN4
variable {N n : Nat} {I : MI} {J : MJ} {w t r u e : Int}
theorem cndU_f (I : MI) (t r u e : Int) : (∀ i, i ≠ 22 → i ≠ 27 → i ≠ 28 → i ≠ 29 → i ≠ 30 → cndU I t r u e i = I i) ∧ (∀ k, k ≠ 9 → cndU I t r u e 22 k = I 22 k) ∧ cndU I t r u e 22 9 = I 22 9 + 1 ∧ cndU I t r u e 27 = ma (I 27) (I 22 9).toNat t ∧ cndU I t r u e 28 = ma (I 28) (I 22 9).toNat r ∧ cndU I t r u e 29 = ma (I 29) (I 22 9).toNat u ∧ cndU I t r u e 30 = ma (I 30) (I 22 9).toNat e := by
  unfold cndU
  refine ⟨fun i a b c d f => ?_, fun k a => ?_, ?_, ?_, ?_, ?_, ?_⟩
  · rw [ma_ne _ _ a, ma_ne _ _ f, ma_ne _ _ d, ma_ne _ _ c, ma_ne _ _ b]
  · rw [ma_self, ma_ne _ _ a]
  · rw [ma_self, ma_self]
  · rw [ma_ne _ _ (by decide), ma_ne _ _ (by decide), ma_ne _ _ (by decide), ma_ne _ _ (by decide), ma_self]
  · rw [ma_ne _ _ (by decide), ma_ne _ _ (by decide), ma_ne _ _ (by decide), ma_self]
  · rw [ma_ne _ _ (by decide), ma_ne _ _ (by decide), ma_self]
  · rw [ma_ne _ _ (by decide), ma_self]
theorem cndMU_f (I : MI) (t r u e : Int) : (∀ i, i ≠ 52 → i ≠ 74 → i ≠ 75 → i ≠ 76 → i ≠ 69 → cndMU I t r u e i = I i) ∧ (∀ k, k ≠ 30 → cndMU I t r u e 52 k = I 52 k) ∧ cndMU I t r u e 52 30 = I 52 30 + 1 ∧ cndMU I t r u e 74 = ma (I 74) (I 52 30).toNat t ∧ cndMU I t r u e 75 = ma (I 75) (I 52 30).toNat r ∧ cndMU I t r u e 76 = ma (I 76) (I 52 30).toNat u ∧ cndMU I t r u e 69 = ma (I 69) (I 52 30).toNat e := by
  unfold cndMU
  refine ⟨fun i a b c d f => ?_, fun k a => ?_, ?_, ?_, ?_, ?_, ?_⟩
  · rw [ma_ne _ _ a, ma_ne _ _ f, ma_ne _ _ d, ma_ne _ _ c, ma_ne _ _ b]
  · rw [ma_self, ma_ne _ _ a]
  · rw [ma_self, ma_self]
  · rw [ma_ne _ _ (by decide), ma_ne _ _ (by decide), ma_ne _ _ (by decide), ma_ne _ _ (by decide), ma_self]
  · rw [ma_ne _ _ (by decide), ma_ne _ _ (by decide), ma_ne _ _ (by decide), ma_self]
  · rw [ma_ne _ _ (by decide), ma_ne _ _ (by decide), ma_self]
  · rw [ma_ne _ _ (by decide), ma_self]
theorem PS.cnd {I1 : MI} (hA : RA I I1) (h0 : 0 ≤ I 22 9) : PS I (cndU I t r u e) I1 (cndMU I1 t r u e) := by
  obtain ⟨kn, k22, k4, k23, k24, k25, k26⟩ := cndU_f I t r u e
  obtain ⟨im, f, f29, i74, i75, i76, i69⟩ := cndMU_f I1 t r u e
  have knn : ∀ i, i ≠ 22 → (i < 27 ∨ 30 < i) → cndU I t r u e i = I i := fun i a hi => kn i a (by omega) (by omega) (by omega) (by omega)
  have imm : ∀ i, i ≠ 52 → i ≠ 69 → (i < 74 ∨ 76 < i) → cndMU I1 t r u e i = I1 i := fun i a b hi => im i a (by omega) (by omega) (by omega) b
  refine ⟨?_, Or.inr ⟨f 40 (by decide), fun i hi => knn i (by unfold rdC at hi; omega) (by unfold rdC at hi; omega), by rw [knn 0 (by omega) (by omega)]⟩, f 37 (by decide), f 41 (by decide), f 42 (by decide), f 43 (by decide), imm 87 (by decide) (by decide) (by omega), imm 88 (by decide) (by decide) (by omega)⟩
  obtain ⟨h1, h2, h3, h4, ⟨d1, d2, d3, d4⟩, h6, h7, h8⟩ := hA
  refine ⟨?_, ?_, ?_, ?_, ⟨by rw [f 29 (by decide), k22 4 (by decide)]; exact d1, by rw [f29, k4, d2], fun a ha => ?_, fun a ha => ?_⟩, ?_, ?_, ?_⟩
  · unfold RTh; rw [knn 1 (by omega) (by omega), knn 2 (by omega) (by omega), f 1 (by decide), imm 53 (by decide) (by decide) (by omega)]; exact h1
  · unfold RRu; rw [knn 4 (by omega) (by omega), knn 5 (by omega) (by omega), knn 6 (by omega) (by omega), knn 7 (by omega) (by omega), imm 54 (by decide) (by decide) (by omega), imm 55 (by decide) (by decide) (by omega), imm 56 (by decide) (by decide) (by omega), imm 57 (by decide) (by decide) (by omega), imm 58 (by decide) (by decide) (by omega)]; exact h2
  · unfold RPr; rw [knn 10 (by omega) (by omega), knn 11 (by omega) (by omega), knn 12 (by omega) (by omega), knn 13 (by omega) (by omega), knn 14 (by omega) (by omega), knn 15 (by omega) (by omega), knn 16 (by omega) (by omega), f 13 (by decide), imm 59 (by decide) (by decide) (by omega), imm 60 (by decide) (by decide) (by omega), imm 61 (by decide) (by decide) (by omega), imm 62 (by decide) (by decide) (by omega), imm 63 (by decide) (by decide) (by omega), imm 64 (by decide) (by decide) (by omega)]; exact h3
  · unfold RLg; rw [knn 10 (by omega) (by omega), knn 20 (by omega) (by omega), knn 21 (by omega) (by omega), f 17 (by decide), f 18 (by decide), imm 65 (by decide) (by decide) (by omega), imm 66 (by decide) (by decide) (by omega), imm 67 (by decide) (by decide) (by omega)]; exact h4
  · rw [k22 4 (by decide)] at ha
    rw [imm 68 (by decide) (by decide) (by omega), imm 70 (by decide) (by decide) (by omega), imm 71 (by decide) (by decide) (by omega), imm 72 (by decide) (by decide) (by omega), imm 73 (by decide) (by decide) (by omega), knn 23 (by omega) (by omega), knn 24 (by omega) (by omega), knn 25 (by omega) (by omega), knn 26 (by omega) (by omega)]
    exact d3 a ha
  · rw [k4] at ha
    rw [i74, i75, i76, i69, k23, k24, k25, k26, d2]
    by_cases c : a = (I 22 9).toNat
    · subst c
      simp only [ma_self]
      exact ⟨trivial, trivial, trivial, trivial⟩
    · simp only [ma_ne _ _ c]
      exact d4 a (by omega)
  · unfold RSc; rw [knn 0 (by omega) (by omega), knn 51 (by omega) (by omega), f 19 (by decide), f 31 (by decide), imm 77 (by decide) (by decide) (by omega)]; exact h6
  · unfold RRe; rw [knn 44 (by omega) (by omega), knn 45 (by omega) (by omega), f 56 (by decide), f 57 (by decide), f 58 (by decide), f 59 (by decide), f 60 (by decide), f 61 (by decide), imm 93 (by decide) (by decide) (by omega)]; exact h7
  · unfold RRo; rw [knn 48 (by omega) (by omega), knn 49 (by omega) (by omega), f 64 (by decide), imm 94 (by decide) (by decide) (by omega)]; exact h8
theorem FitU.cnd (h : INV n I J) (ht : 0 ≤ t ∧ t < I 1 1 ∧ 0 ≤ r ∧ r < 8) (hu : isUsr (I 1 1) u) (he : 0 ≤ e ∧ e ≤ 1) (h20 : I 22 9 < 10) : FitU n I (cndU I t r u e) J := by
  obtain ⟨kn, k22, k4, k23, k24, k25, k26⟩ := cndU_f I t r u e
  have knn : ∀ i, i ≠ 22 → (i < 27 ∨ 30 < i) → cndU I t r u e i = I i := fun i a hi => kn i a (by omega) (by omega) (by omega) (by omega)
  refine ⟨?_, fun i hi => knn i (by omega) (by omega), h.c0 (knn 51 (by omega) (by omega))⟩
  obtain ⟨a, b, c, d, f, g, k, s, q⟩ := h.1
  refine ⟨WTh_congr a (knn 1 (by omega) (by omega)) (knn 2 (by omega) (by omega)), WRu_congr b (knn 4 (by omega) (by omega)) (knn 5 (by omega) (by omega)) (knn 6 (by omega) (by omega)) (knn 7 (by omega) (by omega)), ?_, ?_, ?_, ?_, ?_, svOK_congr s (knn 4 (by omega) (by omega)) (knn 5 (by omega) (by omega)) (knn 6 (by omega) (by omega)) rfl rfl, ?_⟩
  · unfold WLe WPr at c ⊢
    rw [knn 1 (by omega) (by omega), knn 10 (by omega) (by omega), knn 11 (by omega) (by omega), knn 12 (by omega) (by omega), knn 13 (by omega) (by omega), knn 14 (by omega) (by omega), knn 15 (by omega) (by omega), knn 16 (by omega) (by omega), knn 17 (by omega) (by omega), knn 18 (by omega) (by omega), knn 19 (by omega) (by omega), knn 20 (by omega) (by omega), knn 21 (by omega) (by omega), cS_same (K := I) (K' := cndU I t r u e) _ (fun p hp => by rw [knn 16 (by omega) (by omega)])]
    exact c
  · obtain ⟨d1, d2, d3, d4, d5, d6⟩ := d
    refine ⟨by rw [k22 4 (by decide)]; exact d1, by rw [k22 4 (by decide)]; exact d2, by omega, by omega, fun x hx => ?_, fun x hx => ?_⟩
    · rw [k22 4 (by decide)] at hx
      have := d5 x hx
      unfold WAct at this ⊢
      rw [knn 1 (by omega) (by omega), knn 23 (by omega) (by omega), knn 24 (by omega) (by omega), knn 25 (by omega) (by omega), knn 26 (by omega) (by omega)]
      exact this
    · rw [k4] at hx
      unfold WCnd
      rw [knn 1 (by omega) (by omega), k23, k24, k25, k26]
      by_cases y : x = (I 22 9).toNat
      · subst y
        simp only [ma_self]
        exact ⟨ht.1, ht.2.1, ht.2.2.1, ht.2.2.2, hu, he.1, he.2⟩
      · simp only [ma_ne _ _ y]
        exact d6 x (by omega)
  · unfold WTk at f ⊢
    rw [knn 0 (by omega) (by omega)]
    exact f
  · unfold WRe at g ⊢
    rw [knn 44 (by omega) (by omega), knn 1 (by omega) (by omega), knn 10 (by omega) (by omega)]
    exact g
  · unfold WRo at k ⊢
    rw [knn 48 (by omega) (by omega)]
    exact k
  · unfold ringF at q ⊢
    have ee := EJ_congr (I := I) (I' := cndU I t r u e) (J := J) (J' := J) (fun i hi => knn i (by omega) (by omega)) rfl rfl
    rw [ee.1, ee.2]
    exact q
theorem b_when (h : INV n I J) (hn : n ≤ 900) (hu : inR u) (he : 0 ≤ e ∧ e ≤ 1) : CT 75 [aR 0, aI t, aI r, aI u, aI e] (MM N I J) (QBoth N n 146 [aR 52, aI t, aI r, aI u, aI e]) := by
  obtain ⟨-, -, d1, d2, -⟩ := h.1.2.2.2.1
  have h40 := h.1.1.2.1
  refine bothU h hn (rokX [t, r, u, e]) (rokM [t, r, u, e]) (c_X9_when (h.rf hn) d1 hu he) (fun I1 J1 a b c => m_X10_when b (by rw [a.2.2.2.2.1.2.1]; exact ⟨d1, d2⟩) hu (by rw [a.1.1]; exact h40) he) (fun I1 hA => ?_) ?_
  · have e29 := hA.2.2.2.2.1.2.1
    unfold whenMA whenA whenMU whenU
    rw [hA.1.1]
    by_cases c : (0 ≤ t ∧ t < I 1 1 ∧ 0 ≤ r ∧ r < 8) ∧ isUsr (I 1 1) u
    · simp only [if_pos c]
      by_cases f : I 22 9 < 10
      · simp only [if_pos f, if_neg (show ¬ I1 52 30 = 10 by omega)]
        exact ⟨by omega, PS.cnd hA d1⟩
      · simp only [if_neg f, if_pos (show I1 52 30 = 10 by omega)]
        exact ⟨trivial, PS.no hA (by decide)⟩
    · simp only [if_neg c]
      exact ⟨trivial, PS.no hA (by decide)⟩
  · unfold whenU
    split
    · rename_i c
      split
      · rename_i f
        exact FitU.cnd h c.1 c.2 he f
      · exact FitU.rf h _
    · exact FitU.rf h _
end PLAIN4
