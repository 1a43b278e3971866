/-! ===== one call of both: asks, write, strike ===== -/
section PLAIN3
variable {N n : Nat} {I : MI} {J : MJ} {p w t r u e : Int}
theorem b_asks (h : INV n I J) (hn : n ≤ 900) (hi : inR w) : CT 70 [aR 0, aI p, aI w] (MM N I J) (QBoth N n 139 [aR 52, aI p, aI w]) := by
  refine bothU h hn (rokX [p, w]) (rokM [p, w]) (c_X9_asks (h.rf hn)) (fun I1 J1 a b c => m_X10_asks b hi) (fun I1 hA => ?_) ?_
  · unfold asksMA asksA asksMU asksU
    by_cases c : 0 ≤ p ∧ p < 64
    · obtain ⟨r1, r2, r3, r4⟩ := hA.2.1.1 p.toNat (by omega)
      obtain ⟨q1, q2, q3, q4, q5, q6⟩ := h.1.2.1.1 p.toNat (by omega)
      simp only [if_pos c, r1]
      by_cases d : I 4 p.toNat = -1
      · simp only [if_pos d]
        exact ⟨trivial, PS.no hA (by decide)⟩
      · simp only [if_neg d]
        by_cases f : I 4 p.toNat = 7
        · simp only [if_pos f]
          exact ⟨trivial, PS.no hA (by decide)⟩
        · simp only [if_neg f]
          by_cases g : w = 0
          · simp only [if_pos g]
            refine ⟨?_, PS.same hA⟩
            by_cases k : 2 ≤ I 4 p.toNat
            · rw [if_pos k]
              exact r2 k (by omega)
            · rw [if_neg k]
              exact (q6 (by omega) (by omega)).1.symm
          · simp only [if_neg g]
            by_cases g1 : w = 1
            · simp only [if_pos g1]
              refine ⟨?_, PS.same hA⟩
              by_cases k : 3 ≤ I 4 p.toNat
              · rw [if_pos k]
                exact r3 k (by omega)
              · rw [if_neg k]
                by_cases k2 : I 4 p.toNat = 2
                · exact (q4 k2).2.2.symm
                · exact (q6 (by omega) (by omega)).2.symm
            · simp only [if_neg g1]
              exact ⟨trivial, PS.no hA (by decide)⟩
    · simp only [if_neg c]
      exact ⟨trivial, PS.no hA (by decide)⟩
  · unfold asksU
    split
    · split
      · exact FitU.rf h _
      · split
        · exact FitU.rf h _
        · split
          · exact FitU.same h
          · split
            · exact FitU.same h
            · exact FitU.rf h _
    · exact FitU.rf h _
theorem actU_f (I : MI) (t r u e : Int) : (∀ i, i ≠ 22 → i ≠ 23 → i ≠ 24 → i ≠ 25 → i ≠ 26 → actU I t r u e i = I i) ∧ (∀ k, k ≠ 4 → actU I t r u e 22 k = I 22 k) ∧ actU I t r u e 22 4 = I 22 4 + 1 ∧ actU I t r u e 23 = ma (I 23) (I 22 4).toNat t ∧ actU I t r u e 24 = ma (I 24) (I 22 4).toNat r ∧ actU I t r u e 25 = ma (I 25) (I 22 4).toNat u ∧ actU I t r u e 26 = ma (I 26) (I 22 4).toNat e := by
  unfold actU
  refine ⟨fun i a b c d f => ?_, fun k a => ?_, ?_, ?_, ?_, ?_, ?_⟩
  · rw [ma_ne _ _ a, ma_ne _ _ f, ma_ne _ _ d, ma_ne _ _ c, ma_ne _ _ b]
  · rw [ma_self, ma_ne _ _ a]
  · rw [ma_self, ma_self]
  · rw [ma_ne _ _ (by decide), ma_ne _ _ (by decide), ma_ne _ _ (by decide), ma_ne _ _ (by decide), ma_self]
  · rw [ma_ne _ _ (by decide), ma_ne _ _ (by decide), ma_ne _ _ (by decide), ma_self]
  · rw [ma_ne _ _ (by decide), ma_ne _ _ (by decide), ma_self]
  · rw [ma_ne _ _ (by decide), ma_self]
theorem actMU_f (I : MI) (w t r u e : Int) : (∀ i, i ≠ 52 → i ≠ 68 → i ≠ 70 → i ≠ 71 → i ≠ 72 → i ≠ 73 → actMU I w t r u e i = I i) ∧ (∀ k, k ≠ 29 → actMU I w t r u e 52 k = I 52 k) ∧ actMU I w t r u e 52 29 = I 52 29 + 1 ∧ actMU I w t r u e 68 = ma (I 68) (I 52 29).toNat w ∧ actMU I w t r u e 70 = ma (I 70) (I 52 29).toNat t ∧ actMU I w t r u e 71 = ma (I 71) (I 52 29).toNat r ∧ actMU I w t r u e 72 = ma (I 72) (I 52 29).toNat u ∧ actMU I w t r u e 73 = ma (I 73) (I 52 29).toNat e := by
  unfold actMU
  refine ⟨fun i a b c d f g => ?_, fun k a => ?_, ?_, ?_, ?_, ?_, ?_, ?_⟩
  · rw [ma_ne _ _ a, ma_ne _ _ g, ma_ne _ _ f, ma_ne _ _ d, ma_ne _ _ c, ma_ne _ _ b]
  · rw [ma_self, ma_ne _ _ a]
  · rw [ma_self, ma_self]
  · rw [ma_ne _ _ (by decide), ma_ne _ _ (by decide), ma_ne _ _ (by decide), ma_ne _ _ (by decide), ma_ne _ _ (by decide), ma_self]
  · rw [ma_ne _ _ (by decide), ma_ne _ _ (by decide), ma_ne _ _ (by decide), ma_ne _ _ (by decide), ma_self]
  · rw [ma_ne _ _ (by decide), ma_ne _ _ (by decide), ma_ne _ _ (by decide), ma_self]
  · rw [ma_ne _ _ (by decide), ma_ne _ _ (by decide), ma_self]
  · rw [ma_ne _ _ (by decide), ma_self]
theorem PS.act {I1 : MI} {eM : Int} (hA : RA I I1) (h0 : 0 ≤ I 22 4) (hw : w = if e = -1 then 0 else 1) (he : e ≠ -1 → eM = e) : PS I (actU I t r u e) I1 (actMU I1 w t r u eM) := by
  obtain ⟨kn, k22, k4, k23, k24, k25, k26⟩ := actU_f I t r u e
  obtain ⟨im, f, f29, i68, i70, i71, i72, i73⟩ := actMU_f I1 w t r u eM
  have knn : ∀ i, (i < 22 ∨ 26 < i) → actU I t r u e i = I i := fun i hi => kn i (by omega) (by omega) (by omega) (by omega) (by omega)
  have imm : ∀ i, i ≠ 52 → (i < 68 ∨ i = 69 ∨ 73 < i) → actMU I1 w t r u eM i = I1 i := fun i a hi => im i a (by omega) (by omega) (by omega) (by omega) (by omega)
  refine ⟨?_, Or.inr ⟨f 40 (by decide), fun i hi => knn i (by unfold rdC at hi; omega), by rw [knn 0 (by omega)]⟩, f 37 (by decide), f 41 (by decide), f 42 (by decide), f 43 (by decide), imm 87 (by decide) (by omega), imm 88 (by decide) (by omega)⟩
  obtain ⟨h1, h2, h3, h4, ⟨d1, d2, d3, d4⟩, h6, h7, h8⟩ := hA
  refine ⟨?_, ?_, ?_, ?_, ⟨by rw [f29, k4, d1], by rw [f 30 (by decide), k22 9 (by decide)]; exact d2, fun a ha => ?_, fun a ha => ?_⟩, ?_, ?_, ?_⟩
  · unfold RTh; rw [knn 1 (by omega), knn 2 (by omega), f 1 (by decide), imm 53 (by decide) (by omega)]; exact h1
  · unfold RRu; rw [knn 4 (by omega), knn 5 (by omega), knn 6 (by omega), knn 7 (by omega), imm 54 (by decide) (by omega), imm 55 (by decide) (by omega), imm 56 (by decide) (by omega), imm 57 (by decide) (by omega), imm 58 (by decide) (by omega)]; exact h2
  · unfold RPr; rw [knn 10 (by omega), knn 11 (by omega), knn 12 (by omega), knn 13 (by omega), knn 14 (by omega), knn 15 (by omega), knn 16 (by omega), f 13 (by decide), imm 59 (by decide) (by omega), imm 60 (by decide) (by omega), imm 61 (by decide) (by omega), imm 62 (by decide) (by omega), imm 63 (by decide) (by omega), imm 64 (by decide) (by omega)]; exact h3
  · unfold RLg; rw [knn 10 (by omega), knn 20 (by omega), knn 21 (by omega), f 17 (by decide), f 18 (by decide), imm 65 (by decide) (by omega), imm 66 (by decide) (by omega), imm 67 (by decide) (by omega)]; exact h4
  · rw [k4] at ha
    rw [i68, i70, i71, i72, i73, k23, k24, k25, k26, d1]
    by_cases c : a = (I 22 4).toNat
    · subst c
      simp only [ma_self]
      exact ⟨hw, trivial, trivial, trivial, he⟩
    · simp only [ma_ne _ _ c]
      exact d3 a (by omega)
  · rw [k22 9 (by decide)] at ha
    rw [imm 74 (by decide) (by omega), imm 75 (by decide) (by omega), imm 76 (by decide) (by omega), imm 69 (by decide) (by omega), knn 27 (by omega), knn 28 (by omega), knn 29 (by omega), knn 30 (by omega)]
    exact d4 a ha
  · unfold RSc; rw [knn 0 (by omega), knn 51 (by omega), f 19 (by decide), f 31 (by decide), imm 77 (by decide) (by omega)]; exact h6
  · unfold RRe; rw [knn 44 (by omega), knn 45 (by omega), f 56 (by decide), f 57 (by decide), f 58 (by decide), f 59 (by decide), f 60 (by decide), f 61 (by decide), imm 93 (by decide) (by omega)]; exact h7
  · unfold RRo; rw [knn 48 (by omega), knn 49 (by omega), f 64 (by decide), imm 94 (by decide) (by omega)]; exact h8
theorem FitU.act (h : INV n I J) (ht : 0 ≤ t ∧ t < I 1 1 ∧ 0 ≤ r ∧ r < 8) (hu : isUsr (I 1 1) u) (he : -1 ≤ e ∧ e ≤ 1000000) (h20 : I 22 4 < 20) : FitU n I (actU I t r u e) J := by
  obtain ⟨kn, k22, k4, k23, k24, k25, k26⟩ := actU_f I t r u e
  have knn : ∀ i, (i < 22 ∨ 26 < i) → actU I t r u e i = I i := fun i hi => kn i (by omega) (by omega) (by omega) (by omega) (by omega)
  refine ⟨?_, fun i hi => knn i (by omega), h.c0 (knn 51 (by omega))⟩
  obtain ⟨a, b, c, d, f, g, k, s, q⟩ := h.1
  refine ⟨WTh_congr a (knn 1 (by omega)) (knn 2 (by omega)), WRu_congr b (knn 4 (by omega)) (knn 5 (by omega)) (knn 6 (by omega)) (knn 7 (by omega)), ?_, ?_, ?_, ?_, ?_, svOK_congr s (knn 4 (by omega)) (knn 5 (by omega)) (knn 6 (by omega)) rfl rfl, ?_⟩
  · unfold WLe WPr at c ⊢
    rw [knn 1 (by omega), knn 10 (by omega), knn 11 (by omega), knn 12 (by omega), knn 13 (by omega), knn 14 (by omega), knn 15 (by omega), knn 16 (by omega), knn 17 (by omega), knn 18 (by omega), knn 19 (by omega), knn 20 (by omega), knn 21 (by omega), cS_same (K := I) (K' := actU I t r u e) _ (fun p hp => by rw [knn 16 (by omega)])]
    exact c
  · obtain ⟨d1, d2, d3, d4, d5, d6⟩ := d
    refine ⟨by omega, by omega, by rw [k22 9 (by decide)]; exact d3, by rw [k22 9 (by decide)]; exact d4, fun x hx => ?_, fun x hx => ?_⟩
    · rw [k4] at hx
      unfold WAct
      rw [knn 1 (by omega), k23, k24, k25, k26]
      by_cases y : x = (I 22 4).toNat
      · subst y
        simp only [ma_self]
        exact ⟨ht.1, ht.2.1, ht.2.2.1, ht.2.2.2, hu, he.1, he.2⟩
      · simp only [ma_ne _ _ y]
        exact d5 x (by omega)
    · rw [k22 9 (by decide)] at hx
      have := d6 x hx
      unfold WCnd at this ⊢
      rw [knn 1 (by omega), knn 27 (by omega), knn 28 (by omega), knn 29 (by omega), knn 30 (by omega)]
      exact this
  · unfold WTk at f ⊢
    rw [knn 0 (by omega)]
    exact f
  · unfold WRe at g ⊢
    rw [knn 44 (by omega), knn 1 (by omega), knn 10 (by omega)]
    exact g
  · unfold WRo at k ⊢
    rw [knn 48 (by omega)]
    exact k
  · unfold ringF at q ⊢
    have ee := EJ_congr (I := I) (I' := actU I t r u e) (J := J) (J' := J) (fun i hi => knn i (by omega)) rfl rfl
    rw [ee.1, ee.2]
    exact q
theorem b_write (h : INV n I J) (hn : n ≤ 900) (hu : inR u) (hi : inR e) : CT 73 [aR 0, aI t, aI r, aI u, aI e] (MM N I J) (QBoth N n 143 [aR 52, aI t, aI r, aI u, aI e]) := by
  obtain ⟨d1, d2, -⟩ := h.1.2.2.2.1
  have h40 := h.1.1.2.1
  refine bothU h hn (rokX [t, r, u, e]) (rokM [t, r, u, e]) (c_X9_write (h.rf hn) d1 hu) (fun I1 J1 a b c => m_X10_write b (by rw [a.2.2.2.2.1.1]; exact ⟨d1, d2⟩) hu (by rw [a.1.1]; exact h40) hi) (fun I1 hA => ?_) ?_
  · have e29 := hA.2.2.2.2.1.1
    unfold writeMA writeA writeMU writeU
    rw [hA.1.1]
    by_cases c : (0 ≤ t ∧ t < I 1 1 ∧ 0 ≤ r ∧ r < 8) ∧ isUsr (I 1 1) u
    · simp only [if_pos c]
      by_cases d : 0 ≤ e ∧ e ≤ 1000000
      · simp only [if_pos d]
        by_cases f : I 22 4 < 20
        · simp only [if_pos f, if_neg (show ¬ I1 52 29 = 20 by omega)]
          exact ⟨by omega, PS.act hA d1 (by rw [if_neg (by omega)]) (fun _ => rfl)⟩
        · simp only [if_neg f, if_pos (show I1 52 29 = 20 by omega)]
          exact ⟨trivial, PS.no hA (by decide)⟩
      · simp only [if_neg d]
        exact ⟨trivial, PS.no hA (by decide)⟩
    · simp only [if_neg c]
      exact ⟨trivial, PS.no hA (by decide)⟩
  · unfold writeU
    split
    · rename_i c
      split
      · rename_i d
        split
        · rename_i f
          exact FitU.act h c.1 c.2 ⟨by omega, d.2⟩ f
        · exact FitU.rf h _
      · exact FitU.rf h _
    · exact FitU.rf h _
theorem b_strike (h : INV n I J) (hn : n ≤ 900) (hu : inR u) : CT 74 [aR 0, aI t, aI r, aI u] (MM N I J) (QBoth N n 144 [aR 52, aI t, aI r, aI u]) := by
  obtain ⟨d1, d2, -⟩ := h.1.2.2.2.1
  have h40 := h.1.1.2.1
  refine bothU h hn (rokX [t, r, u]) (rokM [t, r, u]) (c_X9_strike (h.rf hn) d1 hu) (fun I1 J1 a b c => m_X10_strike b (by rw [a.2.2.2.2.1.1]; exact ⟨d1, d2⟩) hu (by rw [a.1.1]; exact h40)) (fun I1 hA => ?_) ?_
  · have e29 := hA.2.2.2.2.1.1
    unfold strikeMA strikeA strikeMU strikeU
    rw [hA.1.1]
    by_cases c : (0 ≤ t ∧ t < I 1 1 ∧ 0 ≤ r ∧ r < 8) ∧ isUsr (I 1 1) u
    · simp only [if_pos c]
      by_cases f : I 22 4 < 20
      · simp only [if_pos f, if_neg (show ¬ I1 52 29 = 20 by omega)]
        exact ⟨by omega, PS.act hA d1 (by rw [if_pos rfl]) (fun w => absurd rfl w)⟩
      · simp only [if_neg f, if_pos (show I1 52 29 = 20 by omega)]
        exact ⟨trivial, PS.no hA (by decide)⟩
    · simp only [if_neg c]
      exact ⟨trivial, PS.no hA (by decide)⟩
  · unfold strikeU
    split
    · rename_i c
      split
      · rename_i f
        exact FitU.act h c.1 c.2 ⟨by omega, by omega⟩ f
      · exact FitU.rf h _
    · exact FitU.rf h _
end PLAIN3
