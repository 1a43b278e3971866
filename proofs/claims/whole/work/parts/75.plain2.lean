/-! ===== one call of both: the plain ones that write ===== -/
section PLAIN2
variable {N n : Nat} {I : MI} {J : MJ} {p w i z t r u e m : Int}
theorem INV.w52 {n : Nat} {I I1 : MI} {J : MJ} (_ : INV n I J) (hV : Vok I1) : 0 ≤ I1 52 40 ∧ I1 52 40 ≤ 2000 := by
  obtain ⟨a, b, -⟩ := hV
  omega
theorem b_tick (h : INV n I J) (hn : n ≤ 900) (hm : inR m) : CT 80 [aR 0, aI m] (MM N I J) (QBoth N n 156 [aR 52, aI m]) := by
  have hX := h.1
  have hk := hX.2.2.2.2.1
  refine bothU h hn (rokX [m]) (rokM [m]) (c_X9_tick (h.rf hn) hk hm) (fun I1 J1 a b c => m_X10_tick b (by rw [a.2.2.2.2.2.1.1]; exact hk) hm (h.w52 c)) (fun I1 hA => ?_) ?_
  · have e19 := hA.2.2.2.2.2.1.1
    unfold tickMA tickA tickMU tickU
    by_cases c : m < 0
    · simp only [if_pos c]
      exact ⟨trivial, PS.no hA (by decide)⟩
    · simp only [if_neg c, e19]
      by_cases d : 1000000 - I 0 11 < m
      · simp only [if_pos d]
        exact ⟨trivial, PS.no hA (by decide)⟩
      · simp only [if_neg d]
        refine ⟨trivial, ?_, Or.inl ?_, ?_, ?_, ?_, ?_, ?_, ?_⟩
        · obtain ⟨h1, h2, h3, h4, h5, h6, h7, h8⟩ := hA
          have kn : ∀ i, i ≠ 0 → ma I 0 (ma (I 0) 11 (I 0 11 + m)) i = I i := fun i a => ma_ne _ _ a
          have im : ∀ i, i ≠ 52 → vnU (ma I1 52 (ma (I1 52) 19 (I 0 11 + m))) i = I1 i := fun i a => by unfold vnU; rw [ma_ne _ _ a, ma_ne _ _ a]
          have f : ∀ k, k ≠ 19 → k ≠ 40 → vnU (ma I1 52 (ma (I1 52) 19 (I 0 11 + m))) 52 k = I1 52 k := fun k a b => by unfold vnU; rw [ma_self, ma_ne _ _ b, ma_self, ma_ne _ _ a]
          refine ⟨?_, ?_, ?_, ?_, ?_, ?_, ?_, ?_⟩
          · unfold RTh; rw [kn 1 (by decide), kn 2 (by decide), f 1 (by decide) (by decide), im 53 (by decide)]; exact h1
          · unfold RRu; rw [kn 4 (by decide), kn 5 (by decide), kn 6 (by decide), kn 7 (by decide), im 54 (by decide), im 55 (by decide), im 56 (by decide), im 57 (by decide), im 58 (by decide)]; exact h2
          · unfold RPr; rw [kn 10 (by decide), kn 11 (by decide), kn 12 (by decide), kn 13 (by decide), kn 14 (by decide), kn 15 (by decide), kn 16 (by decide), f 13 (by decide) (by decide), im 59 (by decide), im 60 (by decide), im 61 (by decide), im 62 (by decide), im 63 (by decide), im 64 (by decide)]; exact h3
          · unfold RLg; rw [kn 10 (by decide), kn 20 (by decide), kn 21 (by decide), f 17 (by decide) (by decide), f 18 (by decide) (by decide), im 65 (by decide), im 66 (by decide), im 67 (by decide)]; exact h4
          · unfold RDr; rw [kn 22 (by decide), kn 23 (by decide), kn 24 (by decide), kn 25 (by decide), kn 26 (by decide), kn 27 (by decide), kn 28 (by decide), kn 29 (by decide), kn 30 (by decide), f 29 (by decide) (by decide), f 30 (by decide) (by decide), im 68 (by decide), im 69 (by decide), im 70 (by decide), im 71 (by decide), im 72 (by decide), im 73 (by decide), im 74 (by decide), im 75 (by decide), im 76 (by decide)]; exact h5
          · obtain ⟨a, b, c⟩ := h6
            refine ⟨?_, ?_, ?_⟩
            · unfold vnU; rw [ma_self, ma_ne _ _ (by decide), ma_self, ma_self, ma_self, ma_self]
            · rw [f 31 (by decide) (by decide), ma_self, ma_ne _ _ (by decide)]; exact b
            · rw [im 77 (by decide), kn 51 (by decide)]; exact c
          · unfold RRe; rw [kn 44 (by decide), kn 45 (by decide), f 56 (by decide) (by decide), f 57 (by decide) (by decide), f 58 (by decide) (by decide), f 59 (by decide) (by decide), f 60 (by decide) (by decide), f 61 (by decide) (by decide), im 93 (by decide)]; exact h7
          · unfold RRo; rw [kn 48 (by decide), kn 49 (by decide), f 64 (by decide) (by decide), im 94 (by decide)]; exact h8
        all_goals (unfold vnU; first | (rw [ma_self, ma_self, ma_self, ma_ne _ _ (by decide)]) | (rw [ma_self, ma_ne _ _ (by decide), ma_self, ma_ne _ _ (by decide)]) | (rw [ma_ne _ _ (by decide), ma_ne _ _ (by decide)]))
  · unfold tickU
    split
    · exact FitU.rf h _
    · split
      · exact FitU.rf h _
      · rename_i c d
        have kn : ∀ i, i ≠ 0 → ma I 0 (ma (I 0) 11 (I 0 11 + m)) i = I i := fun i a => ma_ne _ _ a
        refine ⟨hX.cg (fun i hi => kn i (by omega)) ?_ ?_ ?_ rfl rfl, fun i hi => kn i (by omega), h.c0 (kn 51 (by decide))⟩
        · unfold WTk at hk ⊢
          rw [ma_self, ma_self]
          omega
        · unfold WRe; rw [kn 44 (by decide), kn 1 (by decide), kn 10 (by decide)]; exact hX.2.2.2.2.2.1
        · unfold WRo; rw [kn 48 (by decide)]; exact hX.2.2.2.2.2.2.1
theorem b_forget (h : INV n I J) (hn : n ≤ 900) : CT 76 [aR 0] (MM N I J) (QBoth N n 147 [aR 52]) := by
  refine bothU h hn (rokX []) (rokM []) c_X9_forget (fun I1 J1 a b c => m_X10_forget) (fun I1 hA => ⟨hA.2.2.2.2.1.1, ?_⟩) ?_
  · unfold forgetMU forgetU
    have e0 : ∀ i, i ≠ 52 → ma I1 52 (ma (ma (I1 52) 29 0) 30 0) i = I1 i := fun i a => ma_ne _ _ a
    have f : ∀ k, k ≠ 29 → k ≠ 30 → ma I1 52 (ma (ma (I1 52) 29 0) 30 0) 52 k = I1 52 k := fun k a b => by rw [ma_self, ma_ne _ _ b, ma_ne _ _ a]
    have kn : ∀ i, i ≠ 22 → clrU I i = I i := fun i a => ma_ne _ _ a
    refine ⟨hA.clr e0 (by rw [ma_self, ma_ne _ _ (by decide), ma_self]) (by rw [ma_self, ma_self]) (fun k a b _ => f k a b), Or.inr ⟨f 40 (by decide) (by decide), fun i hi => kn i (by unfold rdC at hi; omega), by rw [kn 0 (by decide)]⟩, f 37 (by decide) (by decide), f 41 (by decide) (by decide), f 42 (by decide) (by decide), f 43 (by decide) (by decide), e0 87 (by decide), e0 88 (by decide)⟩
  · unfold forgetU
    have kn : ∀ i, i ≠ 22 → clrU I i = I i := fun i a => ma_ne _ _ a
    exact ⟨h.1.clr, fun i hi => kn i (by omega), h.c0 (kn 51 (by decide))⟩
theorem b_tear (h : INV n I J) (hn : n ≤ 900) : CT 94 [aR 0] (MM N I J) (QBoth N n 193 [aR 52]) := by
  have hX := h.1
  have h41 := hX.2.2.2.2.2.2.1.1
  refine bothU h hn (rokX []) (rokM []) c_X9_tear (fun I1 J1 a b c => m_X10_tear) (fun I1 hA => ⟨?_, ?_⟩) ?_
  · have e := hA.2.2.2.2.2.2.2.1
    unfold tearMA tearA
    by_cases c : I 48 1 = -1
    · rw [if_pos c, if_neg (by omega)]
    · rw [if_neg c, if_pos (by omega)]
  · unfold tearMU tearU
    have e0 : ∀ i, i ≠ 52 → ma I1 52 (ma (I1 52) 64 (-1)) i = I1 i := fun i a => ma_ne _ _ a
    have f : ∀ k, k ≠ 64 → ma I1 52 (ma (I1 52) 64 (-1)) 52 k = I1 52 k := fun k a => by rw [ma_self, ma_ne _ _ a]
    have kn : ∀ i, i ≠ 48 → ma I 48 (ma (I 48) 1 (-1)) i = I i := fun i a => ma_ne _ _ a
    refine ⟨hA.row (fun i a _ => kn i a) (fun i a _ => e0 i a) f ⟨by rw [ma_self, ma_self, ma_self, ma_self], fun i hi => ?_⟩, Or.inr ⟨f 40 (by decide), fun i hi => kn i (by unfold rdC at hi; omega), by rw [kn 0 (by decide)]⟩, f 37 (by decide), f 41 (by decide), f 42 (by decide), f 43 (by decide), e0 87 (by decide), e0 88 (by decide)⟩
    exfalso
    rw [ma_self, ma_self] at hi
    omega
  · unfold tearU
    have kn : ∀ i, i ≠ 48 → ma I 48 (ma (I 48) 1 (-1)) i = I i := fun i a => ma_ne _ _ a
    refine ⟨hX.cg (fun i hi => kn i (by omega)) ?_ ?_ ?_ rfl rfl, fun i hi => kn i (by omega), h.c0 (kn 51 (by decide))⟩
    · unfold WTk; rw [kn 0 (by decide)]; exact hX.2.2.2.2.1
    · unfold WRe; rw [kn 44 (by decide), kn 1 (by decide), kn 10 (by decide)]; exact hX.2.2.2.2.2.1
    · unfold WRo; rw [ma_self, ma_self]; omega
theorem b_inForce (h : INV n I J) (hn : n ≤ 900) : CT 82 [aR 0, aI t] (MM N I J) (QBoth N n 158 [aR 52, aI t]) := by
  have h0 := h.1.2.2.1.1
  have h4 := h.1.2.2.1.2.1
  refine bothU h hn (rokX [t]) (rokM [t]) (c_X9_inForce (h.rf hn) ⟨h0, h4⟩) (fun I1 J1 a b c => m_X10_inForce b (by rw [a.2.2.1.1]; exact ⟨h0, h4⟩)) (fun I1 hA => ?_) ?_
  · have e18 := hA.2.2.2.1.2.1
    have e13 := hA.2.2.1.1
    unfold inForceMA inForceA inForceMU inForceU
    rw [e18, e13]
    by_cases c : 0 ≤ t ∧ t ≤ I 10 13
    · simp only [if_pos c]
      refine ⟨cntF_congr _ fun k hk => ?_, PS.same hA⟩
      obtain ⟨r1, r2, r3, r4, r5, r6⟩ := hA.2.2.1.2 k (by omega)
      first
        | (unfold infMB; rw [r5, r6]; rfl)
        | (unfold infMB infB; rw [r5, r6])
    · simp only [if_neg c]
      exact ⟨trivial, PS.no hA (by decide)⟩
  · unfold inForceU
    split
    · exact FitU.same h
    · exact FitU.rf h _
end PLAIN2
