/-! ===== one call of both: thing, the call ===== -/
section THING2
variable {N n : Nat} {I : MI} {J : MJ} {k : Int}
theorem PS.thing {I1 : MI} (hA : RA I I1) (h0 : 0 ≤ I 1 1) : PS I (thU I k) I1 (vnU (ma (ma I1 53 (ma (I1 53) (I1 52 1).toNat k)) 52 (ma (I1 52) 1 (I1 52 1 + 1)))) := by
  obtain ⟨M, hM⟩ : ∃ M, M = vnU (ma (ma I1 53 (ma (I1 53) (I1 52 1).toNat k)) 52 (ma (I1 52) 1 (I1 52 1 + 1))) := ⟨_, rfl⟩
  rw [← hM]
  have im : ∀ i, i ≠ 52 → i ≠ 53 → M i = I1 i := fun i a b => by rw [hM]; unfold vnU; rw [ma_ne _ _ a, ma_ne _ _ a, ma_ne _ _ b]
  have f : ∀ j, j ≠ 1 → j ≠ 40 → M 52 j = I1 52 j := fun j a b => by rw [hM]; unfold vnU; rw [ma_self, ma_ne _ _ b, ma_self, ma_ne _ _ a]
  have f1 : M 52 1 = I1 52 1 + 1 := by rw [hM]; unfold vnU; rw [ma_self, ma_ne _ _ (by decide), ma_self, ma_self]
  have f40 : M 52 40 = I1 52 40 + 1 := by rw [hM]; unfold vnU; rw [ma_self, ma_self, ma_self, ma_ne _ _ (by decide)]
  have i53 : M 53 = ma (I1 53) (I1 52 1).toNat k := by rw [hM]; unfold vnU; rw [ma_ne _ _ (by decide), ma_ne _ _ (by decide), ma_self]
  have nn : ∀ i, i ≠ 1 → i ≠ 2 → thU I k i = I i := fun i a b => by unfold thU; rw [ma_ne _ _ a, ma_ne _ _ b]
  have k1 : thU I k 1 1 = I 1 1 + 1 := by unfold thU; rw [ma_self, ma_self]
  have k2 : thU I k 2 = ma (I 2) (I 1 1).toNat k := by unfold thU; rw [ma_ne _ _ (by decide), ma_self]
  refine ⟨?_, Or.inl f40, f 37 (by decide) (by decide), f 41 (by decide) (by decide), f 42 (by decide) (by decide), f 43 (by decide) (by decide), im 87 (by decide) (by decide), im 88 (by decide) (by decide)⟩
  obtain ⟨h1, h2, h3, h4, h5, h6, h7, h8⟩ := hA
  refine ⟨⟨by rw [f1, k1, h1.1], fun i hi => ?_⟩, ?_, ?_, ?_, ?_, ?_, ?_, ?_⟩
  · rw [k1] at hi
    rw [i53, k2, h1.1]
    by_cases c : i = (I 1 1).toNat
    · rw [c, ma_self, ma_self]
    · rw [ma_ne _ _ c, ma_ne _ _ c]
      exact h1.2 i (by omega)
  · unfold RRu; rw [nn 4 (by decide) (by decide), nn 5 (by decide) (by decide), nn 6 (by decide) (by decide), nn 7 (by decide) (by decide), im 54 (by decide) (by decide), im 55 (by decide) (by decide), im 56 (by decide) (by decide), im 57 (by decide) (by decide), im 58 (by decide) (by decide)]; exact h2
  · unfold RPr; rw [nn 10 (by decide) (by decide), nn 11 (by decide) (by decide), nn 12 (by decide) (by decide), nn 13 (by decide) (by decide), nn 14 (by decide) (by decide), nn 15 (by decide) (by decide), nn 16 (by decide) (by decide), f 13 (by decide) (by decide), im 59 (by decide) (by decide), im 60 (by decide) (by decide), im 61 (by decide) (by decide), im 62 (by decide) (by decide), im 63 (by decide) (by decide), im 64 (by decide) (by decide)]; exact h3
  · unfold RLg; rw [nn 10 (by decide) (by decide), nn 20 (by decide) (by decide), nn 21 (by decide) (by decide), f 17 (by decide) (by decide), f 18 (by decide) (by decide), im 65 (by decide) (by decide), im 66 (by decide) (by decide), im 67 (by decide) (by decide)]; exact h4
  · unfold RDr; rw [nn 22 (by decide) (by decide), nn 23 (by decide) (by decide), nn 24 (by decide) (by decide), nn 25 (by decide) (by decide), nn 26 (by decide) (by decide), nn 27 (by decide) (by decide), nn 28 (by decide) (by decide), nn 29 (by decide) (by decide), nn 30 (by decide) (by decide), f 29 (by decide) (by decide), f 30 (by decide) (by decide), im 68 (by decide) (by decide), im 69 (by decide) (by decide), im 70 (by decide) (by decide), im 71 (by decide) (by decide), im 72 (by decide) (by decide), im 73 (by decide) (by decide), im 74 (by decide) (by decide), im 75 (by decide) (by decide), im 76 (by decide) (by decide)]; exact h5
  · unfold RSc; rw [nn 0 (by decide) (by decide), nn 51 (by decide) (by decide), f 19 (by decide) (by decide), f 31 (by decide) (by decide), im 77 (by decide) (by decide)]; exact h6
  · unfold RRe; rw [nn 44 (by decide) (by decide), nn 45 (by decide) (by decide), f 56 (by decide) (by decide), f 57 (by decide) (by decide), f 58 (by decide) (by decide), f 59 (by decide) (by decide), f 60 (by decide) (by decide), f 61 (by decide) (by decide), im 93 (by decide) (by decide)]; exact h7
  · unfold RRo; rw [nn 48 (by decide) (by decide), nn 49 (by decide) (by decide), f 64 (by decide) (by decide), im 94 (by decide) (by decide)]; exact h8
theorem b_thing (h : INV n I J) (hn : n ≤ 900) (hk : inR k) : CT 65 [aR 0, aI k] (MM N I J) (QBoth N n 133 [aR 52, aI k]) := by
  have h0 := h.1.1.1
  have h40 := h.1.1.2.1
  refine bothU h hn (rokX [k]) (rokM [k]) (c_X9_thing (h.rf hn) h0) (fun I1 J1 a b c => m_X10_thing b (by rw [a.1.1]; exact ⟨h0, h40⟩) (h.w52 c) hk) (fun I1 hA => ?_) ?_
  · have e1 := hA.1.1
    unfold thingMA thingA thingMU thingU
    by_cases c : 0 ≤ k ∧ k < 6
    · simp only [if_pos c, if_pos (show 0 ≤ k ∧ k ≤ 5 by omega)]
      by_cases d : I 1 1 < 40
      · simp only [if_pos d, if_neg (show ¬ I1 52 1 = 40 by omega)]
        exact ⟨e1, PS.thing hA h0⟩
      · simp only [if_neg d, if_pos (show I1 52 1 = 40 by omega)]
        exact ⟨trivial, PS.no hA (by decide)⟩
    · simp only [if_neg c, if_neg (show ¬ (0 ≤ k ∧ k ≤ 5) by omega)]
      exact ⟨trivial, PS.no hA (by decide)⟩
  · unfold thingU
    split
    · rename_i c
      split
      · rename_i d
        exact FitU.thing h c d
      · exact FitU.rf h _
    · exact FitU.rf h _
end THING2
