/-! ===== one call of both: the plain ones ===== -/
def PS (I U I1 I2 : MI) : Prop := RA U I2 ∧ Vn I U I1 I2
theorem PS.same {I I1 : MI} (h : RA I I1) : PS I I I1 I1 := ⟨h, Or.inr ⟨rfl, sameS.refl I⟩, rfl, rfl, rfl, rfl, rfl, rfl⟩
theorem PS.no {I I1 : MI} (h : RA I I1) {z : Int} (hz : -9 ≤ z ∧ z ≤ -2) : PS I (rfU I z) I1 (noU I1 z) := by
  have k : ∀ i, i ≠ 77 → noU I1 z i = I1 i := fun i a => ma_ne _ _ a
  exact ⟨h.rf hz, Or.inr ⟨by rw [k 52 (by decide)], sameS.rf _ _⟩, by rw [k 52 (by decide)], by rw [k 52 (by decide)], by rw [k 52 (by decide)], by rw [k 52 (by decide)], k 87 (by decide), k 88 (by decide)⟩
theorem bothU {N n : Nat} {I : MI} {J : MJ} (h : INV n I J) (hn : n ≤ 900) {yX yM : Nat} {argsX argsM : List AV} {a : Int} {U : MI} {aM : MI → Int} {UM : MI → MI} (hax : ∀ v ∈ argsX, rOk SX v) (ham : ∀ v ∈ argsM, rOk SM v)
    (hc : CT yX argsX (MM N I J) (QU N J (aI a) U))
    (hm : ∀ I1 J1, RA I I1 → RfM I1 → Vok I1 → CT yM argsM (MM N I1 J1) (QU N J1 (aI (aM I1)) (UM I1)))
    (hs : ∀ I1, RA I I1 → aM I1 = a ∧ PS I U I1 (UM I1)) (hW : FitU n I U J) : CT yX argsX (MM N I J) (QBoth N n yM argsM) :=
  both (R := fun v V => v = aI a ∧ V = U) (RM := fun v V => v = aI a ∧ V = U) h hn hax ham (hc.mono fun r M' q => by
    obtain ⟨rfl, rfl⟩ := q
    exact ⟨aI a, U, U, J, rfl, rfl, ⟨rfl, rfl⟩, ERx.refl _, hW.1.2.2.2.2.2.2.2.1⟩) (fun I1 J1 x1 x2 x3 x4 => (hm I1 J1 x1 x2 x3).mono fun r M' q => by
    obtain ⟨rfl, rfl⟩ := q
    obtain ⟨s1, s2, s3⟩ := hs I1 x1
    exact ⟨aI a, U, UM I1, J1, by rw [s1], rfl, ⟨rfl, rfl⟩, PO.vn s2 x3 s3 x4 (fun _ => rfl) rfl⟩) (fun a U a' U' x y => un2 ⟨by rw [x.1, y.1], by rw [x.2, y.2]⟩) (fun a U x => by rw [x.2]; exact hW)
section PLAIN
variable {N n : Nat} {I : MI} {J : MJ} {p w i z : Int}
theorem b_holds (h : INV n I J) (hn : n ≤ 900) : CT 69 [aR 0, aI p] (MM N I J) (QBoth N n 138 [aR 52, aI p]) := by
  refine bothU h hn (rokX [p]) (rokM [p]) (c_X9_holds (h.rf hn)) (fun I1 J1 a b c => m_X10_holds b) (fun I1 hA => ?_) ?_
  · unfold holdsMA holdsA holdsMU holdsU
    by_cases c : 0 ≤ p ∧ p < 64
    · simp only [if_pos c]
      exact ⟨(hA.2.1.1 p.toNat (by omega)).1, PS.same hA⟩
    · simp only [if_neg c]
      exact ⟨trivial, PS.no hA (by decide)⟩
  · unfold holdsU
    split
    · exact FitU.same h
    · exact FitU.rf h _
theorem b_named (h : INV n I J) (hn : n ≤ 900) : CT 71 [aR 0, aI p] (MM N I J) (QBoth N n 140 [aR 52, aI p]) := by
  refine bothU h hn (rokX [p]) (rokM [p]) (c_X9_named (h.rf hn)) (fun I1 J1 a b c => m_X10_named b) (fun I1 hA => ?_) ?_
  · unfold namedMA namedA namedMU namedU
    by_cases c : 0 ≤ p ∧ p < 64
    · obtain ⟨r1, -, -, r4⟩ := hA.2.1.1 p.toNat (by omega)
      simp only [if_pos c, r1]
      by_cases d : I 4 p.toNat = -1
      · simp only [if_pos d]
        exact ⟨trivial, PS.no hA (by decide)⟩
      · simp only [if_neg d]
        by_cases e : I 4 p.toNat = 7
        · simp only [if_pos e]
          exact ⟨r4 e, PS.same hA⟩
        · simp only [if_neg e]
          exact ⟨trivial, PS.no hA (by decide)⟩
    · simp only [if_neg c]
      exact ⟨trivial, PS.no hA (by decide)⟩
  · unfold namedU
    split
    · split
      · exact FitU.rf h _
      · split
        · exact FitU.same h
        · exact FitU.rf h _
    · exact FitU.rf h _
theorem b_failed (h : INV n I J) (hn : n ≤ 900) : CT 78 [aR 0] (MM N I J) (QBoth N n 154 [aR 52]) :=
  bothU h hn (rokX []) (rokM []) c_X9_failed (fun I1 J1 a b c => m_X10_failed) (fun I1 hA => ⟨hA.2.2.2.2.2.1.2.1, PS.same hA⟩) (FitU.same h)
theorem b_count (h : INV n I J) (hn : n ≤ 900) : CT 81 [aR 0, aI w] (MM N I J) (QBoth N n 157 [aR 52, aI w]) := by
  refine bothU h hn (rokX [w]) (rokM [w]) (c_X9_count (h.rf hn)) (fun I1 J1 a b c => m_X10_count b) (fun I1 hA => ⟨?_, ?_⟩) ?_
  · unfold countMA countA
    rw [hA.2.2.2.1.2.1, hA.2.2.2.2.2.1.1, hA.2.2.2.2.1.1, hA.2.2.2.2.1.2.1, hA.2.2.1.1, hA.1.1]
  · unfold countMU countU
    by_cases c : 0 ≤ w ∧ w ≤ 5
    · simp only [if_pos c]
      exact PS.same hA
    · simp only [if_neg c]
      exact PS.no hA (by decide)
  · unfold countU
    split
    · exact FitU.same h
    · exact FitU.rf h _
theorem b_pair (h : INV n I J) (hn : n ≤ 900) (hi : inR p) : CT 83 [aR 0, aI p, aI w] (MM N I J) (QBoth N n 159 [aR 52, aI p, aI w]) := by
  have h0 := h.1.2.2.1.1
  have h4 := h.1.2.2.1.2.1
  refine bothU h hn (rokX [p, w]) (rokM [p, w]) (c_X9_pair (h.rf hn) h4) (fun I1 J1 a b c => m_X10_pair b (by rw [a.2.2.1.1]; exact ⟨h0, h4⟩) hi) (fun I1 hA => ?_) ?_
  · have e13 := hA.2.2.1.1
    unfold pairMA pairA pairMU pairU
    by_cases c : 0 ≤ p ∧ p < I 10 9
    · have c2 : 0 ≤ p ∧ p ≤ I1 52 13 - 1 := by omega
      obtain ⟨r1, r2, r3, r4, r5, r6⟩ := hA.2.2.1.2 p.toNat (by omega)
      simp only [if_pos c, if_pos c2, r1, r2, r3, r4, r5, r6, true_and]
      by_cases d : 0 ≤ w ∧ w ≤ 5
      · simp only [if_pos d]
        exact PS.same hA
      · simp only [if_neg d]
        exact PS.no hA (by decide)
    · have c2 : ¬ (0 ≤ p ∧ p ≤ I1 52 13 - 1) := by omega
      simp only [if_neg c, if_neg c2]
      exact ⟨trivial, PS.no hA (by decide)⟩
  · unfold pairU
    split
    · split
      · exact FitU.same h
      · exact FitU.rf h _
    · exact FitU.rf h _
theorem b_reason (h : INV n I J) (hn : n ≤ 900) (hi : inR i) : CT 89 [aR 0, aI i] (MM N I J) (QBoth N n 188 [aR 52, aI i]) := by
  have h0 := h.1.2.2.2.2.2.1.1
  have h4 := h.1.2.2.2.2.2.1.2.1
  refine bothU h hn (rokX [i]) (rokM [i]) (c_X9_reason (h.rf hn) h4) (fun I1 J1 a b c => m_X10_reason b (by rw [a.2.2.2.2.2.2.1.1]; exact ⟨h0, h4⟩) hi) (fun I1 hA => ?_) ?_
  · have e := hA.2.2.2.2.2.2.1.1
    unfold reasonMA reasonA reasonMU reasonU
    by_cases c : 0 ≤ i ∧ i < I 44 5
    · have c2 : 0 ≤ i ∧ i ≤ I1 52 56 - 1 := by omega
      simp only [if_pos c, if_pos c2]
      exact ⟨hA.2.2.2.2.2.2.1.2.1 i.toNat (by omega), PS.same hA⟩
    · have c2 : ¬ (0 ≤ i ∧ i ≤ I1 52 56 - 1) := by omega
      simp only [if_neg c, if_neg c2]
      exact ⟨trivial, PS.no hA (by decide)⟩
  · unfold reasonU
    split
    · exact FitU.same h
    · exact FitU.rf h _
theorem b_row (h : INV n I J) (hn : n ≤ 900) (hi : inR i) : CT 95 [aR 0, aI i] (MM N I J) (QBoth N n 194 [aR 52, aI i]) := by
  have h4 := h.1.2.2.2.2.2.2.1
  refine bothU h hn (rokX [i]) (rokM [i]) (c_X9_row (h.rf hn) h4.2) (fun I1 J1 a b c => m_X10_row b (by rw [a.2.2.2.2.2.2.2.1]; exact h4.2) hi) (fun I1 hA => ?_) ?_
  · have e := hA.2.2.2.2.2.2.2.1
    have h41 := h4.1
    unfold rowMA rowA rowMU rowU
    by_cases d : I 48 1 = -1
    · have d2 : I1 52 64 < 0 := by omega
      simp only [if_pos d, if_pos d2]
      exact ⟨trivial, PS.no hA (by decide)⟩
    · have d2 : ¬ I1 52 64 < 0 := by omega
      simp only [if_neg d, if_neg d2]
      by_cases c : 0 ≤ i ∧ i < I 48 1
      · have c2 : 0 ≤ i ∧ i ≤ I1 52 64 - 1 := by omega
        simp only [if_pos c, if_pos c2]
        exact ⟨hA.2.2.2.2.2.2.2.2 i.toNat (by omega), PS.same hA⟩
      · have c2 : ¬ (0 ≤ i ∧ i ≤ I1 52 64 - 1) := by omega
        simp only [if_neg c, if_neg c2]
        exact ⟨trivial, PS.no hA (by decide)⟩
  · unfold rowU
    split
    · exact FitU.rf h _
    · split
      · exact FitU.same h
      · exact FitU.rf h _
theorem b_status (h : INV n I J) (hn : n ≤ 900) (hi : inR z) : CT 97 [aR 0, aI z] (MM N I J) (QBoth N n 196 [aR 52, aI z]) := by
  refine bothU h hn (rokX [z]) (rokM [z]) (c_X9_status (h.rf hn) hi) (fun I1 J1 a b c => m_X10_status b hi) (fun I1 hA => ?_) ?_
  · unfold statusMA statusA statusMU statusU
    by_cases c : -9 ≤ z ∧ z ≤ -2
    · simp only [if_pos c]
      have q := hA.2.2.2.2.2.1.2.2 (-2 - z).toNat (by omega)
      rw [show (-2 - z).toNat + 2 = (-z).toNat by omega] at q
      exact ⟨q, PS.same hA⟩
    · simp only [if_neg c]
      exact ⟨trivial, PS.no hA (by decide)⟩
  · unfold statusU
    split
    · exact FitU.same h
    · exact FitU.rf h _
end PLAIN
