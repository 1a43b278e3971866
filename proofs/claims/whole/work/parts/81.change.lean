/-! ===== one call of both: change ===== -/
theorem up_nn {K : MI} (h : WLe K) : ∀ t : Nat, (t : Int) ≤ K 10 13 → 0 ≤ K 21 t
  | 0, _ => by
    have := h.2.2.2.2.2.2.2.1
    omega
  | t + 1, ht => by
    have i := up_nn h t (by omega)
    have := (h.2.2.2.2.2.2.2.2.2 t (by omega)).1
    omega
section CHG
variable {N n : Nat} {I : MI} {J : MJ} {t i : Int}
theorem b_change (h : INV n I J) (hn : n ≤ 900) (hi : inR i) : CT 84 [aR 0, aI t, aI i] (MM N I J) (QBoth N n 160 [aR 52, aI t, aI i]) := by
  have hL := h.1.2.2.1
  obtain ⟨c1, c2, c3, c4, c5, c6, c7, c8, c9, c10⟩ := id hL
  have hcs := cS_in I (I 10 9).toNat
  have h11 : 0 ≤ I 10 11 ∧ I 10 11 ≤ 800 := by omega
  have hup : ∀ t : Nat, (t : Int) ≤ I 10 13 → 0 ≤ I 21 t ∧ I 21 t ≤ I 10 11 := fun t ht => ⟨up_nn hL t ht, up_le hL ht⟩
  obtain ⟨f, hf1, hf2, hf3⟩ : ∃ f : Nat, (f : Int) ≤ I 10 11 ∧ (0 ≤ t ∧ t ≤ I 10 13 → (f : Int) = I 21 t.toNat) ∧ ∀ I1, RA I I1 → ∀ c : Nat, (c : Int) < I 10 11 → (I1 65 c ≤ t ↔ c < f) := by
    by_cases a : 0 ≤ t
    · by_cases b : t ≤ I 10 13
      · have u := hup t.toNat (by omega)
        refine ⟨(I 21 t.toNat).toNat, by omega, fun _ => by omega, fun I1 hA c hc => ?_⟩
        have q := hA.2.2.2.1.2.2.2 c t.toNat hc (by omega)
        rw [show ((t.toNat : Nat) : Int) = t by omega] at q
        rw [← q]
        omega
      · refine ⟨(I 10 11).toNat, by omega, fun w => absurd w.2 b, fun I1 hA c hc => ?_⟩
        have q := hA.2.2.2.1.2.2.2 c (I 10 13).toNat hc (by omega)
        rw [c9] at q
        have := q.mp hc
        exact ⟨fun _ => by omega, fun _ => by omega⟩
    · refine ⟨0, by omega, fun w => absurd w.1 a, fun I1 hA c hc => ?_⟩
      have q := hA.2.2.2.1.2.2.2 c 0 hc (by omega)
      rw [c8] at q
      exact ⟨fun w => by have := q.mpr (by omega); omega, fun w => by omega⟩
  have hcc : ∀ I1, RA I I1 → ∀ c : Nat, (c : Int) < I 10 11 → 0 ≤ I1 66 c ∧ I1 66 c ≤ 400 ∧ 0 ≤ I1 67 c ∧ I1 67 c ≤ 1 := fun I1 hA c hc => by
    obtain ⟨a, b, d⟩ := hA.2.2.2.1.2.2.1 c hc
    have := c7 c hc
    omega
  refine bothU h hn (rokX [t, i]) (rokM [t, i]) (c_X9_change (h.rf hn) c4 h11 hup) (fun I1 J1 a b c => m_X10_change (n := (I 10 11).toNat) (f := f) b (by rw [a.2.2.2.1.1]; omega) (by omega) (by omega) hi (fun c hc => hf3 I1 a c (by omega)) (fun c hc => hcc I1 a c (by omega))) (aM := fun I1 => if 0 ≤ t ∧ t ≤ I1 52 18 then (if i < 0 then -4 else if i < ((I 10 11).toNat : Int) - f then 2 * I1 66 (f + i.toNat) + I1 67 (f + i.toNat) else -1) else -3) (UM := fun I1 => if 0 ≤ t ∧ t ≤ I1 52 18 then (if i < 0 then noU I1 (-4) else I1) else noU I1 (-3)) (fun I1 hA => ?_) ?_
  · have e18 := hA.2.2.2.1.2.1
    unfold changeA changeU
    simp only [e18]
    by_cases c : 0 ≤ t ∧ t ≤ I 10 13
    · have ef := hf2 c
      simp only [if_pos c]
      by_cases d : i < 0
      · simp only [if_pos d]
        exact ⟨trivial, PS.no hA (by decide)⟩
      · simp only [if_neg d]
        refine ⟨?_, PS.same hA⟩
        by_cases e : i < I 10 11 - I 21 t.toNat
        · rw [if_pos e, if_pos (by omega)]
          have q := (hA.2.2.2.1.2.2.1 (f + i.toNat) (by omega)).2.2
          rw [show (I 21 t.toNat + i).toNat = f + i.toNat by omega, q]
        · rw [if_neg e, if_neg (by omega)]
    · simp only [if_neg c]
      exact ⟨trivial, PS.no hA (by decide)⟩
  · unfold changeU
    split
    · split
      · exact FitU.rf h _
      · exact FitU.same h
    · exact FitU.rf h _
end CHG
