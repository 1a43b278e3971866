/-! ===== one call of both: copy ===== -/
theorem acp_cg {f g : Nat → Int} {a b m z : Nat} (h : ∀ x, x < z → f x = g x) (ha : a + m ≤ z) : ∀ x, x < z → acp f f a b m x = acp g g a b m x := by
  intro x hx
  unfold acp
  split
  · exact h _ (by omega)
  · exact h x hx
section COPY
variable {N n : Nat} {I : MI} {J : MJ} {i j m : Int}
theorem b_copy (h : INV n I J) (hn : n ≤ 900) (hi : inR i ∧ inR j ∧ inR m) : CT 96 [aR 0, aI i, aI j, aI m] (MM N I J) (QBoth N n 195 [aR 52, aI i, aI j, aI m]) := by
  have hX := h.1
  have h48 := hX.2.2.2.2.2.2.1
  have hW : FitU n I (copyU I i j m) J := by
    unfold copyU
    split
    · exact FitU.rf h _
    · split
      · exact FitU.rf h _
      · split
        · exact FitU.rf h _
        · have kn : ∀ k, k ≠ 49 → ma I 49 (acp (I 49) (I 49) i.toNat j.toNat m.toNat) k = I k := fun k a => ma_ne _ _ a
          refine ⟨hX.cg (fun k hk => kn k (by omega)) ?_ ?_ ?_ rfl rfl, fun k hk => kn k (by omega), h.c0 (kn 51 (by decide))⟩
          · unfold WTk; rw [kn 0 (by decide)]; exact hX.2.2.2.2.1
          · unfold WRe; rw [kn 44 (by decide), kn 1 (by decide), kn 10 (by decide)]; exact hX.2.2.2.2.2.1
          · unfold WRo; rw [kn 48 (by decide)]; exact h48
  refine both (R := fun v V => v = aI (copyA I i j m) ∧ V = copyU I i j m) (RM := fun v V => v = aI (copyA I i j m) ∧ V = copyU I i j m) h hn (rokX [i, j, m]) (rokM [i, j, m]) ((c_X9_copy (h.rf hn) h48 hi).mono fun r M' q => ?_) (fun I1 J1 x1 x2 x3 x4 => (m_X10_copy x2 (by rw [x1.2.2.2.2.2.2.2.1]; exact h48.2) hi.1 hi.2.1 hi.2.2).mono fun r M' q => ?_) (fun a U a' U' x y => un2 ⟨by rw [x.1, y.1], by rw [x.2, y.2]⟩) (fun a U x => by rw [x.2]; exact hW)
  · obtain ⟨rfl, rfl⟩ := q
    exact ⟨_, _, copyU I i j m, J, rfl, rfl, ⟨rfl, rfl⟩, ERx.refl _, hW.1.2.2.2.2.2.2.2.1⟩
  · obtain ⟨g, rfl, rfl⟩ := q
    have hs : copyMA I1 i j m = copyA I i j m ∧ PS I (copyU I i j m) I1 (copyMU I1 i j m g) := by
      have e := x1.2.2.2.2.2.2.2.1
      have h41 := h48.1
      unfold copyMA copyA copyMU copyU
      by_cases d : I 48 1 = -1
      · simp only [if_pos d, if_pos (show I1 52 64 < 0 by omega)]
        exact ⟨trivial, PS.no x1 (by decide)⟩
      · simp only [if_neg d, if_neg (show ¬ I1 52 64 < 0 by omega)]
        by_cases c : m < 0
        · simp only [if_pos c]
          exact ⟨trivial, PS.no x1 (by decide)⟩
        · simp only [if_neg c]
          by_cases b : i < 0 ∨ j < 0 ∨ I 48 1 - i < m ∨ I 48 1 - j < m
          · simp only [if_pos b, if_pos (show i < 0 ∨ j < 0 ∨ I1 52 64 < i + m ∨ I1 52 64 < j + m by omega)]
            exact ⟨trivial, PS.no x1 (by decide)⟩
          · simp only [if_neg b, if_neg (show ¬ (i < 0 ∨ j < 0 ∨ I1 52 64 < i + m ∨ I1 52 64 < j + m) by omega)]
            have kn : ∀ k, k ≠ 49 → ma I 49 (acp (I 49) (I 49) i.toNat j.toNat m.toNat) k = I k := fun k a => ma_ne _ _ a
            have im : ∀ k, k ≠ 94 → k ≠ 95 → ma (ma I1 95 g) 94 (acp (I1 94) (I1 94) i.toNat j.toNat m.toNat) k = I1 k := fun k a b => by rw [ma_ne _ _ a, ma_ne _ _ b]
            refine ⟨trivial, ?_, Or.inr ⟨by rw [im 52 (by decide) (by decide)], fun k hk => kn k (by unfold rdC at hk; omega), by rw [kn 0 (by decide)]⟩, by rw [im 52 (by decide) (by decide)], by rw [im 52 (by decide) (by decide)], by rw [im 52 (by decide) (by decide)], by rw [im 52 (by decide) (by decide)], im 87 (by decide) (by decide), im 88 (by decide) (by decide)⟩
            have hA2 : RA I (ma I1 95 g) := x1.keep (fun k a b => ma_ne _ _ (by omega)) (fun k _ _ _ _ _ _ _ => by rw [ma_ne _ _ (by decide)])
            refine hA2.row (fun k _ a => kn k a) (fun k _ a => by rw [ma_ne _ _ a]) (fun k _ => by rw [ma_ne _ _ (by decide)]) ⟨by rw [im 52 (by decide) (by decide), kn 48 (by decide)]; exact e, fun x hx => ?_⟩
            rw [kn 48 (by decide)] at hx
            rw [ma_self, ma_self]
            exact acp_cg (z := (I 48 1).toNat) (fun y hy => x1.2.2.2.2.2.2.2.2 y (by omega)) (by omega) x (by omega)
    obtain ⟨s1, s2, s3⟩ := hs
    exact ⟨_, copyU I i j m, copyMU I1 i j m g, J1, by rw [s1], rfl, ⟨rfl, rfl⟩, PO.vn s2 x3 s3 x4 (fun _ => rfl) rfl⟩
end COPY
