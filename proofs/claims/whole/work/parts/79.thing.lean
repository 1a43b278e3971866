/-! ===== one call of both: thing ===== -/
section THING
variable {N n : Nat} {I : MI} {J : MJ} {k : Int}
def thU (I : MI) (k : Int) : MI := ma (ma I 2 (ma (I 2) (I 1 1).toNat k)) 1 (ma (I 1) 1 (I 1 1 + 1))
theorem isUsr_up {a u : Int} (h : isUsr a u) : isUsr (a + 1) u := by
  rcases h with h | h | h
  · exact Or.inl h
  · exact Or.inr (Or.inl ⟨h.1, h.2.1, by omega⟩)
  · exact Or.inr (Or.inr ⟨h.1, by omega, h.2.2⟩)
theorem FitU.thing (h : INV n I J) (hk : 0 ≤ k ∧ k < 6) (h1 : I 1 1 < 40) : FitU n I (thU I k) J := by
  have kn0 : ∀ i, i ≠ 1 → i ≠ 2 → thU I k i = I i := fun i a b => by unfold thU; rw [ma_ne _ _ a, ma_ne _ _ b]
  have k1 : thU I k 1 1 = I 1 1 + 1 := by unfold thU; rw [ma_self, ma_self]
  have k2 : thU I k 2 = ma (I 2) (I 1 1).toNat k := by unfold thU; rw [ma_ne _ _ (by decide), ma_self]
  have nn : ∀ i, 2 < i → thU I k i = I i := fun i a => kn0 i (by omega) (by omega)
  refine ⟨?_, fun i hi => nn i (by omega), h.c0 (nn 51 (by decide))⟩
  obtain ⟨⟨a1, a2, a3⟩, b, c, d, f, g, q, s, r⟩ := h.1
  obtain ⟨c1, c2, c3, c4, c5, c6, c7, c8, c9, c10⟩ := c
  have hcs : ∀ m, cS (thU I k) m = cS I m := fun m => cS_same (K := I) (K' := thU I k) m (fun p hp => by rw [nn 16 (by decide)])
  have hkn : ∀ s : Int, 0 ≤ s → s < I 1 1 * 8 → kn (thU I k) s = kn I s := fun s x y => by
    unfold kn
    rw [k2, ma_ne _ _ (by omega)]
  have hcl : ∀ x y, clB (thU I k) (I 10 9).toNat x y ↔ clB I (I 10 9).toNat x y := fun x y => by
    unfold clB
    rw [nn 17 (by decide), nn 18 (by decide)]
    refine ex_congr fun p => ?_
    refine and_congr_right fun hp => and_congr_right fun h18 => ?_
    obtain ⟨w1, w2, w3, w4, w5, w6, w7, w8, w9, w10⟩ := (c6 p (by omega)).1
    have e18 : 0 ≤ I 18 p ∧ I 18 p < I 1 1 * 8 := by
      rw [w9] at h18 ⊢
      unfold clubOf at h18 ⊢
      by_cases z : 1000 ≤ I 13 p
      · rw [if_pos z] at h18 ⊢
        rcases w5 with w | w | w <;> omega
      · rw [if_neg z] at h18
        exact absurd rfl h18
    rw [hkn (I 17 p) (by omega) (by omega), hkn (I 18 p) e18.1 e18.2]
  refine ⟨⟨by omega, by omega, fun i hi => ?_⟩, WRu_congr b (nn 4 (by decide)) (nn 5 (by decide)) (nn 6 (by decide)) (nn 7 (by decide)), ?_, ?_, ?_, ?_, ?_, svOK_congr s (nn 4 (by decide)) (nn 5 (by decide)) (nn 6 (by decide)) rfl rfl, ?_⟩
  · rw [k2]
    by_cases e : i = (I 1 1).toNat
    · rw [e, ma_self]; exact hk
    · rw [ma_ne _ _ e]; exact a3 i hi
  · unfold WLe WPr
    rw [nn 10 (by decide), nn 11 (by decide), nn 12 (by decide), nn 13 (by decide), nn 14 (by decide), nn 15 (by decide), nn 16 (by decide), nn 17 (by decide), nn 18 (by decide), nn 19 (by decide), nn 20 (by decide), nn 21 (by decide), hcs, k1]
    refine ⟨c1, c2, c3, c4, c5, fun p hp => ?_, c7, c8, c9, c10⟩
    obtain ⟨⟨w1, w2, w3, w4, w5, w6⟩, v⟩ := c6 p hp
    exact ⟨⟨w1, by omega, w3, w4, isUsr_up w5, w6⟩, v⟩
  · unfold WDr WAct WCnd
    rw [nn 22 (by decide), nn 23 (by decide), nn 24 (by decide), nn 25 (by decide), nn 26 (by decide), nn 27 (by decide), nn 28 (by decide), nn 29 (by decide), nn 30 (by decide), k1]
    obtain ⟨d1, d2, d3, d4, d5, d6⟩ := d
    refine ⟨d1, d2, d3, d4, fun x hx => ?_, fun x hx => ?_⟩
    · obtain ⟨w1, w2, w3, w4, w5, w6⟩ := d5 x hx
      exact ⟨w1, by omega, w3, w4, isUsr_up w5, w6⟩
    · obtain ⟨w1, w2, w3, w4, w5, w6⟩ := d6 x hx
      exact ⟨w1, by omega, w3, w4, isUsr_up w5, w6⟩
  · unfold WTk at f ⊢
    rw [kn0 0 (by decide) (by decide)]
    exact f
  · unfold WRe at g ⊢
    rw [nn 44 (by decide), nn 10 (by decide), k1]
    obtain ⟨g1, g2, g3⟩ := g
    refine ⟨g1, g2, ?_⟩
    rcases g3 with g3 | g3
    · exact Or.inl g3
    · exact Or.inr ⟨g3.1, by omega, g3.2.2⟩
  · unfold WRo at q ⊢
    rw [nn 48 (by decide)]
    exact q
  · unfold ringF at r ⊢
    have ee : EJ (thU I k) J = EJ I J ∧ ET (thU I k) J = ET I J := by
      unfold EJ ET askQ
      rw [nn 7 (by decide), nn 4 (by decide), nn 5 (by decide), nn 6 (by decide), nn 10 (by decide)]
      simp only [hcl]
      exact ⟨trivial, trivial⟩
    rw [ee.1, ee.2]
    exact r
end THING
