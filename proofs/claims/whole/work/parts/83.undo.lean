/-! ===== one call of both: undo ===== -/
theorem WX.act {I : MI} {J : MJ} {t r u e : Int} (h : WX I J) (ht : 0 ≤ t ∧ t < I 1 1 ∧ 0 ≤ r ∧ r < 8) (hu : isUsr (I 1 1) u) (he : -1 ≤ e ∧ e ≤ 1000000) (h20 : I 22 4 < 20) : WX (actU I t r u e) J := by
  obtain ⟨kn, k22, k4, k23, k24, k25, k26⟩ := actU_f I t r u e
  have knn : ∀ i, (i < 22 ∨ 26 < i) → actU I t r u e i = I i := fun i hi => kn i (by omega) (by omega) (by omega) (by omega) (by omega)
  obtain ⟨a, b, c, d, f, g, k, s, q⟩ := h
  refine ⟨WTh_congr a (knn 1 (by omega)) (knn 2 (by omega)), WRu_congr b (knn 4 (by omega)) (knn 5 (by omega)) (knn 6 (by omega)) (knn 7 (by omega)), ?_, ?_, ?_, ?_, ?_, svOK_congr s (knn 4 (by omega)) (knn 5 (by omega)) (knn 6 (by omega)) rfl rfl, ?_⟩
  · unfold WLe WPr at c ⊢
    rw [knn 1 (by omega), knn 10 (by omega), knn 11 (by omega), knn 12 (by omega), knn 13 (by omega), knn 14 (by omega), knn 15 (by omega), knn 16 (by omega), knn 17 (by omega), knn 18 (by omega), knn 19 (by omega), knn 20 (by omega), knn 21 (by omega), cS_same (K := I) (K' := actU I t r u e) _ (fun p hp => by rw [knn 16 (by omega)])]
    exact c
  · obtain ⟨d1, d2, d3, d4, d5, d6⟩ := d
    refine ⟨by omega, by omega, by rw [k22 9 (by decide)]; exact d3, by rw [k22 9 (by decide)]; exact d4, fun x hx => ?_, fun x hx => ?_⟩
    · rw [k4] at hx
      unfold WAct
      rw [knn 1 (by omega), k23, k24, k25, k26]
      by_cases y : x = (I 22 4).toNat
      · subst y
        simp only [ma_self]
        exact ⟨ht.1, ht.2.1, ht.2.2.1, ht.2.2.2, hu, he.1, he.2⟩
      · simp only [ma_ne _ _ y]
        exact d5 x (by omega)
    · rw [k22 9 (by decide)] at hx
      have := d6 x hx
      unfold WCnd at this ⊢
      rw [knn 1 (by omega), knn 27 (by omega), knn 28 (by omega), knn 29 (by omega), knn 30 (by omega)]
      exact this
  · unfold WTk at f ⊢
    rw [knn 0 (by omega)]
    exact f
  · unfold WRe at g ⊢
    rw [knn 44 (by omega), knn 1 (by omega), knn 10 (by omega)]
    exact g
  · unfold WRo at k ⊢
    rw [knn 48 (by omega)]
    exact k
  · unfold ringF at q ⊢
    have ee := EJ_congr (I := I) (I' := actU I t r u e) (J := J) (J' := J) (fun i hi => knn i (by omega)) rfl rfl
    rw [ee.1, ee.2]
    exact q
theorem WX.revs {I : MI} {J : MJ} (h : WX I J) {hi : Nat} (hh : (hi : Int) ≤ I 10 11) : ∀ n, n ≤ hi → n ≤ 20 → WX (rev I hi n) J := by
  obtain ⟨c1, c2, c3, c4, c5, c6, c7, c8, c9, c10⟩ := h.2.2.1
  intro n
  induction n with
  | zero => intro _ _; exact h.clr
  | succ n ih =>
    intro hn h20
    have i := ih (by omega) (by omega)
    have e1 : rev I hi n 1 = I 1 := rev_ag I hi (by omega) n
    have e4 := (rev_n I hi n).1
    have hc := c7 (hi - 1 - n) (by omega)
    obtain ⟨⟨w1, w2, w3, w4, w5, w6, w7, w8, w9, w10⟩, -⟩ := c6 (I 20 (hi - 1 - n) / 2).toNat (by omega)
    show WX (actU (rev I hi n) _ _ _ _) J
    refine i.act ?_ ?_ ?_ (by omega)
    · rw [e1]; exact ⟨w1, w2, w3, w4⟩
    · rw [e1]; exact w5
    · split <;> omega
theorem RA.revs {I I1 : MI} {J : MJ} (h : WX I J) (hA : RA I I1) {hi : Nat} (hh : (hi : Int) ≤ I 10 11) : ∀ n, n ≤ hi → RA (rev I hi n) (mrev I1 hi n) := by
  obtain ⟨c1, c2, c3, c4, c5, c6, c7, c8, c9, c10⟩ := h.2.2.1
  intro n
  induction n with
  | zero =>
    intro _
    have e0 : ∀ i, i ≠ 52 → ma I1 52 (ma (ma (I1 52) 29 0) 30 0) i = I1 i := fun i a => ma_ne _ _ a
    have f : ∀ k, k ≠ 29 → k ≠ 30 → ma I1 52 (ma (ma (I1 52) 29 0) 30 0) 52 k = I1 52 k := fun k a b => by rw [ma_self, ma_ne _ _ b, ma_ne _ _ a]
    show RA (clrU I) (ma I1 52 (ma (ma (I1 52) 29 0) 30 0))
    exact hA.clr e0 (by rw [ma_self, ma_ne _ _ (by decide), ma_self]) (by rw [ma_self, ma_self]) (fun k a b _ => f k a b)
  | succ n ih =>
    intro hn
    have i := ih (by omega)
    have e4 := (rev_n I hi n).1
    have hc := c7 (hi - 1 - n) (by omega)
    obtain ⟨l1, l2, l3⟩ := hA.2.2.2.1.2.2.1 (hi - 1 - n) (by omega)
    obtain ⟨⟨w1, w2, w3, w4, w5, w6, w7, w8, w9, w10⟩, -⟩ := c6 (I 20 (hi - 1 - n) / 2).toNat (by omega)
    obtain ⟨r1, r2, r3, r4, r5, r6⟩ := hA.2.2.1.2 (I 20 (hi - 1 - n) / 2).toNat (by omega)
    have eq : (I1 66 (hi - 1 - n)).toNat = (I 20 (hi - 1 - n) / 2).toNat := by omega
    show RA (actU (rev I hi n) _ _ _ _) (actMU (mrev I1 hi n) _ _ _ _ _)
    rw [eq, r1, r2, r3, r4]
    refine (PS.act i (by omega) ?_ ?_).1
    · by_cases c : I 20 (hi - 1 - n) % 2 = 1
      · rw [if_pos c, if_neg (by omega)]; omega
      · rw [if_neg c, if_pos rfl]; omega
    · intro ne
      by_cases c : I 20 (hi - 1 - n) % 2 = 1
      · rw [if_pos c, if_neg (by omega)]
      · rw [if_neg c] at ne
        exact absurd rfl ne
section UNDO
variable {N n : Nat} {I : MI} {J : MJ} {t : Int}
theorem b_undo (h : INV n I J) (hn : n ≤ 900) (ht : inR t) : CT 79 [aR 0, aI t] (MM N I J) (QBoth N n 155 [aR 52, aI t]) := by
  have hX := h.1
  obtain ⟨c1, c2, c3, c4, c5, c6, c7, c8, c9, c10⟩ := id hX.2.2.1
  have hcs := cS_in I (I 10 9).toNat
  have h11 : 0 ≤ I 10 11 ∧ I 10 11 ≤ 800 := by omega
  have hup : ∀ t : Int, 1 ≤ t → t ≤ I 10 13 → 0 ≤ I 21 (t - 1).toNat ∧ I 21 (t - 1).toNat ≤ I 21 t.toNat ∧ I 21 t.toNat ≤ I 21 (t - 1).toNat + 20 ∧ I 21 t.toNat ≤ I 10 11 := fun t a b => by
    have q := c10 (t - 1).toNat (by omega)
    rw [show (t - 1).toNat + 1 = t.toNat by omega] at q
    exact ⟨up_nn hX.2.2.1 _ (by omega), q.1, q.2, up_le hX.2.2.1 (by omega)⟩
  have hch : ∀ c : Nat, (c : Int) < I 10 11 → 0 ≤ I 20 c ∧ I 20 c / 2 < 400 := fun c hc => by
    have := c7 c hc
    omega
  obtain ⟨lo, hi, p1, p2, p3, p4, p5⟩ : ∃ lo hi : Nat, lo ≤ hi ∧ (hi : Int) ≤ I 10 11 ∧ hi ≤ lo + 20 ∧ (1 ≤ t ∧ t ≤ I 10 13 → (lo : Int) = I 21 (t - 1).toNat ∧ (hi : Int) = I 21 t.toNat) ∧ ∀ I1, RA I I1 → 1 ≤ t → t ≤ I 10 13 → ∀ c : Nat, (c : Int) < I 10 11 → (I1 65 c = t ↔ lo ≤ c ∧ c < hi) := by
    by_cases a : 1 ≤ t ∧ t ≤ I 10 13
    · obtain ⟨u1, u2, u3, u4⟩ := hup t a.1 a.2
      refine ⟨(I 21 (t - 1).toNat).toNat, (I 21 t.toNat).toNat, by omega, by omega, by omega, fun _ => ⟨by omega, by omega⟩, fun I1 hA _ _ c hc => ?_⟩
      have q1 := hA.2.2.2.1.2.2.2 c t.toNat hc (by omega)
      have q2 := hA.2.2.2.1.2.2.2 c (t - 1).toNat hc (by omega)
      rw [show ((t.toNat : Nat) : Int) = t by omega] at q1
      rw [show (((t - 1).toNat : Nat) : Int) = t - 1 by omega] at q2
      omega
    · exact ⟨0, 0, by omega, by omega, by omega, fun w => absurd w a, fun I1 hA w1 w2 => absurd ⟨w1, w2⟩ a⟩
  refine bothU h hn (rokX [t]) (rokM [t]) (c_X9_undo (h.rf hn) c4 hup h11.2 hch) (fun I1 J1 a b c => m_X10_undo (nA := (I 10 11).toNat) (lo := lo) (hi := hi) b ht (by rw [a.2.2.2.1.2.1]; exact ⟨c3, c4⟩) (by rw [a.2.2.2.1.1]; omega) (by omega) p1 (by omega) p3 (fun w1 w2 c hc => p5 I1 a w1 (by rw [a.2.2.2.1.2.1] at w2; exact w2) c (by omega)) (fun c hc => by
    obtain ⟨l1, l2, l3⟩ := a.2.2.2.1.2.2.1 c (by omega)
    have := c7 c (by omega)
    omega)) (aM := fun I1 => if 1 ≤ t ∧ t ≤ I1 52 18 then (hi : Int) - lo else -3) (UM := fun I1 => if 1 ≤ t ∧ t ≤ I1 52 18 then mrev I1 hi (hi - lo) else noU I1 (-3)) (fun I1 hA => ?_) ?_
  · have e18 := hA.2.2.2.1.2.1
    unfold undoA undoU
    simp only [e18]
    by_cases a : 1 ≤ t ∧ t ≤ I 10 13
    · obtain ⟨e1, e2⟩ := p4 a
      simp only [if_pos a]
      rw [show (I 21 t.toNat).toNat = hi by omega, show (I 21 (t - 1).toNat).toNat = lo by omega]
      refine ⟨by omega, RA.revs hX hA p2 (hi - lo) (by omega), ?_⟩
      obtain ⟨m1, m2, m3⟩ := mrev_n I1 hi (hi - lo)
      have mg : ∀ i, i ≠ 52 ∧ (i < 68 ∨ 73 < i) → mrev I1 hi (hi - lo) i = I1 i := fun i b => mrev_ag I1 hi b (hi - lo)
      refine ⟨Or.inr ⟨m3 40 (by decide) (by decide), fun i b => rev_ag I hi (by unfold rdC at b; omega) _, by rw [rev_ag I hi (by omega) _]⟩, m3 37 (by decide) (by decide), m3 41 (by decide) (by decide), m3 42 (by decide) (by decide), m3 43 (by decide) (by decide), mg 87 (by omega), mg 88 (by omega)⟩
    · simp only [if_neg a]
      exact ⟨trivial, PS.no hA (by decide)⟩
  · unfold undoU
    split
    · rename_i a
      obtain ⟨u1, u2, u3, u4⟩ := hup t a.1 a.2
      exact ⟨hX.revs (by omega) _ (by omega) (by omega), fun i b => rev_ag I _ (by omega) _, h.c0 (rev_ag I _ (by omega) _)⟩
    · exact FitU.rf h _
end UNDO
