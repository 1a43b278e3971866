/-! ===== what stands between two calls ===== -/
def loI (I : MI) : MI := fun i => bif Nat.blt i 52 then I i else fun _ => 0
theorem RA_lo (K I : MI) : RA (loI K) I = RA K I := rfl
theorem loI_eq {I I' : MI} (e : ∀ i, i < 52 → I' i = I i) : loI I' = loI I := by
  funext i
  unfold loI
  by_cases h : i < 52
  · have : Nat.blt i 52 = true := Nat.ble_eq_true_of_le h
    rw [this]
    exact e i h
  · have : Nat.blt i 52 = false := by
      cases hb : Nat.blt i 52 with
      | false => rfl
      | true => exact absurd (blt_lt hb) h
    rw [this]
    rfl
theorem WX.lo {I I' : MI} {J J' : MJ} (h : WX I J) (e : ∀ i, i < 52 → I' i = I i) (ej : ∀ i, i < 52 → J' i = J i) : WX I' J' := by
  obtain ⟨a, b, c, d, f, g, k, s, r⟩ := h
  refine ⟨WTh_congr a (e 1 (by decide)) (e 2 (by decide)), WRu_congr b (e 4 (by decide)) (e 5 (by decide)) (e 6 (by decide)) (e 7 (by decide)), ?_, ?_, ?_, ?_, ?_, svOK_congr s (e 4 (by decide)) (e 5 (by decide)) (e 6 (by decide)) (ej 8 (by decide)) (ej 9 (by decide)), ?_⟩
  · unfold WLe WPr at c ⊢
    rw [e 1 (by decide), e 10 (by decide), e 11 (by decide), e 12 (by decide), e 13 (by decide), e 14 (by decide), e 15 (by decide), e 16 (by decide), e 17 (by decide), e 18 (by decide), e 19 (by decide), e 20 (by decide), e 21 (by decide), cS_same (K := I) (K' := I') _ (fun p hp => by rw [e 16 (by decide)])]
    exact c
  · unfold WDr WAct WCnd at d ⊢
    rw [e 22 (by decide), e 1 (by decide), e 23 (by decide), e 24 (by decide), e 25 (by decide), e 26 (by decide), e 27 (by decide), e 28 (by decide), e 29 (by decide), e 30 (by decide)]
    exact d
  · unfold WTk at f ⊢
    rw [e 0 (by decide)]
    exact f
  · unfold WRe at g ⊢
    rw [e 44 (by decide), e 1 (by decide), e 10 (by decide)]
    exact g
  · unfold WRo at k ⊢
    rw [e 48 (by decide)]
    exact k
  · unfold ringF at r ⊢
    have ee := EJ_congr (I := I) (I' := I') (J := J) (J' := J') (fun i hi => e i (by omega)) (ej 8 (by decide)) (ej 9 (by decide))
    rw [ee.1, ee.2]
    exact r
theorem CA.lo {K K' : MI} {L L' : MJ} {I : MI} {J : MJ} (hX : WX K L) (h : CA K L I J) (e : ∀ i, i < 52 → K' i = K i) (ej : ∀ i, i < 52 → L' i = L i) : CA K' L' I J := by
  have hX' := hX.lo e ej
  have h2 := h.same (U := K') (I' := I) (J' := J) ⟨fun i hi => e i (by unfold rdC at hi; omega), by rw [e 0 (by decide)]⟩ rfl rfl rfl rfl rfl rfl
  intro w
  obtain ⟨a, b⟩ := h2 w
  have hS := hX'.ScP
  have hsL : svOK K' L := svOK_congr hX.2.2.2.2.2.2.2.1 (e 4 (by decide)) (e 5 (by decide)) (e 6 (by decide)) rfl rfl
  exact ⟨SETS_sv hsL hX'.2.2.2.2.2.2.2.1 hS.2.1 hS.2.2.2.2.2.1 hS.1 hX'.1.2.1 a, b⟩
theorem CA.er {U K' : MI} {L L' : MJ} {I : MI} {J : MJ} (hX : WX U L) (h : CA U L I J) (e : ERx U K') (hs : svOK K' L') : CA K' L' I J := by
  intro w
  obtain ⟨a, b⟩ := h w
  have hX' : WX K' L' := WX_er hX e hs
  have hS := hX'.ScP
  have hsL : svOK K' L := svOK_er hX.2.2.2.2.2.2.2.1 e rfl rfl
  have e9 := e.1.2.2.2.2.1 9 (by decide)
  have r := e.1.2.2.2.2.2.1
  have h0 := hX.2.2.1.1
  rw [e.1.2.1 11 (by decide), e9]
  refine ⟨SETS_sv hsL hs hS.2.1 hS.2.2.2.2.2.1 hS.1 hX'.1.2.1 ((SETS_er e h0 rfl rfl).mpr a), ChR_er (by omega) (fun p hp => ?_) (fun p hp => r 17 (by decide) (by decide) p hp) b⟩
  unfold cnB
  rw [r 14 (by decide) (by decide) p hp, r 15 (by decide) (by decide) p hp, r 16 (by decide) (by decide) p hp]
def INV (n : Nat) (I : MI) (J : MJ) : Prop := WX I J ∧ RA I I ∧ CA I J I J ∧ (1 ≤ I 52 40 ∧ I 52 40 ≤ (n : Int) + 1 ∧ 0 ≤ I 52 41 ∧ I 52 41 ≤ I 52 40 ∧ I 52 43 = -1 ∧ I 52 37 = 0) ∧ ∀ k, k < 8 → 0 ≤ I 51 k ∧ I 51 k ≤ (n : Int)
theorem INV.rf {n : Nat} {I : MI} {J : MJ} (h : INV n I J) (hn : n ≤ 900) : Rf I := fun k hk => by
  have := h.2.2.2.2 k hk
  omega
theorem INV.rfm {n : Nat} {I I1 : MI} {J : MJ} (h : INV n I J) (hn : n ≤ 900) (hA : RA I I1) : RfM I1 := fun k a b => by
  have q := hA.2.2.2.2.2.1.2.2 (k - 2) (by omega)
  rw [show k - 2 + 2 = k by omega] at q
  rw [q]
  have := h.2.2.2.2 (k - 2) (by omega)
  omega
theorem INV.vok {n : Nat} {I I1 : MI} {J : MJ} (h : INV n I J) (hn : n ≤ 900) (e : I1 52 = I 52) : Vok I1 := by
  obtain ⟨-, -, -, ⟨a, b, c, d, f, g⟩, -⟩ := h
  unfold Vok
  rw [e]
  exact ⟨a, by omega, c, d, f, g⟩
/-- behind a call of the class -/
theorem INV.mid {n : Nat} {I I1 : MI} {J J1 : MJ} (h : INV n I J) (hn : n ≤ 900) (e : ∀ i, 52 ≤ i → I1 i = I i) (ej : J1 83 = J 83) : RA I I1 ∧ RfM I1 ∧ Vok I1 ∧ CA I J I1 J1 := by
  have hA : RA I I1 := h.2.1.frame e
  refine ⟨hA, h.rfm hn hA, h.vok hn (e 52 (by decide)), ?_⟩
  exact h.2.2.1.same (sameS.refl I) (by rw [e 52 (by decide)]) (by rw [e 52 (by decide)]) (by rw [e 52 (by decide)]) (e 87 (by decide)) (e 88 (by decide)) ej
/-- behind both -/
theorem INV.step {n : Nat} {I I1 I2 U : MI} {J J1 J2 L : MJ} (h : INV n I J) (e52 : I1 52 = I 52) (hU : WX U L) (e : ERx U I1) (hs : svOK I1 J1) (f1 : ∀ i, i < 52 → I2 i = I1 i) (f2 : ∀ i, i < 52 → J2 i = J1 i) (hP : PO U L I1 I2 J2) (hr : ∀ k, k < 8 → 0 ≤ U 51 k ∧ U 51 k ≤ (n : Int) + 1) : INV (n + 1) I2 J2 := by
  obtain ⟨hA, ⟨v1, v2, v3, v4, v5, v6⟩, hC⟩ := hP
  obtain ⟨-, -, -, ⟨a, b, c, d, f, g⟩, -⟩ := h
  have eI := loI_eq f1
  have hX1 : WX I1 J1 := WX_er hU e hs
  rw [e52] at v5 v6
  refine ⟨?_, ?_, ?_, ⟨by omega, by omega, v3, v4, v2, v1⟩, fun k hk => ?_⟩
  · exact hX1.lo f1 f2
  · rw [← RA_lo, eI, RA_lo]
    exact hA.er e
  · exact CA.lo hX1 (hC.er hU e hs) f1 f2
  · rw [f1 51 (by decide), e.c rfl (by omega) (by decide)]
    have := hr k hk
    omega
