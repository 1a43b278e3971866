/-! ===== both answer the same ===== -/
section UNQ
variable {K : MI} {L : MJ} {a a' : AV} {U U' : MI} {th rl pe t u p op kd x0 : Int}
theorem SETS.un (hX : WX K L) {cp : Nat → Bool} {v w : SV} (h : SETS K L cp v) (g : SETS K L cp w) : v = w := SETS.uniq hX.1.2.2 hX.1.2.1 h g
theorem MayR.un (hX : WX K L) (h : MayR K L th rl pe t a U) (g : MayR K L th rl pe t a' U') : a = a' ∧ U = U' := by
  by_cases c : cellP K th rl ∧ (0 ≤ pe ∧ pe < 40) ∧ turnP K t
  · obtain ⟨e1, v, hv, e2⟩ := h.2 c
    obtain ⟨e3, w, hw, e4⟩ := g.2 c
    rw [e1, e2, e3, e4, SETS.un hX hv hw]
    exact ⟨rfl, rfl⟩
  · rw [(h.1 c).1, (h.1 c).2, (g.1 c).1, (g.1 c).2]
    exact ⟨rfl, rfl⟩
theorem WhoR.un (hX : WX K L) (h : WhoR K L th rl t a U) (g : WhoR K L th rl t a' U') : a = a' ∧ U = U' := by
  by_cases c : cellP K th rl ∧ turnP K t
  · obtain ⟨e1, v, hv, e2⟩ := h.2 c
    obtain ⟨e3, w, hw, e4⟩ := g.2 c
    rw [e1, e2, e3, e4, SETS.un hX hv hw]
    exact ⟨rfl, rfl⟩
  · rw [(h.1 c).1, (h.1 c).2, (g.1 c).1, (g.1 c).2]
    exact ⟨rfl, rfl⟩
theorem ReachR.un (hX : WX K L) (h : ReachR K L kd rl pe x0 t a U) (g : ReachR K L kd rl pe x0 t a' U') : a = a' ∧ U = U' := by
  by_cases c : 0 ≤ kd ∧ kd < 6 ∧ 0 ≤ rl ∧ rl < 8 ∧ 0 ≤ pe ∧ pe < 40 ∧ 0 ≤ t ∧ t ≤ K 10 13
  · by_cases d : x0 < 0
    · rw [((h.2 c).1 d).1, ((h.2 c).1 d).2, ((g.2 c).1 d).1, ((g.2 c).1 d).2]
      exact ⟨rfl, rfl⟩
    · obtain ⟨e1, v, z, hv, hz, e2⟩ := (h.2 c).2 (by omega)
      obtain ⟨e3, w, y, hw, hy, e4⟩ := (g.2 c).2 (by omega)
      rw [SETS.un hX hv hw] at hz
      rw [e1, e2, e3, e4, hz.uniq hy]
      exact ⟨rfl, rfl⟩
  · rw [(h.1 c).1, (h.1 c).2, (g.1 c).1, (g.1 c).2]
    exact ⟨rfl, rfl⟩
theorem ListR.un (hX : WX K L) (h : ListR K L kd rl pe t a U) (g : ListR K L kd rl pe t a' U') : a = a' ∧ U = U' := by
  by_cases c : 0 ≤ kd ∧ kd < 6 ∧ 0 ≤ rl ∧ rl < 8 ∧ 0 ≤ pe ∧ pe < 40 ∧ 0 ≤ t ∧ t ≤ K 10 13
  · obtain ⟨v, hv, e1, e2⟩ := h.2 c
    obtain ⟨w, hw, e3, e4⟩ := g.2 c
    rw [e2, e4, e1, e3, SETS.un hX hv hw]
    exact ⟨rfl, rfl⟩
  · rw [(h.1 c).1, (h.1 c).2, (g.1 c).1, (g.1 c).2]
    exact ⟨rfl, rfl⟩
theorem WithR.un (hX : WX K L) (h : WithR K L p a U) (g : WithR K L p a' U') : a = a' ∧ U = U' := by
  by_cases c : 0 ≤ p ∧ p < K 10 9
  · by_cases d : K 44 6 = -1
    · rw [((h.2 c).1 d).1, ((h.2 c).1 d).2, ((g.2 c).1 d).1, ((g.2 c).1 d).2]
      exact ⟨rfl, rfl⟩
    · obtain ⟨e1, v, hv, e2⟩ := (h.2 c).2 d
      obtain ⟨e3, w, hw, e4⟩ := (g.2 c).2 d
      rw [e1, e2, e3, e4, SETS.un hX hv hw]
      exact ⟨rfl, rfl⟩
  · rw [(h.1 c).1, (h.1 c).2, (g.1 c).1, (g.1 c).2]
    exact ⟨rfl, rfl⟩
theorem WouldR.un (hX : WX K L) (h : WouldR K L th rl op a U) (g : WouldR K L th rl op a' U') : a = a' ∧ U = U' := by
  by_cases c : cellP K th rl
  · have h := h.2 c
    have g := g.2 c
    by_cases c1 : roomP K
    · have h := h.2 c1
      have g := g.2 c1
      by_cases c2 : perfA K = -1
      · have h := h.2 c2
        have g := g.2 c2
        by_cases c3 : ringF (finU K) L
        · rw [(h.1 c3).1, (h.1 c3).2, (g.1 c3).1, (g.1 c3).2]
          exact ⟨rfl, rfl⟩
        · obtain ⟨e1, v, v2, hv, hv2, e2⟩ := h.2 c3
          obtain ⟨e3, w, w2, hw, hw2, e4⟩ := g.2 c3
          rw [e1, e2, e3, e4, SETS.un (WX_close hX c1 c2 c3) hv hw, SETS.un hX hv2 hw2]
          exact ⟨rfl, rfl⟩
      · rw [(h.1 c2).1, (h.1 c2).2, (g.1 c2).1, (g.1 c2).2]
        exact ⟨rfl, rfl⟩
    · rw [(h.1 c1).1, (h.1 c1).2, (g.1 c1).1, (g.1 c1).2]
      exact ⟨rfl, rfl⟩
  · rw [(h.1 c).1, (h.1 c).2, (g.1 c).1, (g.1 c).2]
    exact ⟨rfl, rfl⟩
theorem CommitR.un (h : CommitR K L a U) (g : CommitR K L a' U') : a = a' ∧ U = U' := by
  by_cases c1 : roomP K
  · have h := h.2 c1
    have g := g.2 c1
    by_cases c2 : perfA K = -1
    · have h := h.2 c2
      have g := g.2 c2
      by_cases c3 : ringF (finU K) L
      · rw [(h.1 c3).1, (h.1 c3).2, (g.1 c3).1, (g.1 c3).2]
        exact ⟨rfl, rfl⟩
      · rw [(h.2 c3).1, (h.2 c3).2, (g.2 c3).1, (g.2 c3).2]
        exact ⟨rfl, rfl⟩
    · rw [(h.1 c2).1, (h.1 c2).2, (g.1 c2).1, (g.1 c2).2]
      exact ⟨rfl, rfl⟩
  · rw [(h.1 c1).1, (h.1 c1).2, (g.1 c1).1, (g.1 c1).2]
    exact ⟨rfl, rfl⟩
theorem RelR.un {v v' : Int} (h : RelR K kd rl p L v U) (g : RelR K kd rl p L v' U') : v = v' ∧ U = U' := by
  by_cases c : ((0 ≤ kd ∧ kd < 6) ∧ (0 ≤ rl ∧ rl < 8)) ∧ (-1 ≤ p ∧ p < 64)
  · by_cases d : ringF (relU K kd rl p) L
    · rw [((h.2 c).1 d).1, ((h.2 c).1 d).2, ((g.2 c).1 d).1, ((g.2 c).1 d).2]
      exact ⟨rfl, rfl⟩
    · rw [((h.2 c).2 d).1, ((h.2 c).2 d).2, ((g.2 c).2 d).1, ((g.2 c).2 d).2]
      exact ⟨rfl, rfl⟩
  · rw [(h.1 c).1, (h.1 c).2, (g.1 c).1, (g.1 c).2]
    exact ⟨rfl, rfl⟩
theorem RuleR.un {v v' s x y : Int} (h : RuleR K p s x y L v U) (g : RuleR K p s x y L v' U') : v = v' ∧ U = U' := by
  by_cases c : (0 ≤ p ∧ p < 64) ∧ relP s x y
  · by_cases e : (0 ≤ s ∧ s ≤ 6) ∧ lowP p s x y
    · have h := (h.2.2 c e).2
      have g := (g.2.2 c e).2
      by_cases d : ringF (ruU K p s x y) L
      · rw [(h.1 d).1, (h.1 d).2, (g.1 d).1, (g.1 d).2]
        exact ⟨rfl, rfl⟩
      · rw [(h.2 d).1, (h.2 d).2, (g.2 d).1, (g.2 d).2]
        exact ⟨rfl, rfl⟩
    · rw [(h.2.1 c e).1, (h.2.1 c e).2, (g.2.1 c e).1, (g.2.1 c e).2]
      exact ⟨rfl, rfl⟩
  · rw [(h.1 c).1, (h.1 c).2, (g.1 c).1, (g.1 c).2]
    exact ⟨rfl, rfl⟩
theorem WhyR.un (hX : WX K L) (h : WhyR K L th rl pe t a U) (g : WhyR K L th rl pe t a' U') : a = a' ∧ ∀ I, RA U' I → RA U I := by
  by_cases c : cellP K th rl ∧ (0 ≤ pe ∧ pe < 40) ∧ turnP K t
  · obtain ⟨v, hv, h1, h2⟩ := h.2 c
    obtain ⟨w, hw, g1, g2⟩ := g.2 c
    have e := SETS.un hX hv hw
    subst e
    by_cases d : tb (v (th * 8 + rl).toNat) pe.toNat = true
    · obtain ⟨a1, a2, a3, a4, a5, n, a6, a7, a8⟩ := h2 d
      obtain ⟨b1, b2, b3, b4, b5, m, b6, b7, b8⟩ := g2 d
      refine ⟨by rw [a1, b1], fun I hA => ?_⟩
      obtain ⟨hnm, hl⟩ := lsA_inj (a8.trans b8.symm)
      subst hnm
      refine hA.why (fun i x y => by rw [a2 i x y, b2 i x y]) (fun _ _ _ => rfl) (fun _ _ _ _ _ _ _ _ => rfl) ?_
      obtain ⟨r1, r2, r3, r4⟩ := hA.2.2.2.2.2.2.1
      unfold RRe
      rw [a3, a4, a5, a6]
      rw [b3, b4, b5] at r4
      rw [b3] at r3
      rw [b6] at r1 r2
      exact ⟨r1, fun i hi => by rw [r2 i hi, hl i (by omega)], r3, r4⟩
    · rw [(h1 d).1, (h1 d).2, (g1 d).1, (g1 d).2]
      exact ⟨rfl, fun I h => h⟩
  · rw [(h.1 c).1, (h.1 c).2, (g.1 c).1, (g.1 c).2]
    exact ⟨rfl, fun I h => h⟩
end UNQ
/-- what the reference is held against may be another that reads the same -/
theorem RA.er {K K' I : MI} (h : RA K I) (e : ERx K K') : RA K' I := by
  obtain ⟨h1, h2, h3, h4, h5, h6, h7, h8⟩ := h
  have k0 : ∀ i, core i = true → (i < 10 ∨ 21 < i) → i ≠ 0 → K' i = K i := fun i a b c => e.c a b c
  have e9 := e.1.2.2.2.2.1 9 (by decide)
  have e13 := e.1.2.2.2.2.1 13 (by decide)
  have e11 := e.2
  have r := e.1.2.2.2.2.2.1
  refine ⟨?_, ?_, ?_, ?_, ?_, ?_, ?_, ?_⟩
  · unfold RTh; rw [k0 1 rfl (by omega) (by decide), k0 2 rfl (by omega) (by decide)]; exact h1
  · unfold RRu; rw [k0 4 rfl (by omega) (by decide), k0 5 rfl (by omega) (by decide), k0 6 rfl (by omega) (by decide), k0 7 rfl (by omega) (by decide)]; exact h2
  · refine ⟨by rw [e9]; exact h3.1, fun p hp => ?_⟩
    rw [e9] at hp
    rw [r 11 (by decide) (by decide) p hp, r 12 (by decide) (by decide) p hp, r 13 (by decide) (by decide) p hp, r 14 (by decide) (by decide) p hp, r 15 (by decide) (by decide) p hp, r 16 (by decide) (by decide) p hp]
    exact h3.2 p hp
  · obtain ⟨a, b, c, d⟩ := h4
    refine ⟨by rw [e11]; exact a, by rw [e13]; exact b, fun q hq => ?_, fun q t hq ht => ?_⟩
    · rw [e11] at hq
      rw [e.1.2.2.2.2.2.2.1 q hq]
      exact c q hq
    · rw [e11] at hq
      rw [e13] at ht
      rw [e.1.2.2.2.2.2.2.2 t ht]
      exact d q t hq ht
  · unfold RDr; rw [k0 22 rfl (by omega) (by decide), k0 23 rfl (by omega) (by decide), k0 24 rfl (by omega) (by decide), k0 25 rfl (by omega) (by decide), k0 26 rfl (by omega) (by decide), k0 27 rfl (by omega) (by decide), k0 28 rfl (by omega) (by decide), k0 29 rfl (by omega) (by decide), k0 30 rfl (by omega) (by decide)]; exact h5
  · unfold RSc; rw [e.1.2.1 11 (by decide), e.1.2.1 13 (by decide), k0 51 rfl (by omega) (by decide)]; exact h6
  · unfold RRe; rw [e.1.2.2.1 5 (by decide) (by decide), e.1.2.2.1 6 (by decide) (by decide), e.1.2.2.1 7 (by decide) (by decide), e.1.2.2.1 8 (by decide) (by decide), k0 45 rfl (by omega) (by decide)]; exact h7
  · unfold RRo; rw [k0 48 rfl (by omega) (by decide), k0 49 rfl (by omega) (by decide)]; exact h8
theorem RA.frame {K I I' : MI} (h : RA K I) (e : ∀ i, 52 ≤ i → I' i = I i) : RA K I' := h.keep (fun i a b => e i (by omega)) (fun k _ _ _ _ _ _ _ => by rw [e 52 (by decide)])
theorem ChR_er {K U : MI} {cp cq : Nat → Bool} {m : Nat} {I : MI} (hm : (m : Int) ≤ K 10 9) (hc : ∀ p : Nat, (p : Int) < K 10 9 → cq p = cp p) (h17 : ∀ p : Nat, (p : Int) < K 10 9 → U 17 p = K 17 p) (h : ChR K cp 0 m I) : ChR U cq 0 m I := by
  have hs : ∀ s q : Nat, (q : Int) < K 10 9 → spB U cq s q = spB K cp s q := fun s q hq => by
    unfold spB
    rw [hc q hq, h17 q hq]
  have hsr : ∀ s k n, n + k ≤ m → srF (spB U cq s) n k = srF (spB K cp s) n k := by
    intro s k
    induction k with
    | zero => intro n _; rfl
    | succ k ih =>
      intro n hn
      show (if spB U cq s n = true then (n : Int) else srF (spB U cq s) (n + 1) k) = if spB K cp s n = true then (n : Int) else srF (spB K cp s) (n + 1) k
      rw [hs s n (by omega), ih (n + 1) (by omega)]
  refine ⟨fun s hs2 => ?_, fun q a b c => ?_⟩
  · rw [h.1 s hs2]
    exact (hsr s (m - 0) 0 (by omega)).symm
  · rw [hc q (by omega)] at c
    rw [h.2 q a b c, h17 q (by omega)]
    exact (hsr _ (m - (q + 1)) (q + 1) (by omega)).symm
