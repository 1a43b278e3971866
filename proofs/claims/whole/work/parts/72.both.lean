/-! ===== one call of both ===== -/
theorem WX.cg {I I' : MI} {J J' : MJ} (h : WX I J) (e : ∀ i, i = 1 ∨ i = 2 ∨ (4 ≤ i ∧ i ≤ 7) ∨ (10 ≤ i ∧ i ≤ 30) → I' i = I i) (h1 : WTk I') (h2 : WRe I') (h3 : WRo I') (e8 : J' 8 = J 8) (e9 : J' 9 = J 9) : WX I' J' := by
  obtain ⟨a, b, c, d, -, -, -, s, r⟩ := h
  refine ⟨WTh_congr a (e 1 (by omega)) (e 2 (by omega)), WRu_congr b (e 4 (by omega)) (e 5 (by omega)) (e 6 (by omega)) (e 7 (by omega)), ?_, ?_, h1, h2, h3, svOK_congr s (e 4 (by omega)) (e 5 (by omega)) (e 6 (by omega)) e8 e9, ?_⟩
  · unfold WLe WPr at c ⊢
    rw [e 1 (by omega), e 10 (by omega), e 11 (by omega), e 12 (by omega), e 13 (by omega), e 14 (by omega), e 15 (by omega), e 16 (by omega), e 17 (by omega), e 18 (by omega), e 19 (by omega), e 20 (by omega), e 21 (by omega), cS_same (K := I) (K' := I') _ (fun p hp => by rw [e 16 (by omega)])]
    exact c
  · unfold WDr WAct WCnd at d ⊢
    rw [e 22 (by omega), e 1 (by omega), e 23 (by omega), e 24 (by omega), e 25 (by omega), e 26 (by omega), e 27 (by omega), e 28 (by omega), e 29 (by omega), e 30 (by omega)]
    exact d
  · unfold ringF at r ⊢
    have ee := EJ_congr (I := I) (I' := I') (J := J) (J' := J') (fun i hi => e i (by omega)) e8 e9
    rw [ee.1, ee.2]
    exact r
theorem WX.rf {I : MI} {J : MJ} (h : WX I J) (z : Int) : WX (rfU I z) J := by
  have kn : ∀ i, i ≠ 51 → rfU I z i = I i := fun i a => ma_ne _ _ a
  refine h.cg (fun i hi => kn i (by omega)) ?_ ?_ ?_ rfl rfl
  · unfold WTk; rw [kn 0 (by decide)]; exact h.2.2.2.2.1
  · unfold WRe; rw [kn 44 (by decide), kn 1 (by decide), kn 10 (by decide)]; exact h.2.2.2.2.2.1
  · unfold WRo; rw [kn 48 (by decide)]; exact h.2.2.2.2.2.2.1
/-- the counters behind a call -/
def CntR2 (n : Nat) (U : MI) : Prop := ∀ k, k < 8 → 0 ≤ U 51 k ∧ U 51 k ≤ (n : Int) + 1
theorem INV.c0 {n : Nat} {I U : MI} {J : MJ} (h : INV n I J) (e : U 51 = I 51) : CntR2 n U := fun k hk => by
  rw [e]
  have := h.2.2.2.2 k hk
  omega
theorem INV.cr {n : Nat} {I U : MI} {J : MJ} (h : INV n I J) {z : Int} (e : U 51 = I 51) : CntR2 n (rfU U z) := fun k hk => by
  have := h.2.2.2.2 k hk
  unfold rfU
  rw [ma_self, e]
  by_cases c : k = (-2 - z).toNat
  · rw [← c, ma_self]; omega
  · rw [ma_ne _ _ c]; omega
/-- what a call of the class makes of the memory is fit -/
def FitU (n : Nat) (I U : MI) (L : MJ) : Prop := WX U L ∧ (∀ i, 52 ≤ i → U i = I i) ∧ CntR2 n U
theorem FitU.same {n : Nat} {I : MI} {J : MJ} (h : INV n I J) : FitU n I I J := ⟨h.1, fun _ _ => rfl, h.c0 rfl⟩
theorem FitU.rf {n : Nat} {I : MI} {J : MJ} (h : INV n I J) (z : Int) : FitU n I (rfU I z) J := ⟨h.1.rf z, fun i a => ma_ne _ _ (by omega), h.cr rfl⟩
theorem QX.e {N : Nat} {R : AV → MI → Prop} {y : Nat} {args : List AV} {M : M5} (h : CT y args M (QX N R)) : CT y args M (QXe N R) := h.mono fun r M' q => by
  obtain ⟨a, U, I', J', h1, h2, h3, h4, h5⟩ := q
  exact ⟨a, U, I', J', h1, h2, h3, h4.er, h5⟩
abbrev QBoth (N n yM : Nat) (argsM : List AV) : Option AV → M5 → Prop := fun r M1 => ∃ a I1 J1, r = some a ∧ M1 = MM N I1 J1 ∧ CT yM argsM (MM N I1 J1) (fun r' M2 => ∃ I2 J2, r' = some a ∧ M2 = MM N I2 J2 ∧ INV (n + 1) I2 J2)
theorem both {N n : Nat} {I : MI} {J : MJ} (h : INV n I J) (hn : n ≤ 900) {yX yM : Nat} {argsX argsM : List AV} {R RM : AV → MI → Prop} (hax : ∀ v ∈ argsX, rOk SX v) (ham : ∀ v ∈ argsM, rOk SM v)
    (hc : CT yX argsX (MM N I J) (QXe N R))
    (hm : ∀ I1 J1, RA I I1 → RfM I1 → Vok I1 → CA I J I1 J1 → CT yM argsM (MM N I1 J1) (fun r M' => ∃ a U I' J', r = some a ∧ M' = MM N I' J' ∧ RM a U ∧ PO U J I1 I' J'))
    (hun : ∀ a U a' U', R a U → RM a' U' → a = a' ∧ (∀ I', RA U' I' → RA U I') ∧ ∀ I' J', CA U' J I' J' → CA U J I' J')
    (hW : ∀ a U, R a U → FitU n I U J) : CT yX argsX (MM N I J) (QBoth N n yM argsM) :=
  (hc.x hax).mono fun r M1 q => by
    obtain ⟨⟨a, U, I1, J1, rfl, rfl, hR, hE, hs⟩, hf⟩ := q
    obtain ⟨hX, h52, hcn⟩ := hW a U hR
    have e1 : ∀ i, 52 ≤ i → I1 i = I i := fun i hi => (hE.1.2.2.2.1 i hi).trans (h52 i hi)
    have ej : J1 83 = J 83 := (hf 83 (by decide) (by decide)).2
    obtain ⟨m1, m2, m3, m4⟩ := h.mid hn e1 ej
    refine ⟨a, I1, J1, rfl, rfl, ((hm I1 J1 m1 m2 m3 m4).m ham).mono fun r' M2 q => ?_⟩
    obtain ⟨⟨a', U', I2, J2, rfl, rfl, hRM, hP⟩, hg⟩ := q
    obtain ⟨rfl, u1, u2⟩ := hun a U a' U' hR hRM
    obtain ⟨p1, p2, p3⟩ := hP
    exact ⟨I2, J2, rfl, rfl, h.step (e1 52 (by decide)) hX hE hs (fun i hi => (hg i hi).1) (fun i hi => (hg i hi).2) ⟨u1 _ p1, p2, u2 _ _ p3⟩ hcn⟩
theorem un2 {J : MJ} {a a' : AV} {U U' : MI} (h : a = a' ∧ U = U') : a = a' ∧ (∀ I', RA U' I' → RA U I') ∧ ∀ I' J', CA U' J I' J' → CA U J I' J' := by
  obtain ⟨h1, rfl⟩ := h
  exact ⟨h1, fun _ h => h, fun _ _ h => h⟩
theorem rokI (S : Nat → Prop) : ∀ (l : List Int), ∀ v ∈ l.map aI, rOk S v := by
  intro l v hv
  obtain ⟨x, -, rfl⟩ := List.mem_map.mp hv
  exact trivial
theorem rokX (l : List Int) : ∀ v ∈ aR 0 :: l.map aI, rOk SX v := by
  intro v hv
  rcases List.mem_cons.mp hv with rfl | hv
  · exact Or.inl (by decide)
  · exact rokI _ l v hv
theorem rokM (l : List Int) : ∀ v ∈ aR 52 :: l.map aI, rOk SM v := by
  intro v hv
  rcases List.mem_cons.mp hv with rfl | hv
  · exact Nat.le_refl _
  · exact rokI _ l v hv
section BOTH
variable {N n : Nat} {I : MI} {J : MJ} {th rl pe t u p op kd x0 : Int}
theorem MayR.fit (h : INV n I J) {a : AV} {U : MI} (g : MayR I J th rl pe t a U) : FitU n I U J := by
  by_cases c : cellP I th rl ∧ (0 ≤ pe ∧ pe < 40) ∧ turnP I t
  · rw [(g.2 c).1]; exact FitU.same h
  · rw [(g.1 c).2]; exact FitU.rf h _
theorem WhoR.fit (h : INV n I J) {a : AV} {U : MI} (g : WhoR I J th rl t a U) : FitU n I U J := by
  by_cases c : cellP I th rl ∧ turnP I t
  · rw [(g.2 c).1]; exact FitU.same h
  · rw [(g.1 c).2]; exact FitU.rf h _
theorem ReachR.fit (h : INV n I J) {a : AV} {U : MI} (g : ReachR I J kd rl pe x0 t a U) : FitU n I U J := by
  by_cases c : 0 ≤ kd ∧ kd < 6 ∧ 0 ≤ rl ∧ rl < 8 ∧ 0 ≤ pe ∧ pe < 40 ∧ 0 ≤ t ∧ t ≤ I 10 13
  · by_cases d : x0 < 0
    · rw [((g.2 c).1 d).2]; exact FitU.rf h _
    · rw [((g.2 c).2 (by omega)).1]; exact FitU.same h
  · rw [(g.1 c).2]; exact FitU.rf h _
theorem ListR.fit (h : INV n I J) {a : AV} {U : MI} (g : ListR I J kd rl pe t a U) : FitU n I U J := by
  by_cases c : 0 ≤ kd ∧ kd < 6 ∧ 0 ≤ rl ∧ rl < 8 ∧ 0 ≤ pe ∧ pe < 40 ∧ 0 ≤ t ∧ t ≤ I 10 13
  · obtain ⟨v, -, e, -⟩ := g.2 c
    have kn : ∀ i, i ≠ 48 → i ≠ 49 → U i = I i := fun i a b => by rw [e]; exact lsF_ne _ a b
    have hX := h.1
    have h40 := hX.1.2.1
    have h400 := hX.1.1
    refine ⟨hX.cg (fun i hi => kn i (by omega) (by omega)) ?_ ?_ ?_ rfl rfl, fun i hi => kn i (by omega) (by omega), h.c0 (kn 51 (by decide) (by decide))⟩
    · unfold WTk; rw [kn 0 (by decide) (by decide)]; exact hX.2.2.2.2.1
    · unfold WRe; rw [kn 44 (by decide) (by decide), kn 1 (by decide) (by decide), kn 10 (by decide) (by decide)]; exact hX.2.2.2.2.2.1
    · have lm := lsF_m (I := I) (v := v) (kd := kd) (rl := rl.toNat) (pe := pe.toNat) (I 1 1).toNat
      unfold WRo
      rw [e]
      omega
  · rw [(g.1 c).2]; exact FitU.rf h _
theorem WithR.fit (h : INV n I J) {a : AV} {U : MI} (g : WithR I J p a U) : FitU n I U J := by
  by_cases c : 0 ≤ p ∧ p < I 10 9
  · by_cases d : I 44 6 = -1
    · rw [((g.2 c).1 d).2]; exact FitU.rf h _
    · rw [((g.2 c).2 d).1]; exact FitU.same h
  · rw [(g.1 c).2]; exact FitU.rf h _
theorem WouldR.fit (h : INV n I J) {a : AV} {U : MI} (g : WouldR I J th rl op a U) : FitU n I U J := by
  by_cases c : cellP I th rl
  · have g := g.2 c
    by_cases c1 : roomP I
    · have g := g.2 c1
      by_cases c2 : perfA I = -1
      · have g := g.2 c2
        by_cases c3 : ringF (finU I) J
        · rw [(g.1 c3).2]; exact FitU.rf h _
        · rw [(g.2 c3).1]; exact FitU.same h
      · rw [(g.1 c2).2]; exact FitU.rf h _
    · rw [(g.1 c1).2]; exact FitU.rf h _
  · rw [(g.1 c).2]; exact FitU.rf h _
theorem WhyR.fit (h : INV n I J) {a : AV} {U : MI} (g : WhyR I J th rl pe t a U) : FitU n I U J := by
  by_cases c : cellP I th rl ∧ (0 ≤ pe ∧ pe < 40) ∧ turnP I t
  · obtain ⟨v, hv, h1, h2⟩ := g.2 c
    by_cases d : tb (v (th * 8 + rl).toNat) pe.toNat = true
    · obtain ⟨a1, a2, a3, a4, a5, m, a6, a7, a8⟩ := h2 d
      have hX := h.1
      obtain ⟨⟨c1, c2, c3, c4⟩, c5, c6, c7⟩ := c
      refine ⟨hX.cg (fun i hi => a2 i (by omega) (by omega)) ?_ ?_ ?_ rfl rfl, fun i hi => a2 i (by omega) (by omega), h.c0 (a2 51 (by decide) (by decide))⟩
      · unfold WTk; rw [a2 0 (by decide) (by decide)]; exact hX.2.2.2.2.1
      · unfold WRe
        rw [a3, a4, a5, a6, a2 1 (by decide) (by decide), a2 10 (by decide) (by decide)]
        exact ⟨by omega, by omega, Or.inr ⟨by omega, by omega, by omega, by omega, by omega, by omega⟩⟩
      · unfold WRo; rw [a2 48 (by decide) (by decide)]; exact hX.2.2.2.2.2.2.1
    · rw [(h1 d).2]; exact FitU.rf h _
  · rw [(g.1 c).2]; exact FitU.rf h _
theorem WhyR.rd {K : MI} {L : MJ} {a : AV} {U : MI} (g : WhyR K L th rl pe t a U) : sameS K U := by
  by_cases c : cellP K th rl ∧ (0 ≤ pe ∧ pe < 40) ∧ turnP K t
  · obtain ⟨v, hv, h1, h2⟩ := g.2 c
    by_cases d : tb (v (th * 8 + rl).toNat) pe.toNat = true
    · obtain ⟨a1, a2, -⟩ := h2 d
      exact ⟨fun i hi => a2 i (by unfold rdC at hi; omega) (by unfold rdC at hi; omega), by rw [a2 0 (by decide) (by decide)]⟩
    · rw [(h1 d).2]; exact sameS.rf _ _
  · rw [(g.1 c).2]; exact sameS.rf _ _
theorem sameS.symm {K U : MI} (h : sameS K U) : sameS U K := ⟨fun i hi => (h.1 i hi).symm, h.2.symm⟩
theorem sameS.trans {K U V : MI} (h : sameS K U) (g : sameS U V) : sameS K V := ⟨fun i hi => (g.1 i hi).trans (h.1 i hi), g.2.trans h.2⟩
theorem b_may (h : INV n I J) (hn : n ≤ 900) : CT 85 [aR 0, aI th, aI rl, aI pe, aI t] (MM N I J) (QBoth N n 173 [aR 52, aI th, aI rl, aI pe, aI t]) :=
  both h hn (rokX [th, rl, pe, t]) (rokM [th, rl, pe, t]) (QX.e (c_X9_may h.1 (h.rf hn))) (fun I1 J1 a b c d => m_X10_may h.1 a b c d) (fun a U a' U' x y => un2 (x.un h.1 y)) (fun a U x => x.fit h)
theorem b_who (h : INV n I J) (hn : n ≤ 900) : CT 86 [aR 0, aI th, aI rl, aI t] (MM N I J) (QBoth N n 174 [aR 52, aI th, aI rl, aI t]) :=
  both h hn (rokX [th, rl, t]) (rokM [th, rl, t]) (QX.e (c_X9_who h.1 (h.rf hn))) (fun I1 J1 a b c d => m_X10_who h.1 a b c d) (fun a U a' U' x y => un2 (x.un h.1 y)) (fun a U x => x.fit h)
theorem b_reach (h : INV n I J) (hn : n ≤ 900) (hi : inR kd) : CT 87 [aR 0, aI kd, aI rl, aI pe, aI x0, aI t] (MM N I J) (QBoth N n 176 [aR 52, aI kd, aI rl, aI pe, aI x0, aI t]) :=
  both h hn (rokX [kd, rl, pe, x0, t]) (rokM [kd, rl, pe, x0, t]) (QX.e (c_X9_reach h.1 (h.rf hn))) (fun I1 J1 a b c d => m_X10_reach h.1 a b c d hi) (fun a U a' U' x y => un2 (x.un h.1 y)) (fun a U x => x.fit h)
theorem b_list (h : INV n I J) (hn : n ≤ 900) (hi : inR kd) : CT 93 [aR 0, aI kd, aI rl, aI pe, aI t] (MM N I J) (QBoth N n 192 [aR 52, aI kd, aI rl, aI pe, aI t]) :=
  both h hn (rokX [kd, rl, pe, t]) (rokM [kd, rl, pe, t]) (QX.e (c_X9_list h.1 (h.rf hn))) (fun I1 J1 a b c d => m_X10_list h.1 a b c d hi) (fun a U a' U' x y => un2 (x.un h.1 y)) (fun a U x => x.fit h)
theorem b_without (h : INV n I J) (hn : n ≤ 900) (hi : inR p) : CT 90 [aR 0, aI p] (MM N I J) (QBoth N n 189 [aR 52, aI p]) :=
  both h hn (rokX [p]) (rokM [p]) (QX.e (c_X9_without h.1 (h.rf hn))) (fun I1 J1 a b c d => m_X10_without h.1 a b c d hi) (fun a U a' U' x y => un2 (x.un h.1 y)) (fun a U x => x.fit h)
theorem b_would (h : INV n I J) (hn : n ≤ 900) : CT 91 [aR 0, aI th, aI rl, aI op] (MM N I J) (QBoth N n 190 [aR 52, aI th, aI rl, aI op]) :=
  both h hn (rokX [th, rl, op]) (rokM [th, rl, op]) (c_X9_would h.1 (h.rf hn)) (fun I1 J1 a b c d => m_X10_would h.1 a b c d) (fun a U a' U' x y => un2 (x.un h.1 y)) (fun a U x => x.fit h)
theorem b_why (h : INV n I J) (hn : n ≤ 900) : CT 88 [aR 0, aI th, aI rl, aI pe, aI t] (MM N I J) (QBoth N n 187 [aR 52, aI th, aI rl, aI pe, aI t]) :=
  both h hn (rokX [th, rl, pe, t]) (rokM [th, rl, pe, t]) (QX.e (c_X9_why h.1 (h.rf hn))) (fun I1 J1 a b c d => m_X10_why h.1 a b c d) (fun a U a' U' x y => ⟨(x.un h.1 y).1, (x.un h.1 y).2, fun I' J' hC => hC.same ((sameS.symm y.rd).trans x.rd) rfl rfl rfl rfl rfl rfl⟩) (fun a U x => x.fit h)
end BOTH
