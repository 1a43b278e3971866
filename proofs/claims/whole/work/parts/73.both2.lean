/-! ===== one call of both: commit, relate, rule ===== -/
theorem WX.put {I U : MI} {J L : MJ} (h : WX I J) (e : ∀ i, i ≠ 4 → i ≠ 5 → i ≠ 6 → i ≠ 7 → U i = I i) (hr : WRu U) (hs : svOK U L) (hg : ¬ ringF U L) : WX U L := by
  obtain ⟨a, b, c, d, f, g, k, -, -⟩ := h
  have n : ∀ i, (i < 4 ∨ 7 < i) → U i = I i := fun i hi => e i (by omega) (by omega) (by omega) (by omega)
  refine ⟨WTh_congr a (n 1 (by omega)) (n 2 (by omega)), hr, ?_, ?_, ?_, ?_, ?_, hs, hg⟩
  · unfold WLe WPr at c ⊢
    rw [n 1 (by omega), n 10 (by omega), n 11 (by omega), n 12 (by omega), n 13 (by omega), n 14 (by omega), n 15 (by omega), n 16 (by omega), n 17 (by omega), n 18 (by omega), n 19 (by omega), n 20 (by omega), n 21 (by omega), cS_same (K := I) (K' := U) _ (fun p hp => by rw [n 16 (by omega)])]
    exact c
  · unfold WDr WAct WCnd at d ⊢
    rw [n 22 (by omega), n 1 (by omega), n 23 (by omega), n 24 (by omega), n 25 (by omega), n 26 (by omega), n 27 (by omega), n 28 (by omega), n 29 (by omega), n 30 (by omega)]
    exact d
  · unfold WTk at f ⊢
    rw [n 0 (by omega)]
    exact f
  · unfold WRe at g ⊢
    rw [n 44 (by omega), n 1 (by omega), n 10 (by omega)]
    exact g
  · unfold WRo at k ⊢
    rw [n 48 (by omega)]
    exact k
theorem WX.clr {P : MI} {L : MJ} (h : WX P L) : WX (clrU P) L := by
  have n : ∀ i, i ≠ 22 → clrU P i = P i := fun i a => ma_ne _ _ a
  have k4 : clrU P 22 4 = 0 := by unfold clrU; rw [ma_self, ma_ne _ _ (by decide), ma_self]
  have k9 : clrU P 22 9 = 0 := by unfold clrU; rw [ma_self, ma_self]
  obtain ⟨a, b, c, d, f, g, k, s, r⟩ := h
  refine ⟨WTh_congr a (n 1 (by decide)) (n 2 (by decide)), WRu_congr b (n 4 (by decide)) (n 5 (by decide)) (n 6 (by decide)) (n 7 (by decide)), ?_, ?_, ?_, ?_, ?_, svOK_congr s (n 4 (by decide)) (n 5 (by decide)) (n 6 (by decide)) rfl rfl, ?_⟩
  · unfold WLe WPr at c ⊢
    rw [n 1 (by decide), n 10 (by decide), n 11 (by decide), n 12 (by decide), n 13 (by decide), n 14 (by decide), n 15 (by decide), n 16 (by decide), n 17 (by decide), n 18 (by decide), n 19 (by decide), n 20 (by decide), n 21 (by decide), cS_same (K := P) (K' := clrU P) _ (fun p hp => by rw [n 16 (by decide)])]
    exact c
  · exact ⟨by omega, by omega, by omega, by omega, fun a h => by omega, fun a h => by omega⟩
  · unfold WTk at f ⊢
    rw [n 0 (by decide)]
    exact f
  · unfold WRe at g ⊢
    rw [n 44 (by decide), n 1 (by decide), n 10 (by decide)]
    exact g
  · unfold WRo at k ⊢
    rw [n 48 (by decide)]
    exact k
  · unfold ringF at r ⊢
    have ee := EJ_congr (I := P) (I' := clrU P) (J := L) (J' := L) (fun i hi => n i (by omega)) rfl rfl
    rw [ee.1, ee.2]
    exact r
theorem PO.vn2 {K U : MI} {L L' : MJ} {I I' : MI} {J J' : MJ} (hX : WX K L) (hX' : WX U L') (hA : RA U I') (hV : Vok I) (hn : Vn K U I I') (hC : CA K L I J) (ej : J' 83 = J 83) : PO U L' I I' J' := by
  obtain ⟨v1, v2, v3, v4, v5, v6⟩ := hV
  obtain ⟨n1, n2, n3, n4, n5, e87, e88⟩ := hn
  refine ⟨hA, ⟨by omega, by omega, by omega, by omega, by omega, by omega⟩, ?_⟩
  rcases n1 with n1 | ⟨n1, n6⟩
  · intro w; omega
  · have h2 := hC.same n6 n1 n3 n4 e87 e88 ej
    intro w
    obtain ⟨a, b⟩ := h2 w
    have hS := hX'.ScP
    have hsL : svOK U L := svOK_congr hX.2.2.2.2.2.2.2.1 (n6.1 4 (by unfold rdC; omega)) (n6.1 5 (by unfold rdC; omega)) (n6.1 6 (by unfold rdC; omega)) rfl rfl
    exact ⟨SETS_sv hsL hX'.2.2.2.2.2.2.2.1 hS.2.1 hS.2.2.2.2.2.1 hS.1 hX'.1.2.1 a, b⟩
/-- one call of both, where the class's rules may have moved -/
theorem both3 {N n : Nat} {I : MI} {J : MJ} (h : INV n I J) (hn : n ≤ 900) {yX yM : Nat} {argsX argsM : List AV} {R : MJ → AV → MI → Prop} (hax : ∀ v ∈ argsX, rOk SX v) (ham : ∀ v ∈ argsM, rOk SM v)
    (hc : CT yX argsX (MM N I J) (fun r M' => ∃ a U L I' J', r = some a ∧ M' = MM N I' J' ∧ R L a U ∧ ERx U I' ∧ svOK I' J'))
    (hm : ∀ L a U I1 J1, R L a U → RA I I1 → RfM I1 → Vok I1 → CA I J I1 J1 → CT yM argsM (MM N I1 J1) (fun r M' => ∃ L' I' J', r = some a ∧ M' = MM N I' J' ∧ WX U L' ∧ PO U L' I1 I' J'))
    (hW : ∀ L a U, R L a U → (∀ i, 52 ≤ i → U i = I i) ∧ CntR2 n U) : CT yX argsX (MM N I J) (QBoth N n yM argsM) :=
  (hc.x hax).mono fun r M1 q => by
    obtain ⟨⟨a, U, L, I1, J1, rfl, rfl, hR, hE, hs⟩, hf⟩ := q
    obtain ⟨h52, hcn⟩ := hW L a U hR
    have e1 : ∀ i, 52 ≤ i → I1 i = I i := fun i hi => (hE.1.2.2.2.1 i hi).trans (h52 i hi)
    have ej : J1 83 = J 83 := (hf 83 (by decide) (by decide)).2
    obtain ⟨m1, m2, m3, m4⟩ := h.mid hn e1 ej
    refine ⟨a, I1, J1, rfl, rfl, ((hm L a U I1 J1 hR m1 m2 m3 m4).m ham).mono fun r' M2 q => ?_⟩
    obtain ⟨⟨L', I2, J2, rfl, rfl, hX, hP⟩, hg⟩ := q
    exact ⟨I2, J2, rfl, rfl, h.step (e1 52 (by decide)) hX hE hs (fun i hi => (hg i hi).1) (fun i hi => (hg i hi).2) hP hcn⟩
section BOTH2
variable {N n : Nat} {I : MI} {J : MJ} {p s x y k rl : Int}
theorem CommitR.fit (h : INV n I J) {a : AV} {U : MI} (g : CommitR I J a U) : FitU n I U J := by
  by_cases c1 : roomP I
  · have g := g.2 c1
    by_cases c2 : perfA I = -1
    · have g := g.2 c2
      by_cases c3 : ringF (finU I) J
      · rw [(g.1 c3).2]; exact FitU.rf h _
      · rw [(g.2 c3).2]
        have v := (closeU_v (finU I)).1
        have e1 : ∀ i, 22 < i → clrU (closeU (finU I)) i = I i := fun i hi => by
          show ma _ _ _ i = _
          rw [ma_ne _ _ (by omega), v i (by omega) (by omega)]
          exact runU_ne I (by omega) _
        exact ⟨(WX_close h.1 c1 c2 c3).clr, fun i hi => e1 i (by omega), h.c0 (e1 51 (by decide))⟩
    · rw [(g.1 c2).2]
      have kn : ∀ i, i ≠ 0 → ma I 0 (ma (I 0) 13 (perfA I)) i = I i := fun i a => ma_ne _ _ a
      have hX := h.1
      have hX2 : WX (ma I 0 (ma (I 0) 13 (perfA I))) J := by
        refine hX.cg (fun i hi => kn i (by omega)) ?_ ?_ ?_ rfl rfl
        · unfold WTk; rw [ma_self, ma_ne _ _ (by decide)]; exact hX.2.2.2.2.1
        · unfold WRe; rw [kn 44 (by decide), kn 1 (by decide), kn 10 (by decide)]; exact hX.2.2.2.2.2.1
        · unfold WRo; rw [kn 48 (by decide)]; exact hX.2.2.2.2.2.2.1
      refine ⟨hX2.rf _, fun i hi => ?_, h.cr (kn 51 (by decide))⟩
      unfold rfU
      rw [ma_ne _ _ (by omega), kn i (by omega)]
  · rw [(g.1 c1).2]; exact FitU.rf h _
theorem b_commit (h : INV n I J) (hn : n ≤ 900) : CT 77 [aR 0] (MM N I J) (QBoth N n 153 [aR 52]) :=
  both h hn (rokX []) (rokM []) (c_X9_commit h.1 (h.rf hn)) (fun I1 J1 a b c d => (m_X10_commit h.1 a b c).mono fun r M' q => by
    obtain ⟨v, U, I', e1, e2, e3, e4, e5⟩ := q
    exact ⟨v, U, I', J1, e1, e2, e3, PO.vn e4 c e5 d (fun _ => rfl) rfl⟩) (fun a U a' U' x y => un2 (x.un y)) (fun a U x => x.fit h)
theorem RelR.fit (h : INV n I J) {v : Int} {U : MI} (g : RelR I k rl p J v U) : FitU n I U J := by
  by_cases c : ((0 ≤ k ∧ k < 6) ∧ (0 ≤ rl ∧ rl < 8)) ∧ (-1 ≤ p ∧ p < 64)
  · by_cases d : ringF (relU I k rl p) J
    · rw [((g.2 c).1 d).2]; exact FitU.rf h _
    · rw [((g.2 c).2 d).2]
      have kn : ∀ i, i ≠ 7 → relU I k rl p i = I i := fun i a => ma_ne _ _ a
      have hX := h.1
      exact ⟨hX.put (fun i _ _ _ a => kn i a) (rel_rt hX.2.1 c.2) (svOK_congr hX.2.2.2.2.2.2.2.1 (kn 4 (by decide)) (kn 5 (by decide)) (kn 6 (by decide)) rfl rfl) d, fun i hi => kn i (by omega), h.c0 (kn 51 (by decide))⟩
  · rw [(g.1 c).2]; exact FitU.rf h _
theorem b_relate (h : INV n I J) (hn : n ≤ 900) (hi : inR k) : CT 72 [aR 0, aI k, aI rl, aI p] (MM N I J) (QBoth N n 141 [aR 52, aI k, aI rl, aI p]) :=
  both (R := fun a U => ∃ v, a = aI v ∧ RelR I k rl p J v U) (RM := fun a U => ∃ v, a = aI v ∧ RelR I k rl p J v U) h hn (rokX [k, rl, p]) (rokM [k, rl, p]) ((c_X9_relate h.1 (h.rf hn)).mono fun r M' q => by
    obtain ⟨v, U, I', J', e1, e2, e3, e4, e5⟩ := q
    exact ⟨aI v, U, I', J', e1, e2, ⟨v, rfl, e3⟩, e4.er, e5⟩) (fun I1 J1 a b c d => (m_X10_relate h.1 a b c hi).mono fun r M' q => by
    obtain ⟨v, U, I', e1, e2, e3, e4, e5⟩ := q
    exact ⟨aI v, U, I', J1, e1, e2, ⟨v, rfl, e3⟩, PO.vn e4 c e5 d (fun _ => rfl) rfl⟩) (fun a U a' U' x y => by
    obtain ⟨v, rfl, x⟩ := x
    obtain ⟨w, rfl, y⟩ := y
    obtain ⟨e1, e2⟩ := x.un y
    exact un2 ⟨congrArg aI e1, e2⟩) (fun a U x => by
    obtain ⟨v, rfl, x⟩ := x
    exact x.fit h)
theorem RuleR.fit {L : MJ} (h : INV n I J) {v : Int} {U : MI} (g : RuleR I p s x y L v U) : (∃ L', WX U L') ∧ (∀ i, 52 ≤ i → U i = I i) ∧ CntR2 n U := by
  by_cases c : (0 ≤ p ∧ p < 64) ∧ relP s x y
  · by_cases e : (0 ≤ s ∧ s ≤ 6) ∧ lowP p s x y
    · obtain ⟨g1, g2, g3⟩ := g.2.2 c e
      by_cases d : ringF (ruU I p s x y) L
      · rw [(g2 d).2]; exact ⟨⟨J, h.1.rf _⟩, (FitU.rf h _).2⟩
      · rw [(g3 d).2]
        have kn : ∀ i, i ≠ 4 → i ≠ 5 → i ≠ 6 → ruU I p s x y i = I i := fun i a b c => hld_ne I _ _ _ _ a b c
        have hX := h.1
        have hWr : WRu (ruU I p s x y) := hld_rt (by omega) hX.2.1 c.2 e.1 (by have := e.2; rw [show ((p.toNat : Nat) : Int) = p by omega]; exact this) rfl rfl
        exact ⟨⟨L, hX.put (fun i a b c _ => kn i a b c) hWr g1 d⟩, fun i hi => kn i (by omega) (by omega) (by omega), h.c0 (kn 51 (by decide) (by decide) (by decide))⟩
    · rw [(g.2.1 c e).2]; exact ⟨⟨J, h.1.rf _⟩, (FitU.rf h _).2⟩
  · rw [(g.1 c).2]; exact ⟨⟨J, h.1.rf _⟩, (FitU.rf h _).2⟩
theorem b_rule (h : INV n I J) (hn : n ≤ 900) (hi : inR s) : CT 66 [aR 0, aI p, aI s, aI x, aI y] (MM N I J) (QBoth N n 135 [aR 52, aI p, aI s, aI x, aI y]) :=
  both3 (R := fun L a U => ∃ v, a = aI v ∧ RuleR I p s x y L v U) h hn (rokX [p, s, x, y]) (rokM [p, s, x, y]) ((c_X9_rule h.1 (h.rf hn)).mono fun r M' q => by
    obtain ⟨v, U, L, I', J', e1, e2, e3, e4, e5⟩ := q
    exact ⟨aI v, U, L, I', J', e1, e2, ⟨v, rfl, e3⟩, e4.er, e5⟩) (fun L a U I1 J1 hR m1 m2 m3 m4 => by
    obtain ⟨v, rfl, hR⟩ := hR
    refine (m_X10_rule (L' := L) h.1 m1 m2 m3 hi (fun c e => (hR.2.2 c e).1)).mono fun r M' q => ?_
    obtain ⟨w, U', I', e1, e2, e3, e4, e5⟩ := q
    obtain ⟨rfl, rfl⟩ := hR.un e3
    obtain ⟨⟨L', hX'⟩, -⟩ := hR.fit h
    exact ⟨L', I', J1, e1, e2, hX', PO.vn2 h.1 hX' e4 m3 e5 m4 rfl⟩) (fun L a U hR => by
    obtain ⟨v, rfl, hR⟩ := hR
    exact (hR.fit h).2)
end BOTH2
