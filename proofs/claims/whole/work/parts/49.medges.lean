/-! ===== the reference: who leads to whom ===== -/
theorem sv_par {K : MI} {L : MJ} (h : svOK K L) (hl : rlOK K) : ∀ r, r < 64 → ∀ q, q < 64 → (tb (L 8 r) q = true → q = r ∨ ∃ p, q < p ∧ p < 64 ∧ (4 ≤ K 4 p ∧ K 4 p ≤ 6) ∧ tb (L 8 r) p = true ∧ ((K 5 p).toNat = q ∨ (K 4 p ≠ 6 ∧ (K 6 p).toNat = q))) ∧
    (tb (L 9 r) q = true → ∃ p, q < p ∧ p < 64 ∧ (4 ≤ K 4 p ∧ K 4 p ≤ 6) ∧ ((tb (L 9 r) p = true ∧ ((K 5 p).toNat = q ∨ (K 6 p).toNat = q)) ∨ (tb (L 8 r) p = true ∧ K 4 p = 6 ∧ (K 6 p).toNat = q))) := by
  intro r
  induction r using Nat.strongRecOn with
  | ind r ih =>
    intro hr q hq
    have up8 : ∀ p, p < 64 → ((4 ≤ K 4 r ∧ K 4 r ≤ 6) ∧ (tb (L 8 (K 5 r).toNat) p = true ∨ (K 4 r ≠ 6 ∧ tb (L 8 (K 6 r).toNat) p = true))) → tb (L 8 r) p = true := fun p hp w => (sv_8 h hr hp).mpr (Or.inr w)
    have up9 : ∀ p, ((4 ≤ K 4 r ∧ K 4 r ≤ 6) ∧ (tb (L 9 (K 5 r).toNat) p = true ∨ tb (L 9 (K 6 r).toNat) p = true ∨ (K 4 r = 6 ∧ tb (L 8 (K 6 r).toNat) p = true))) → tb (L 9 r) p = true := fun p w => (sv_9 h hr).mpr w
    have self := sv_self h hr
    constructor
    · intro t
      rw [sv_8 h hr hq] at t
      rcases t with t | ⟨j, t⟩
      · exact Or.inl t
      · right
        have l := hl r hr j.1 j.2
        rcases t with t | ⟨n6, t⟩
        · rcases (ih (K 5 r).toNat (by omega) (by omega) q hq).1 t with e | ⟨p, a, b, c, d, e⟩
          · exact ⟨r, by omega, hr, j, self, Or.inl e.symm⟩
          · exact ⟨p, a, b, c, up8 p b ⟨j, Or.inl d⟩, e⟩
        · rcases (ih (K 6 r).toNat (by omega) (by omega) q hq).1 t with e | ⟨p, a, b, c, d, e⟩
          · exact ⟨r, by omega, hr, j, self, Or.inr ⟨n6, e.symm⟩⟩
          · exact ⟨p, a, b, c, up8 p b ⟨j, Or.inr ⟨n6, d⟩⟩, e⟩
    · intro t
      rw [sv_9 h hr] at t
      obtain ⟨j, t⟩ := t
      have l := hl r hr j.1 j.2
      rcases t with t | t | ⟨e6, t⟩
      · obtain ⟨p, a, b, c, d⟩ := (ih (K 5 r).toNat (by omega) (by omega) q hq).2 t
        refine ⟨p, a, b, c, ?_⟩
        rcases d with ⟨d, e⟩ | ⟨d, e⟩
        · exact Or.inl ⟨up9 p ⟨j, Or.inl d⟩, e⟩
        · exact Or.inr ⟨up8 p b ⟨j, Or.inl d⟩, e⟩
      · obtain ⟨p, a, b, c, d⟩ := (ih (K 6 r).toNat (by omega) (by omega) q hq).2 t
        refine ⟨p, a, b, c, ?_⟩
        rcases d with ⟨d, e⟩ | ⟨d, e⟩
        · exact Or.inl ⟨up9 p ⟨j, Or.inr (Or.inl d)⟩, e⟩
        · by_cases e6 : K 4 r = 6
          · exact Or.inl ⟨up9 p ⟨j, Or.inr (Or.inr ⟨e6, d⟩)⟩, Or.inr e.2⟩
          · exact Or.inr ⟨up8 p b ⟨j, Or.inr ⟨e6, d⟩⟩, e⟩
      · rcases (ih (K 6 r).toNat (by omega) (by omega) q hq).1 t with e | ⟨p, a, b, c, d, e⟩
        · exact ⟨r, by omega, hr, j, Or.inr ⟨self, e6, e.symm⟩⟩
        · refine ⟨p, a, b, c, Or.inl ⟨up9 p ⟨j, Or.inr (Or.inr ⟨e6, d⟩)⟩, ?_⟩⟩
          rcases e with e | e
          · exact Or.inl e
          · exact Or.inr e.2
/-- the reference stands as K says, its rules' closures are L's -/
def EdH (K : MI) (L : MJ) (I : MI) : Prop := WTh K ∧ WRu K ∧ svOK K L ∧ (∀ p : Nat, (p : Int) < K 10 9 → WPr K p) ∧ (0 ≤ K 10 9 ∧ K 10 9 ≤ 400) ∧ WDr K ∧ RTh K I ∧ RRu K I ∧ RPr K I ∧ RDr K I
theorem EdH.keep {K : MI} {L : MJ} {I I' : MI} (h : EdH K L I) (e : ∀ i, 53 ≤ i → i ≤ 76 → I' i = I i) (e1 : I' 52 1 = I 52 1) (e13 : I' 52 13 = I 52 13) (e29 : I' 52 29 = I 52 29) (e30 : I' 52 30 = I 52 30) : EdH K L I' := by
  obtain ⟨a, b, c, d, f, g, h1, h2, h3, h4⟩ := h
  refine ⟨a, b, c, d, f, g, ?_, ?_, ?_, ?_⟩
  · unfold RTh; rw [e1, e 53 (by decide) (by decide)]; exact h1
  · unfold RRu; rw [e 54 (by decide) (by decide), e 55 (by decide) (by decide), e 56 (by decide) (by decide), e 57 (by decide) (by decide), e 58 (by decide) (by decide)]; exact h2
  · unfold RPr; rw [e13, e 59 (by decide) (by decide), e 60 (by decide) (by decide), e 61 (by decide) (by decide), e 62 (by decide) (by decide), e 63 (by decide) (by decide), e 64 (by decide) (by decide)]; exact h3
  · unfold RDr; rw [e29, e30, e 68 (by decide) (by decide), e 69 (by decide) (by decide), e 70 (by decide) (by decide), e 71 (by decide) (by decide), e 72 (by decide) (by decide), e 73 (by decide) (by decide), e 74 (by decide) (by decide), e 75 (by decide) (by decide), e 76 (by decide) (by decide)]; exact h4
theorem EdH.keep0 {K : MI} {L : MJ} {I I' : MI} (h : EdH K L I) (e : ∀ i, i ≤ 76 → I' i = I i) : EdH K L I' := h.keep (fun i _ b => e i b) (by rw [e 52 (by decide)]) (by rw [e 52 (by decide)]) (by rw [e 52 (by decide)]) (by rw [e 52 (by decide)])
/-- want, half way down: all from n on are through -/
def WnI (K : MI) (L : MJ) (r n : Nat) (I0 I : MI) : Prop := (∀ i, i ≠ 80 → i ≠ 81 → I i = I0 i) ∧ I 80 r ≠ 0 ∧ (∀ q, q < 64 → (I 80 q ≠ 0 → askd L r q = true) ∧ (I 81 q ≠ 0 → tb (L 9 r) q = true)) ∧
  ∀ p, n ≤ p → p < 64 → askd L r p = true → 4 ≤ K 4 p → K 4 p ≤ 6 → I 80 (K 5 p).toNat ≠ 0 ∧ I 80 (K 6 p).toNat ≠ 0 ∧ (tb (L 9 r) p = true → I 81 (K 5 p).toNat ≠ 0 ∧ I 81 (K 6 p).toNat ≠ 0) ∧ (K 4 p = 6 → I 81 (K 6 p).toNat ≠ 0)
theorem WnI.full {K : MI} {L : MJ} {r n : Nat} {I0 I : MI} (h : WnI K L r n I0 I) (hs : svOK K L) (hl : rlOK K) (hr : r < 64) {q : Nat} (hq : q < 64) (hn : n ≤ q + 1) : (askd L r q = true → I 80 q ≠ 0) ∧ (tb (L 9 r) q = true → I 81 q ≠ 0) := by
  obtain ⟨h1, h2, h3, h4⟩ := h
  obtain ⟨p8, p9⟩ := sv_par hs hl r hr q hq
  have k9 : tb (L 9 r) q = true → I 81 q ≠ 0 ∧ I 80 q ≠ 0 := by
    intro t
    obtain ⟨p, a, b, c, d⟩ := p9 t
    rcases d with ⟨d, e⟩ | ⟨d, e6, e⟩
    · obtain ⟨g1, g2, g3, g4⟩ := h4 p (by omega) b (askd_or.mpr (Or.inr d)) c.1 c.2
      obtain ⟨g3, g5⟩ := g3 d
      rcases e with e | e
      · rw [e] at g1 g3; exact ⟨g3, g1⟩
      · rw [e] at g2 g5; exact ⟨g5, g2⟩
    · obtain ⟨g1, g2, g3, g4⟩ := h4 p (by omega) b (askd_or.mpr (Or.inl d)) c.1 c.2
      have g4 := g4 e6
      rw [e] at g2 g4
      exact ⟨g4, g2⟩
  refine ⟨fun t => ?_, fun t => (k9 t).1⟩
  rw [askd_or] at t
  rcases t with t | t
  · rcases p8 t with e | ⟨p, a, b, c, d, e⟩
    · rw [e]; exact h2
    · obtain ⟨g1, g2, g3, g4⟩ := h4 p (by omega) b (askd_or.mpr (Or.inl d)) c.1 c.2
      rcases e with e | ⟨-, e⟩
      · rw [e] at g1; exact g1
      · rw [e] at g2; exact g2
  · exact (k9 t).2
theorem WnI.skip {K : MI} {L : MJ} {r p : Nat} {I0 I : MI} (h : WnI K L r (p + 1) I0 I) (hn : askd L r p = true → 4 ≤ K 4 p → K 4 p ≤ 6 → False) : WnI K L r p I0 I := by
  obtain ⟨h1, h2, h3, h4⟩ := h
  refine ⟨h1, h2, h3, fun q a b c d e => ?_⟩
  by_cases w : q = p
  · subst w; exact (hn c d e).elim
  · exact h4 q (by omega) b c d e
theorem WnI.mark {K : MI} {L : MJ} {r p x y : Nat} {I0 I I2 : MI} (h : WnI K L r (p + 1) I0 I) (hs : svOK K L) (hl : rlOK K) (hr : r < 64) (hp : p < 64) (hw : I 80 p ≠ 0) (h4 : 4 ≤ K 4 p) (h6 : K 4 p ≤ 6) (ex : (K 5 p).toNat = x) (ey : (K 6 p).toNat = y)
    (e0 : ∀ i, i ≠ 80 → i ≠ 81 → I2 i = I i) (e80 : ∀ q, I2 80 q = if q = x ∨ q = y then 1 else I 80 q) (e81 : ∀ q, I2 81 q = if (q = x ∧ I 81 p ≠ 0) ∨ (q = y ∧ (I 81 p ≠ 0 ∨ K 4 p = 6)) then 1 else I 81 q) : WnI K L r p I0 I2 := by
  have hf := h.full hs hl hr hp (Nat.le_refl _)
  obtain ⟨h1, h2, h3, h5⟩ := h
  have ha := (h3 p hp).1 hw
  have cl := askd_clo hs hl hr hp h4 h6 ha
  have sc := sv_clo hs hl r hr p hp h4 h6
  have l := hl p hp h4 h6
  have up0 : ∀ q, I 80 q ≠ 0 → I2 80 q ≠ 0 := fun q w => by rw [e80]; split <;> omega
  have up1 : ∀ q, I 81 q ≠ 0 → I2 81 q ≠ 0 := fun q w => by rw [e81]; split <;> omega
  refine ⟨fun i a b => (e0 i a b).trans (h1 i a b), up0 _ h2, fun q hq => ⟨fun w => ?_, fun w => ?_⟩, fun q a b c d e => ?_⟩
  · rw [e80] at w
    split at w
    · rename_i g
      rcases g with g | g
      · rw [g, ← ex]; exact cl.1
      · rw [g, ← ey]; exact cl.2
    · exact (h3 q hq).1 w
  · rw [e81] at w
    split at w
    · rename_i g
      rcases g with ⟨g, g2⟩ | ⟨g, g2⟩
      · rw [g, ← ex]; exact (sc.2 ((h3 p hp).2 g2)).1
      · rw [g, ← ey]
        rcases g2 with g2 | g2
        · exact (sc.2 ((h3 p hp).2 g2)).2
        · rw [askd_or] at ha
          rcases ha with ha | ha
          · exact (sc.1 ha).2.2 g2
          · exact (sc.2 ha).2
    · exact (h3 q hq).2 w
  · by_cases w : q = p
    · subst w
      rw [ex, ey]
      refine ⟨by rw [e80, if_pos (Or.inl rfl)]; decide, by rw [e80, if_pos (Or.inr rfl)]; decide, fun t => ?_, fun t => ?_⟩
      · have := hf.2 t
        exact ⟨by rw [e81, if_pos (Or.inl ⟨rfl, this⟩)]; decide, by rw [e81, if_pos (Or.inr ⟨rfl, Or.inl this⟩)]; decide⟩
      · rw [e81, if_pos (Or.inr ⟨rfl, Or.inr t⟩)]; decide
    · obtain ⟨g1, g2, g3, g4⟩ := h5 q (by omega) b c d e
      exact ⟨up0 _ g1, up0 _ g2, fun t => ⟨up1 _ (g3 t).1, up1 _ (g3 t).2⟩, fun t => up1 _ (g4 t)⟩
theorem l_want2 {N : Nat} {I : MI} {J : MJ} {K : MI} {L : MJ} {r : Nat} (hr : r < 64) (hE : EdH K L I) : ∀ (n : Nat) (I' : MI), n ≤ r + 1 → WnI K L r n I I' → V 126 (39, [some (aR 52), some (aI (r : Int)), some (aI ((n : Int) - 1))], [], MM N I' J) (fun rv M' => rv = none ∧ ∃ I', M' = MM N I' J ∧ (∀ i, i ≠ 80 → i ≠ 81 → I' i = I i) ∧ ∀ q, q < 64 → (I' 80 q ≠ 0 ↔ askd L r q = true) ∧ (I' 81 q ≠ 0 ↔ tb (L 9 r) q = true)) := by
  intro n
  induction n with
  | zero =>
    intro I' h1 hW
    have hl := hE.2.1.rt.2.1
    have hs := hE.2.2.1
    obtain ⟨w1, w2, w3, w4⟩ := hW
    have hF := fun q hq => WnI.full (q := q) ⟨w1, w2, w3, w4⟩ hs hl hr hq (by omega)
    refine V.blk [(39, .iload 2, 1), (40, .ifCond .lt 159, 3)] (ps := []) (z' := (brc .lt (((0 : Nat) : Int) - 1) 0 159 43, [some (aR 52), some (aI (r : Int)), some (aI (((0 : Nat) : Int) - 1))], [], MM N I' J)) (by decide +kernel) rfl trivial ?_
    refine V.lt (fun bh1 => ?_) (fun bh2 => ?_)
    · skip
      refine V.rv (by decide +kernel) ?_
      exact ⟨rfl, I', rfl, w1, fun q hq => ⟨⟨(w3 q hq).1, (hF q hq).1⟩, ⟨(w3 q hq).2, (hF q hq).2⟩⟩⟩
    · skip
      exfalso
      omega
  | succ p ih =>
    intro I' h1 hW
    have hl := hE.2.1.rt.2.1
    have hs := hE.2.2.1
    have hp : p < 64 := by omega
    have hRu := hE.2.2.2.2.2.2.2.1.1 p hp
    have ll := hl p hp
    have g54 : I' 54 p = K 4 p := by rw [hW.1 54 (by decide) (by decide)]; exact hRu.1
    have g55 : 4 ≤ K 4 p → K 4 p ≤ 6 → I' 55 p = K 5 p := fun a b => by rw [hW.1 55 (by decide) (by decide)]; exact hRu.2.1 (by omega) b
    have g56 : 4 ≤ K 4 p → K 4 p ≤ 6 → I' 56 p = K 6 p := fun a b => by rw [hW.1 56 (by decide) (by decide)]; exact hRu.2.2.1 (by omega) b
    rw [show (((p + 1 : Nat) : Int) - 1) = (p : Int) by omega]
    refine V.blk [(39, .iload 2, 1), (40, .ifCond .lt 159, 3)] (ps := []) (z' := (brc .lt (p : Int) 0 159 43, [some (aR 52), some (aI (r : Int)), some (aI (p : Int))], [], MM N I' J)) (by decide +kernel) rfl trivial ?_
    refine V.lt (fun bh1 => ?_) (fun bh2 => ?_)
    · skip
      exfalso
      omega
    · skip
      refine V.blk [(43, .aload 0, 1), (44, .getfield 10035, 3), (47, .iload 2, 1), (48, .baload, 1), (49, .ifCond .eq 153, 3)] (ps := [0 ≤ (p : Int) ∧ (p : Int) < 64]) (z' := (brc .eq (I' 80 p) 0 153 52, [some (aR 52), some (aI (r : Int)), some (aI (p : Int))], [], MM N I' J)) (by decide +kernel) rfl (show (0 ≤ (p : Int) ∧ (p : Int) < 64) from (by first | omega | (rw [x55]; omega) | (rw [x56]; omega) | (simp [ma, x56]; omega) | (rw [n55]; omega) | (rw [n56]; omega) | (rw [o56]; omega) | (rw [o55]; omega))) ?_
      refine V.eq (fun bh3 => ?_) (fun bh4 => ?_)
      · skip
        refine V.blk [(153, .iinc 2 (-1), 3), (156, .goto 39, 3)] (ps := [inR ((p : Int) + (-1))]) (z' := (39, [some (aR 52), some (aI (r : Int)), some (aI ((p : Int) + (-1)))], [], MM N I' J)) (by decide +kernel) rfl (show (inR ((p : Int) + (-1))) from (by unfold inR; first | omega | (rw [x55]; omega) | (rw [x56]; omega) | (simp [ma, x56]; omega) | (rw [n55]; omega) | (rw [n56]; omega) | (rw [o56]; omega) | (rw [o55]; omega))) ?_
        rw [show ((p : Int) + (-1)) = (p : Int) - 1 by omega]
        refine ih I' (by omega) (hW.skip fun a b c => ?_)
        first
          | (exfalso; omega)
          | (have := (hW.full hs hl hr hp (Nat.le_refl _)).1 a
             exact this (by assumption))
      · skip
        refine V.blk [(52, .aload 0, 1), (53, .getfield 10002, 3), (56, .iload 2, 1), (57, .iaload, 1), (58, .bipush 4, 1), (59, .if_icmp .lt 153, 3)] (ps := [0 ≤ (p : Int) ∧ (p : Int) < 64]) (z' := (brc .lt (I' 54 p) 4 153 62, [some (aR 52), some (aI (r : Int)), some (aI (p : Int))], [], MM N I' J)) (by decide +kernel) rfl (show (0 ≤ (p : Int) ∧ (p : Int) < 64) from (by first | omega | (rw [x55]; omega) | (rw [x56]; omega) | (simp [ma, x56]; omega) | (rw [n55]; omega) | (rw [n56]; omega) | (rw [o56]; omega) | (rw [o55]; omega))) ?_
        refine V.lt (fun bh5 => ?_) (fun bh6 => ?_)
        · skip
          refine V.blk [(153, .iinc 2 (-1), 3), (156, .goto 39, 3)] (ps := [inR ((p : Int) + (-1))]) (z' := (39, [some (aR 52), some (aI (r : Int)), some (aI ((p : Int) + (-1)))], [], MM N I' J)) (by decide +kernel) rfl (show (inR ((p : Int) + (-1))) from (by unfold inR; first | omega | (rw [x55]; omega) | (rw [x56]; omega) | (simp [ma, x56]; omega) | (rw [n55]; omega) | (rw [n56]; omega) | (rw [o56]; omega) | (rw [o55]; omega))) ?_
          rw [show ((p : Int) + (-1)) = (p : Int) - 1 by omega]
          refine ih I' (by omega) (hW.skip fun a b c => ?_)
          first
            | (exfalso; omega)
            | (have := (hW.full hs hl hr hp (Nat.le_refl _)).1 a
               exact this (by assumption))
        · skip
          refine V.blk [(62, .aload 0, 1), (63, .getfield 10002, 3), (66, .iload 2, 1), (67, .iaload, 1), (68, .bipush 6, 2), (70, .if_icmp .le 76, 3)] (ps := [0 ≤ (p : Int) ∧ (p : Int) < 64]) (z' := (brc .le (I' 54 p) 6 76 73, [some (aR 52), some (aI (r : Int)), some (aI (p : Int))], [], MM N I' J)) (by decide +kernel) rfl (show (0 ≤ (p : Int) ∧ (p : Int) < 64) from (by first | omega | (rw [x55]; omega) | (rw [x56]; omega) | (simp [ma, x56]; omega) | (rw [n55]; omega) | (rw [n56]; omega) | (rw [o56]; omega) | (rw [o55]; omega))) ?_
          refine V.le (fun bh7 => ?_) (fun bh8 => ?_)
          · skip
            have k4 : 4 ≤ K 4 p ∧ K 4 p ≤ 6 := by omega
            have x55 := g55 k4.1 k4.2
            have x56 := g56 k4.1 k4.2
            have lp := ll k4.1 k4.2
            have hw0 : I' 80 p ≠ 0 := by assumption
            refine V.blk [(76, .aload 0, 1), (77, .getfield 10035, 3), (80, .aload 0, 1), (81, .getfield 10003, 3), (84, .iload 2, 1), (85, .iaload, 1), (86, .bipush 1, 1), (87, .bastore, 1), (88, .aload 0, 1), (89, .getfield 10035, 3), (92, .aload 0, 1), (93, .getfield 10004, 3), (96, .iload 2, 1), (97, .iaload, 1), (98, .bipush 1, 1), (99, .bastore, 1)] (ps := [0 ≤ (p : Int) ∧ (p : Int) < 64, 0 ≤ (I' 55 p) ∧ (I' 55 p) < 64, 0 ≤ 1 ∧ 1 ≤ 1, 0 ≤ (p : Int) ∧ (p : Int) < 64, 0 ≤ ((ma I' 80 (ma (I' 80) ((I' 55 p).toNat) 1)) 56 p) ∧ ((ma I' 80 (ma (I' 80) ((I' 55 p).toNat) 1)) 56 p) < 64, 0 ≤ 1 ∧ 1 ≤ 1]) (z' := (100, [some (aR 52), some (aI (r : Int)), some (aI (p : Int))], [], MM N (ma (ma I' 80 (ma (I' 80) ((I' 55 p).toNat) 1)) 80 (ma ((ma I' 80 (ma (I' 80) ((I' 55 p).toNat) 1)) 80) (((ma I' 80 (ma (I' 80) ((I' 55 p).toNat) 1)) 56 p).toNat) 1)) J)) (by decide +kernel) rfl (show (0 ≤ (p : Int) ∧ (p : Int) < 64) ∧ (0 ≤ (I' 55 p) ∧ (I' 55 p) < 64) ∧ (0 ≤ 1 ∧ 1 ≤ 1) ∧ (0 ≤ (p : Int) ∧ (p : Int) < 64) ∧ (0 ≤ ((ma I' 80 (ma (I' 80) ((I' 55 p).toNat) 1)) 56 p) ∧ ((ma I' 80 (ma (I' 80) ((I' 55 p).toNat) 1)) 56 p) < 64) ∧ (0 ≤ 1 ∧ 1 ≤ 1) from ⟨(by first | omega | (rw [x55]; omega) | (rw [x56]; omega) | (simp [ma, x56]; omega) | (rw [n55]; omega) | (rw [n56]; omega) | (rw [o56]; omega) | (rw [o55]; omega)), (by first | omega | (rw [x55]; omega) | (rw [x56]; omega) | (simp [ma, x56]; omega) | (rw [n55]; omega) | (rw [n56]; omega) | (rw [o56]; omega) | (rw [o55]; omega)), (by first | omega | (rw [x55]; omega) | (rw [x56]; omega) | (simp [ma, x56]; omega) | (rw [n55]; omega) | (rw [n56]; omega) | (rw [o56]; omega) | (rw [o55]; omega)), (by first | omega | (rw [x55]; omega) | (rw [x56]; omega) | (simp [ma, x56]; omega) | (rw [n55]; omega) | (rw [n56]; omega) | (rw [o56]; omega) | (rw [o55]; omega)), (by first | omega | (rw [x55]; omega) | (rw [x56]; omega) | (simp [ma, x56]; omega) | (rw [n55]; omega) | (rw [n56]; omega) | (rw [o56]; omega) | (rw [o55]; omega)), (by first | omega | (rw [x55]; omega) | (rw [x56]; omega) | (simp [ma, x56]; omega) | (rw [n55]; omega) | (rw [n56]; omega) | (rw [o56]; omega) | (rw [o55]; omega))⟩) ?_
            refine V.nI (fun I9 eI9 => ?_)
            have m0 : ∀ i, i ≠ 80 → I9 i = I' i := fun i a => by rw [eI9]; simp [ma_ne, a]
            have m80 : ∀ q, I9 80 q = if q = (K 5 p).toNat ∨ q = (K 6 p).toNat then 1 else I' 80 q := fun q => by
              rw [eI9]
              simp only [ma_self, ma_ma, ma_ne, ne_eq, reduceCtorEq, not_false_eq_true, x55, x56, Nat.reduceEqDiff]
              unfold ma
              by_cases c1 : q = (K 6 p).toNat
              · rw [if_pos c1, if_pos (Or.inr c1)]
              · rw [if_neg c1]
                by_cases c2 : q = (K 5 p).toNat
                · rw [if_pos c2, if_pos (Or.inl c2)]
                · rw [if_neg c2, if_neg (by omega)]
            clear eI9
            have n55 : I9 55 p = K 5 p := by rw [m0 55 (by decide)]; exact x55
            have n56 : I9 56 p = K 6 p := by rw [m0 56 (by decide)]; exact x56
            have n54 : I9 54 p = K 4 p := by rw [m0 54 (by decide)]; exact g54
            have n81 : I9 81 = I' 81 := m0 81 (by decide)
            refine V.blk [(100, .aload 0, 1), (101, .getfield 10036, 3), (104, .iload 2, 1), (105, .baload, 1), (106, .ifCond .eq 121, 3)] (ps := [0 ≤ (p : Int) ∧ (p : Int) < 64]) (z' := (brc .eq (I9 81 p) 0 121 109, [some (aR 52), some (aI (r : Int)), some (aI (p : Int))], [], MM N I9 J)) (by decide +kernel) rfl (show (0 ≤ (p : Int) ∧ (p : Int) < 64) from (by first | omega | (rw [x55]; omega) | (rw [x56]; omega) | (simp [ma, x56]; omega) | (rw [n55]; omega) | (rw [n56]; omega) | (rw [o56]; omega) | (rw [o55]; omega))) ?_
            refine V.eq (fun bh10 => ?_) (fun bh11 => ?_)
            · skip
              refine V.blk [(121, .aload 0, 1), (122, .getfield 10036, 3), (125, .iload 2, 1), (126, .baload, 1), (127, .ifCond .ne 141, 3)] (ps := [0 ≤ (p : Int) ∧ (p : Int) < 64]) (z' := (brc .ne (I9 81 p) 0 141 130, [some (aR 52), some (aI (r : Int)), some (aI (p : Int))], [], MM N I9 J)) (by decide +kernel) rfl (show (0 ≤ (p : Int) ∧ (p : Int) < 64) from (by first | omega | (rw [x55]; omega) | (rw [x56]; omega) | (simp [ma, x56]; omega) | (rw [n55]; omega) | (rw [n56]; omega) | (rw [o56]; omega) | (rw [o55]; omega))) ?_
              refine V.ne (fun bh12 => ?_) (fun bh13 => ?_)
              · skip
                refine V.blk [(141, .aload 0, 1), (142, .getfield 10036, 3), (145, .aload 0, 1), (146, .getfield 10004, 3), (149, .iload 2, 1), (150, .iaload, 1), (151, .bipush 1, 1), (152, .bastore, 1), (153, .iinc 2 (-1), 3), (156, .goto 39, 3)] (ps := [0 ≤ (p : Int) ∧ (p : Int) < 64, 0 ≤ (I9 56 p) ∧ (I9 56 p) < 64, 0 ≤ 1 ∧ 1 ≤ 1, inR ((p : Int) + (-1))]) (z' := (39, [some (aR 52), some (aI (r : Int)), some (aI ((p : Int) + (-1)))], [], MM N (ma I9 81 (ma (I9 81) ((I9 56 p).toNat) 1)) J)) (by decide +kernel) rfl (show (0 ≤ (p : Int) ∧ (p : Int) < 64) ∧ (0 ≤ (I9 56 p) ∧ (I9 56 p) < 64) ∧ (0 ≤ 1 ∧ 1 ≤ 1) ∧ (inR ((p : Int) + (-1))) from ⟨(by first | omega | (rw [x55]; omega) | (rw [x56]; omega) | (simp [ma, x56]; omega) | (rw [n55]; omega) | (rw [n56]; omega) | (rw [o56]; omega) | (rw [o55]; omega)), (by first | omega | (rw [x55]; omega) | (rw [x56]; omega) | (simp [ma, x56]; omega) | (rw [n55]; omega) | (rw [n56]; omega) | (rw [o56]; omega) | (rw [o55]; omega)), (by first | omega | (rw [x55]; omega) | (rw [x56]; omega) | (simp [ma, x56]; omega) | (rw [n55]; omega) | (rw [n56]; omega) | (rw [o56]; omega) | (rw [o55]; omega)), (by unfold inR; first | omega | (rw [x55]; omega) | (rw [x56]; omega) | (simp [ma, x56]; omega) | (rw [n55]; omega) | (rw [n56]; omega) | (rw [o56]; omega) | (rw [o55]; omega))⟩) ?_
                refine V.nI (fun I14 eI14 => ?_)
                rw [show ((p : Int) + (-1)) = (p : Int) - 1 by omega]
                refine ih I14 (by omega) (hW.mark hs hl hr hp hw0 k4.1 k4.2 rfl rfl (fun i a b => ?_) (fun q => ?_) (fun q => ?_))
                · subst_vars
                  try simp only [ma_ne, ne_eq, b, not_false_eq_true]
                  exact m0 i a
                · subst_vars
                  try simp only [ma_ne, ne_eq, reduceCtorEq, not_false_eq_true, Nat.reduceEqDiff]
                  exact m80 q
                · have w81 : ∀ q, I9 81 q = I' 81 q := fun q => by rw [n81]
                  subst_vars
                  simp only [ma_self, ma_ne, ne_eq, reduceCtorEq, not_false_eq_true, Nat.reduceEqDiff] at *
                  simp only [ma, n55, n56, n81] at *
                  split <;> (try split) <;> first | rfl | omega
              · skip
                refine V.blk [(130, .aload 0, 1), (131, .getfield 10002, 3), (134, .iload 2, 1), (135, .iaload, 1), (136, .bipush 6, 2), (138, .if_icmp .ne 153, 3)] (ps := [0 ≤ (p : Int) ∧ (p : Int) < 64]) (z' := (brc .ne (I9 54 p) 6 153 141, [some (aR 52), some (aI (r : Int)), some (aI (p : Int))], [], MM N I9 J)) (by decide +kernel) rfl (show (0 ≤ (p : Int) ∧ (p : Int) < 64) from (by first | omega | (rw [x55]; omega) | (rw [x56]; omega) | (simp [ma, x56]; omega) | (rw [n55]; omega) | (rw [n56]; omega) | (rw [o56]; omega) | (rw [o55]; omega))) ?_
                refine V.ne (fun bh15 => ?_) (fun bh16 => ?_)
                · skip
                  refine V.blk [(153, .iinc 2 (-1), 3), (156, .goto 39, 3)] (ps := [inR ((p : Int) + (-1))]) (z' := (39, [some (aR 52), some (aI (r : Int)), some (aI ((p : Int) + (-1)))], [], MM N I9 J)) (by decide +kernel) rfl (show (inR ((p : Int) + (-1))) from (by unfold inR; first | omega | (rw [x55]; omega) | (rw [x56]; omega) | (simp [ma, x56]; omega) | (rw [n55]; omega) | (rw [n56]; omega) | (rw [o56]; omega) | (rw [o55]; omega))) ?_
                  rw [show ((p : Int) + (-1)) = (p : Int) - 1 by omega]
                  refine ih I9 (by omega) (hW.mark hs hl hr hp hw0 k4.1 k4.2 rfl rfl (fun i a b => ?_) (fun q => ?_) (fun q => ?_))
                  · subst_vars
                    try simp only [ma_ne, ne_eq, b, not_false_eq_true]
                    exact m0 i a
                  · subst_vars
                    try simp only [ma_ne, ne_eq, reduceCtorEq, not_false_eq_true, Nat.reduceEqDiff]
                    exact m80 q
                  · have w81 : ∀ q, I9 81 q = I' 81 q := fun q => by rw [n81]
                    subst_vars
                    simp only [ma_self, ma_ne, ne_eq, reduceCtorEq, not_false_eq_true, Nat.reduceEqDiff] at *
                    simp only [ma, n55, n56, n81] at *
                    split <;> (try split) <;> first | rfl | omega
                · skip
                  refine V.blk [(141, .aload 0, 1), (142, .getfield 10036, 3), (145, .aload 0, 1), (146, .getfield 10004, 3), (149, .iload 2, 1), (150, .iaload, 1), (151, .bipush 1, 1), (152, .bastore, 1), (153, .iinc 2 (-1), 3), (156, .goto 39, 3)] (ps := [0 ≤ (p : Int) ∧ (p : Int) < 64, 0 ≤ (I9 56 p) ∧ (I9 56 p) < 64, 0 ≤ 1 ∧ 1 ≤ 1, inR ((p : Int) + (-1))]) (z' := (39, [some (aR 52), some (aI (r : Int)), some (aI ((p : Int) + (-1)))], [], MM N (ma I9 81 (ma (I9 81) ((I9 56 p).toNat) 1)) J)) (by decide +kernel) rfl (show (0 ≤ (p : Int) ∧ (p : Int) < 64) ∧ (0 ≤ (I9 56 p) ∧ (I9 56 p) < 64) ∧ (0 ≤ 1 ∧ 1 ≤ 1) ∧ (inR ((p : Int) + (-1))) from ⟨(by first | omega | (rw [x55]; omega) | (rw [x56]; omega) | (simp [ma, x56]; omega) | (rw [n55]; omega) | (rw [n56]; omega) | (rw [o56]; omega) | (rw [o55]; omega)), (by first | omega | (rw [x55]; omega) | (rw [x56]; omega) | (simp [ma, x56]; omega) | (rw [n55]; omega) | (rw [n56]; omega) | (rw [o56]; omega) | (rw [o55]; omega)), (by first | omega | (rw [x55]; omega) | (rw [x56]; omega) | (simp [ma, x56]; omega) | (rw [n55]; omega) | (rw [n56]; omega) | (rw [o56]; omega) | (rw [o55]; omega)), (by unfold inR; first | omega | (rw [x55]; omega) | (rw [x56]; omega) | (simp [ma, x56]; omega) | (rw [n55]; omega) | (rw [n56]; omega) | (rw [o56]; omega) | (rw [o55]; omega))⟩) ?_
                  refine V.nI (fun I17 eI17 => ?_)
                  rw [show ((p : Int) + (-1)) = (p : Int) - 1 by omega]
                  refine ih I17 (by omega) (hW.mark hs hl hr hp hw0 k4.1 k4.2 rfl rfl (fun i a b => ?_) (fun q => ?_) (fun q => ?_))
                  · subst_vars
                    try simp only [ma_ne, ne_eq, b, not_false_eq_true]
                    exact m0 i a
                  · subst_vars
                    try simp only [ma_ne, ne_eq, reduceCtorEq, not_false_eq_true, Nat.reduceEqDiff]
                    exact m80 q
                  · have w81 : ∀ q, I9 81 q = I' 81 q := fun q => by rw [n81]
                    subst_vars
                    simp only [ma_self, ma_ne, ne_eq, reduceCtorEq, not_false_eq_true, Nat.reduceEqDiff] at *
                    simp only [ma, n55, n56, n81] at *
                    split <;> (try split) <;> first | rfl | omega
            · skip
              refine V.blk [(109, .aload 0, 1), (110, .getfield 10036, 3), (113, .aload 0, 1), (114, .getfield 10003, 3), (117, .iload 2, 1), (118, .iaload, 1), (119, .bipush 1, 1), (120, .bastore, 1)] (ps := [0 ≤ (p : Int) ∧ (p : Int) < 64, 0 ≤ (I9 55 p) ∧ (I9 55 p) < 64, 0 ≤ 1 ∧ 1 ≤ 1]) (z' := (121, [some (aR 52), some (aI (r : Int)), some (aI (p : Int))], [], MM N (ma I9 81 (ma (I9 81) ((I9 55 p).toNat) 1)) J)) (by decide +kernel) rfl (show (0 ≤ (p : Int) ∧ (p : Int) < 64) ∧ (0 ≤ (I9 55 p) ∧ (I9 55 p) < 64) ∧ (0 ≤ 1 ∧ 1 ≤ 1) from ⟨(by first | omega | (rw [x55]; omega) | (rw [x56]; omega) | (simp [ma, x56]; omega) | (rw [n55]; omega) | (rw [n56]; omega) | (rw [o56]; omega) | (rw [o55]; omega)), (by first | omega | (rw [x55]; omega) | (rw [x56]; omega) | (simp [ma, x56]; omega) | (rw [n55]; omega) | (rw [n56]; omega) | (rw [o56]; omega) | (rw [o55]; omega)), (by first | omega | (rw [x55]; omega) | (rw [x56]; omega) | (simp [ma, x56]; omega) | (rw [n55]; omega) | (rw [n56]; omega) | (rw [o56]; omega) | (rw [o55]; omega))⟩) ?_
              refine V.nI (fun I18 eI18 => ?_)
              have o55 : I18 55 p = K 5 p := by rw [eI18, ma_ne _ _ (by decide)]; exact n55
              have o56 : I18 56 p = K 6 p := by rw [eI18, ma_ne _ _ (by decide)]; exact n56
              have o54 : I18 54 p = K 4 p := by rw [eI18, ma_ne _ _ (by decide)]; exact n54
              have o81 : I18 81 p = I' 81 p := by rw [eI18, ma_self, ma_ne _ _ (by omega), n81]
              refine V.blk [(121, .aload 0, 1), (122, .getfield 10036, 3), (125, .iload 2, 1), (126, .baload, 1), (127, .ifCond .ne 141, 3)] (ps := [0 ≤ (p : Int) ∧ (p : Int) < 64]) (z' := (brc .ne (I18 81 p) 0 141 130, [some (aR 52), some (aI (r : Int)), some (aI (p : Int))], [], MM N I18 J)) (by decide +kernel) rfl (show (0 ≤ (p : Int) ∧ (p : Int) < 64) from (by first | omega | (rw [x55]; omega) | (rw [x56]; omega) | (simp [ma, x56]; omega) | (rw [n55]; omega) | (rw [n56]; omega) | (rw [o56]; omega) | (rw [o55]; omega))) ?_
              refine V.ne (fun bh19 => ?_) (fun bh20 => ?_)
              · skip
                refine V.blk [(141, .aload 0, 1), (142, .getfield 10036, 3), (145, .aload 0, 1), (146, .getfield 10004, 3), (149, .iload 2, 1), (150, .iaload, 1), (151, .bipush 1, 1), (152, .bastore, 1), (153, .iinc 2 (-1), 3), (156, .goto 39, 3)] (ps := [0 ≤ (p : Int) ∧ (p : Int) < 64, 0 ≤ (I18 56 p) ∧ (I18 56 p) < 64, 0 ≤ 1 ∧ 1 ≤ 1, inR ((p : Int) + (-1))]) (z' := (39, [some (aR 52), some (aI (r : Int)), some (aI ((p : Int) + (-1)))], [], MM N (ma I18 81 (ma (I18 81) ((I18 56 p).toNat) 1)) J)) (by decide +kernel) rfl (show (0 ≤ (p : Int) ∧ (p : Int) < 64) ∧ (0 ≤ (I18 56 p) ∧ (I18 56 p) < 64) ∧ (0 ≤ 1 ∧ 1 ≤ 1) ∧ (inR ((p : Int) + (-1))) from ⟨(by first | omega | (rw [x55]; omega) | (rw [x56]; omega) | (simp [ma, x56]; omega) | (rw [n55]; omega) | (rw [n56]; omega) | (rw [o56]; omega) | (rw [o55]; omega)), (by first | omega | (rw [x55]; omega) | (rw [x56]; omega) | (simp [ma, x56]; omega) | (rw [n55]; omega) | (rw [n56]; omega) | (rw [o56]; omega) | (rw [o55]; omega)), (by first | omega | (rw [x55]; omega) | (rw [x56]; omega) | (simp [ma, x56]; omega) | (rw [n55]; omega) | (rw [n56]; omega) | (rw [o56]; omega) | (rw [o55]; omega)), (by unfold inR; first | omega | (rw [x55]; omega) | (rw [x56]; omega) | (simp [ma, x56]; omega) | (rw [n55]; omega) | (rw [n56]; omega) | (rw [o56]; omega) | (rw [o55]; omega))⟩) ?_
                refine V.nI (fun I21 eI21 => ?_)
                rw [show ((p : Int) + (-1)) = (p : Int) - 1 by omega]
                refine ih I21 (by omega) (hW.mark hs hl hr hp hw0 k4.1 k4.2 rfl rfl (fun i a b => ?_) (fun q => ?_) (fun q => ?_))
                · subst_vars
                  try simp only [ma_ne, ne_eq, b, not_false_eq_true]
                  exact m0 i a
                · subst_vars
                  try simp only [ma_ne, ne_eq, reduceCtorEq, not_false_eq_true, Nat.reduceEqDiff]
                  exact m80 q
                · have w81 : ∀ q, I9 81 q = I' 81 q := fun q => by rw [n81]
                  subst_vars
                  simp only [ma_self, ma_ne, ne_eq, reduceCtorEq, not_false_eq_true, Nat.reduceEqDiff] at *
                  simp only [ma, n55, n56, n81] at *
                  split <;> (try split) <;> first | rfl | omega
              · skip
                refine V.blk [(130, .aload 0, 1), (131, .getfield 10002, 3), (134, .iload 2, 1), (135, .iaload, 1), (136, .bipush 6, 2), (138, .if_icmp .ne 153, 3)] (ps := [0 ≤ (p : Int) ∧ (p : Int) < 64]) (z' := (brc .ne (I18 54 p) 6 153 141, [some (aR 52), some (aI (r : Int)), some (aI (p : Int))], [], MM N I18 J)) (by decide +kernel) rfl (show (0 ≤ (p : Int) ∧ (p : Int) < 64) from (by first | omega | (rw [x55]; omega) | (rw [x56]; omega) | (simp [ma, x56]; omega) | (rw [n55]; omega) | (rw [n56]; omega) | (rw [o56]; omega) | (rw [o55]; omega))) ?_
                refine V.ne (fun bh22 => ?_) (fun bh23 => ?_)
                · skip
                  refine V.blk [(153, .iinc 2 (-1), 3), (156, .goto 39, 3)] (ps := [inR ((p : Int) + (-1))]) (z' := (39, [some (aR 52), some (aI (r : Int)), some (aI ((p : Int) + (-1)))], [], MM N I18 J)) (by decide +kernel) rfl (show (inR ((p : Int) + (-1))) from (by unfold inR; first | omega | (rw [x55]; omega) | (rw [x56]; omega) | (simp [ma, x56]; omega) | (rw [n55]; omega) | (rw [n56]; omega) | (rw [o56]; omega) | (rw [o55]; omega))) ?_
                  rw [show ((p : Int) + (-1)) = (p : Int) - 1 by omega]
                  refine ih I18 (by omega) (hW.mark hs hl hr hp hw0 k4.1 k4.2 rfl rfl (fun i a b => ?_) (fun q => ?_) (fun q => ?_))
                  · subst_vars
                    try simp only [ma_ne, ne_eq, b, not_false_eq_true]
                    exact m0 i a
                  · subst_vars
                    try simp only [ma_ne, ne_eq, reduceCtorEq, not_false_eq_true, Nat.reduceEqDiff]
                    exact m80 q
                  · have w81 : ∀ q, I9 81 q = I' 81 q := fun q => by rw [n81]
                    subst_vars
                    simp only [ma_self, ma_ne, ne_eq, reduceCtorEq, not_false_eq_true, Nat.reduceEqDiff] at *
                    simp only [ma, n55, n56, n81] at *
                    split <;> (try split) <;> first | rfl | omega
                · skip
                  refine V.blk [(141, .aload 0, 1), (142, .getfield 10036, 3), (145, .aload 0, 1), (146, .getfield 10004, 3), (149, .iload 2, 1), (150, .iaload, 1), (151, .bipush 1, 1), (152, .bastore, 1), (153, .iinc 2 (-1), 3), (156, .goto 39, 3)] (ps := [0 ≤ (p : Int) ∧ (p : Int) < 64, 0 ≤ (I18 56 p) ∧ (I18 56 p) < 64, 0 ≤ 1 ∧ 1 ≤ 1, inR ((p : Int) + (-1))]) (z' := (39, [some (aR 52), some (aI (r : Int)), some (aI ((p : Int) + (-1)))], [], MM N (ma I18 81 (ma (I18 81) ((I18 56 p).toNat) 1)) J)) (by decide +kernel) rfl (show (0 ≤ (p : Int) ∧ (p : Int) < 64) ∧ (0 ≤ (I18 56 p) ∧ (I18 56 p) < 64) ∧ (0 ≤ 1 ∧ 1 ≤ 1) ∧ (inR ((p : Int) + (-1))) from ⟨(by first | omega | (rw [x55]; omega) | (rw [x56]; omega) | (simp [ma, x56]; omega) | (rw [n55]; omega) | (rw [n56]; omega) | (rw [o56]; omega) | (rw [o55]; omega)), (by first | omega | (rw [x55]; omega) | (rw [x56]; omega) | (simp [ma, x56]; omega) | (rw [n55]; omega) | (rw [n56]; omega) | (rw [o56]; omega) | (rw [o55]; omega)), (by first | omega | (rw [x55]; omega) | (rw [x56]; omega) | (simp [ma, x56]; omega) | (rw [n55]; omega) | (rw [n56]; omega) | (rw [o56]; omega) | (rw [o55]; omega)), (by unfold inR; first | omega | (rw [x55]; omega) | (rw [x56]; omega) | (simp [ma, x56]; omega) | (rw [n55]; omega) | (rw [n56]; omega) | (rw [o56]; omega) | (rw [o55]; omega))⟩) ?_
                  refine V.nI (fun I24 eI24 => ?_)
                  rw [show ((p : Int) + (-1)) = (p : Int) - 1 by omega]
                  refine ih I24 (by omega) (hW.mark hs hl hr hp hw0 k4.1 k4.2 rfl rfl (fun i a b => ?_) (fun q => ?_) (fun q => ?_))
                  · subst_vars
                    try simp only [ma_ne, ne_eq, b, not_false_eq_true]
                    exact m0 i a
                  · subst_vars
                    try simp only [ma_ne, ne_eq, reduceCtorEq, not_false_eq_true, Nat.reduceEqDiff]
                    exact m80 q
                  · have w81 : ∀ q, I9 81 q = I' 81 q := fun q => by rw [n81]
                    subst_vars
                    simp only [ma_self, ma_ne, ne_eq, reduceCtorEq, not_false_eq_true, Nat.reduceEqDiff] at *
                    simp only [ma, n55, n56, n81] at *
                    split <;> (try split) <;> first | rfl | omega
          · skip
            refine V.blk [(73, .goto 153, 3), (153, .iinc 2 (-1), 3), (156, .goto 39, 3)] (ps := [inR ((p : Int) + (-1))]) (z' := (39, [some (aR 52), some (aI (r : Int)), some (aI ((p : Int) + (-1)))], [], MM N I' J)) (by decide +kernel) rfl (show (inR ((p : Int) + (-1))) from (by unfold inR; first | omega | (rw [x55]; omega) | (rw [x56]; omega) | (simp [ma, x56]; omega) | (rw [n55]; omega) | (rw [n56]; omega) | (rw [o56]; omega) | (rw [o55]; omega))) ?_
            rw [show ((p : Int) + (-1)) = (p : Int) - 1 by omega]
            refine ih I' (by omega) (hW.skip fun a b c => ?_)
            first
              | (exfalso; omega)
              | (have := (hW.full hs hl hr hp (Nat.le_refl _)).1 a
                 exact this (by assumption))
