/-! ===== one call of both: name, empty ===== -/
theorem hld_v (I : MI) (q : Nat) (s x y : Int) : hldU I q s x y 4 = ma (I 4) q s ∧ hldU I q s x y 5 = ma (I 5) q x ∧ hldU I q s x y 6 = ma (I 6) q y := by
  unfold hldU
  refine ⟨?_, ?_, ?_⟩
  · rw [ma_ne _ _ (by decide), ma_ne _ _ (by decide), ma_self]
  · rw [ma_ne _ _ (by decide), ma_self]
  · rw [ma_self]
/-- a place that holds no rule makes the others ask no more than they did -/
theorem hld_sv {I : MI} {J L : MJ} {q : Nat} {s x y : Int} (hs : s = 7 ∨ s = -1) (hl : rlOK I) (h : svOK I J) (g : svOK (hldU I q s x y) L) : ∀ m r, r < m → r < 64 → ∀ p, p < 64 → (tb (L 8 r) p = true → p = q ∨ tb (J 8 r) p = true) ∧ (tb (L 9 r) p = true → p = q ∨ tb (J 9 r) p = true) := by
  obtain ⟨e4, e5, e6⟩ := hld_v I q s x y
  intro m
  induction m with
  | zero => intro r hr; omega
  | succ m ih =>
    intro r hrm hr p hp
    by_cases e : r = q
    · have k4 : hldU I q s x y 4 r = s := by rw [e4, e, ma_self]
      constructor
      · intro a
        rw [sv_8 g hr hp, k4] at a
        rcases a with a | a
        · exact Or.inl (a.trans e)
        · exact absurd a.1 (by omega)
      · intro a
        rw [sv_9 g hr, k4] at a
        exact absurd a.1 (by omega)
    · have k4 : hldU I q s x y 4 r = I 4 r := by rw [e4, ma_ne _ _ e]
      have k5 : hldU I q s x y 5 r = I 5 r := by rw [e5, ma_ne _ _ e]
      have k6 : hldU I q s x y 6 r = I 6 r := by rw [e6, ma_ne _ _ e]
      constructor
      · intro a
        rw [sv_8 g hr hp, k4, k5, k6] at a
        rcases a with a | ⟨c, a⟩
        · exact Or.inr ((sv_8 h hr hp).mpr (Or.inl a))
        · have low := hl r hr c.1 c.2
          rcases a with a | ⟨c6, a⟩
          · rcases (ih (I 5 r).toNat (by omega) (by omega) p hp).1 a with b | b
            · exact Or.inl b
            · exact Or.inr ((sv_8 h hr hp).mpr (Or.inr ⟨c, Or.inl b⟩))
          · rcases (ih (I 6 r).toNat (by omega) (by omega) p hp).1 a with b | b
            · exact Or.inl b
            · exact Or.inr ((sv_8 h hr hp).mpr (Or.inr ⟨c, Or.inr ⟨c6, b⟩⟩))
      · intro a
        rw [sv_9 g hr, k4, k5, k6] at a
        obtain ⟨c, a⟩ := a
        have low := hl r hr c.1 c.2
        rcases a with a | a | ⟨c6, a⟩
        · rcases (ih (I 5 r).toNat (by omega) (by omega) p hp).2 a with b | b
          · exact Or.inl b
          · exact Or.inr ((sv_9 h hr).mpr ⟨c, Or.inl b⟩)
        · rcases (ih (I 6 r).toNat (by omega) (by omega) p hp).2 a with b | b
          · exact Or.inl b
          · exact Or.inr ((sv_9 h hr).mpr ⟨c, Or.inr (Or.inl b)⟩)
        · rcases (ih (I 6 r).toNat (by omega) (by omega) p hp).1 a with b | b
          · exact Or.inl b
          · exact Or.inr ((sv_9 h hr).mpr ⟨c, Or.inr (Or.inr ⟨c6, b⟩)⟩)
theorem hld_ask {I : MI} {q p n i m : Nat} {s x y : Int} (hs : s = 7 ∨ s = -1) (h : askQ (hldU I q s x y) m p n i) : p ≠ q ∧ askQ I m p n i := by
  obtain ⟨e4, e5, e6⟩ := hld_v I q s x y
  have nn : ∀ i, i ≠ 4 → i ≠ 5 → i ≠ 6 → hldU I q s x y i = I i := fun i a b c => hld_ne I _ _ _ _ a b c
  have hp : p ≠ q := by
    intro e
    unfold askQ at h
    rw [e4, e, ma_self] at h
    rcases h with ⟨c, -⟩ | ⟨c, -⟩ | ⟨c, -⟩ <;> omega
  refine ⟨hp, ?_⟩
  unfold askQ clB kn at h ⊢
  rw [e4, e5, e6, nn 2 (by decide) (by decide) (by decide), nn 17 (by decide) (by decide) (by decide), nn 18 (by decide) (by decide) (by decide), ma_ne _ _ hp, ma_ne _ _ hp, ma_ne _ _ hp] at h
  exact h
theorem hld_ring {I : MI} {J L : MJ} {q : Nat} {s x y : Int} (hs : s = 7 ∨ s = -1) (hX : WX I J) (g : svOK (hldU I q s x y) L) : ¬ ringF (hldU I q s x y) L := by
  have r := hX.2.2.2.2.2.2.2.2
  have h := hX.2.2.2.2.2.2.2.1
  have h7 := hX.2.1.2
  have hl := hX.2.1.rt.2.1
  have nn : ∀ i, i ≠ 4 → i ≠ 5 → i ≠ 6 → hldU I q s x y i = I i := fun i a b c => hld_ne I _ _ _ _ a b c
  intro w
  refine r (fun ⟨z, hz, hz0⟩ => w ⟨z, fun n m hn hm => ?_, hz0⟩)
  obtain ⟨a, b⟩ := hz n m hn hm
  have h7 := h7 n hn
  constructor
  · intro c
    refine a ?_
    unfold EJ at c ⊢
    obtain ⟨p, c1, c2, c3⟩ := c
    rw [nn 7 (by decide) (by decide) (by decide)] at c1 c2
    rw [nn 10 (by decide) (by decide) (by decide)] at c3
    obtain ⟨hp, c3⟩ := hld_ask hs c3
    rcases (hld_sv hs hl h g 64 (I 7 n).toNat (by omega) (by omega) p (by omega)).1 c2 with d | d
    · exact absurd d hp
    · exact ⟨p, c1, d, c3⟩
  · intro c
    refine b ?_
    unfold ET at c ⊢
    obtain ⟨p, c1, c2, c3⟩ := c
    rw [nn 7 (by decide) (by decide) (by decide)] at c1 c2
    rw [nn 10 (by decide) (by decide) (by decide)] at c3
    obtain ⟨hp, c3⟩ := hld_ask hs c3
    rcases (hld_sv hs hl h g 64 (I 7 n).toNat (by omega) (by omega) p (by omega)).2 c2 with d | d
    · exact absurd d hp
    · exact ⟨p, c1, d, c3⟩
theorem WX.hold {I : MI} {J L : MJ} {q : Nat} {s x y : Int} (hq : q < 64) (hs : s = 7 ∨ s = -1) (hX : WX I J) (g : svOK (hldU I q s x y) L) : WX (hldU I q s x y) L :=
  hX.put (fun i a b c _ => hld_ne I _ _ _ _ a b c) (hld_rt2 hq hX.2.1 hs) g (hld_ring hs hX g)
theorem PS.hold {I I1 M : MI} {q : Nat} {s x y : Int} (hA : RA I I1) (hs : s = 7 ∨ s = -1) (im : ∀ i, i ≠ 52 → i ≠ 54 → i ≠ 57 → M i = I1 i) (f : ∀ j, j ≠ 40 → M 52 j = I1 52 j) (f40 : M 52 40 = I1 52 40 + 1) (i54 : M 54 = ma (I1 54) q s) (i57 : ∀ j, j ≠ q → M 57 j = I1 57 j) (i57q : s = 7 → M 57 q = x) : PS I (hldU I q s x y) I1 M := by
  obtain ⟨e4, e5, e6⟩ := hld_v I q s x y
  have nn : ∀ i, i ≠ 4 → i ≠ 5 → i ≠ 6 → hldU I q s x y i = I i := fun i a b c => hld_ne I _ _ _ _ a b c
  have n2 : ∀ i, (i < 4 ∨ 6 < i) → hldU I q s x y i = I i := fun i a => nn i (by omega) (by omega) (by omega)
  have i2 : ∀ i, (i = 53 ∨ i = 55 ∨ i = 56 ∨ 57 < i) → M i = I1 i := fun i a => im i (by omega) (by omega) (by omega)
  refine ⟨?_, Or.inl f40, f 37 (by decide), f 41 (by decide), f 42 (by decide), f 43 (by decide), i2 87 (by omega), i2 88 (by omega)⟩
  obtain ⟨h1, h2, h3, h4, h5, h6, h7, h8⟩ := hA
  refine ⟨?_, ⟨fun p hp => ?_, fun k hk => ?_⟩, ?_, ?_, ?_, ?_, ?_, ?_⟩
  · unfold RTh; rw [n2 1 (by omega), n2 2 (by omega), f 1 (by decide), i2 53 (by omega)]; exact h1
  · rw [i54, e4, e5, e6, i2 55 (by omega), i2 56 (by omega)]
    by_cases c : p = q
    · rw [c]
      simp only [ma_self]
      exact ⟨trivial, fun a b => by omega, fun a b => by omega, i57q⟩
    · rw [ma_ne _ _ c, ma_ne _ _ c, ma_ne _ _ c, ma_ne _ _ c, i57 p c]
      exact h2.1 p hp
  · rw [i2 58 (by omega), n2 7 (by omega)]; exact h2.2 k hk
  · unfold RPr; rw [n2 10 (by omega), n2 11 (by omega), n2 12 (by omega), n2 13 (by omega), n2 14 (by omega), n2 15 (by omega), n2 16 (by omega), f 13 (by decide), i2 59 (by omega), i2 60 (by omega), i2 61 (by omega), i2 62 (by omega), i2 63 (by omega), i2 64 (by omega)]; exact h3
  · unfold RLg; rw [n2 10 (by omega), n2 20 (by omega), n2 21 (by omega), f 17 (by decide), f 18 (by decide), i2 65 (by omega), i2 66 (by omega), i2 67 (by omega)]; exact h4
  · unfold RDr; rw [n2 22 (by omega), n2 23 (by omega), n2 24 (by omega), n2 25 (by omega), n2 26 (by omega), n2 27 (by omega), n2 28 (by omega), n2 29 (by omega), n2 30 (by omega), f 29 (by decide), f 30 (by decide), i2 68 (by omega), i2 69 (by omega), i2 70 (by omega), i2 71 (by omega), i2 72 (by omega), i2 73 (by omega), i2 74 (by omega), i2 75 (by omega), i2 76 (by omega)]; exact h5
  · unfold RSc; rw [n2 0 (by omega), n2 51 (by omega), f 19 (by decide), f 31 (by decide), i2 77 (by omega)]; exact h6
  · unfold RRe; rw [n2 44 (by omega), n2 45 (by omega), f 56 (by decide), f 57 (by decide), f 58 (by decide), f 59 (by decide), f 60 (by decide), f 61 (by decide), i2 93 (by omega)]; exact h7
  · unfold RRo; rw [n2 48 (by omega), n2 49 (by omega), f 64 (by decide), i2 94 (by omega)]; exact h8
section NAMES
variable {N n : Nat} {I : MI} {J : MJ} {p v : Int}
theorem hld_fit (h : INV n I J) (q : Nat) (s x y : Int) : (∀ i, 52 ≤ i → hldU I q s x y i = I i) ∧ CntR2 n (hldU I q s x y) :=
  ⟨fun i hi => hld_ne I _ _ _ _ (by omega) (by omega) (by omega), h.c0 (hld_ne I _ _ _ _ (by decide) (by decide) (by decide))⟩
theorem name_ps (h : INV n I J) {L : MJ} {I1 : MI} (hA : RA I I1) (hs : svOK (nameU I p v) L) : (∃ L', WX (nameU I p v) L') ∧ PS I (nameU I p v) I1 (nameMU I1 p v) := by
  unfold nameU nameMU at *
  by_cases c : 0 ≤ p ∧ p < 64
  · simp only [if_pos c] at hs ⊢
    refine ⟨⟨L, WX.hold (by omega) (Or.inl rfl) h.1 hs⟩, ?_⟩
    obtain ⟨M, hM⟩ : ∃ M, M = vnU (ma (ma I1 54 (ma (I1 54) p.toNat 7)) 57 (ma (I1 57) p.toNat v)) := ⟨_, rfl⟩
    rw [← hM]
    have m57 : M 57 = ma (I1 57) p.toNat v := by rw [hM]; unfold vnU; rw [ma_ne _ _ (by decide), ma_self]
    refine PS.hold hA (Or.inl rfl) (fun i a b c => ?_) (fun j a => ?_) ?_ ?_ (fun j a => ?_) (fun _ => ?_)
    · rw [hM]; unfold vnU; rw [ma_ne _ _ a, ma_ne _ _ c, ma_ne _ _ b]
    · rw [hM]; unfold vnU; rw [ma_self, ma_ne _ _ a, ma_ne _ _ (by decide), ma_ne _ _ (by decide)]
    · rw [hM]; unfold vnU; rw [ma_self, ma_self, ma_ne _ _ (by decide), ma_ne _ _ (by decide)]
    · rw [hM]; unfold vnU; rw [ma_ne _ _ (by decide), ma_ne _ _ (by decide), ma_self]
    · rw [m57, ma_ne _ _ a]
    · rw [m57, ma_self]
  · simp only [if_neg c] at hs ⊢
    exact ⟨⟨J, h.1.rf _⟩, PS.no hA (by decide)⟩
theorem empty_ps (h : INV n I J) {L : MJ} {I1 : MI} (hA : RA I I1) (hs : svOK (emptyU I p) L) : (∃ L', WX (emptyU I p) L') ∧ PS I (emptyU I p) I1 (emptyMU I1 p) := by
  unfold emptyU emptyMU at *
  by_cases c : 0 ≤ p ∧ p < 64
  · simp only [if_pos c] at hs ⊢
    refine ⟨⟨L, WX.hold (by omega) (Or.inr rfl) h.1 hs⟩, ?_⟩
    obtain ⟨M, hM⟩ : ∃ M, M = vnU (ma I1 54 (ma (I1 54) p.toNat (-1))) := ⟨_, rfl⟩
    rw [← hM]
    have m57 : M 57 = I1 57 := by rw [hM]; unfold vnU; rw [ma_ne _ _ (by decide), ma_ne _ _ (by decide)]
    refine PS.hold hA (Or.inr rfl) (fun i a b c => ?_) (fun j a => ?_) ?_ ?_ (fun j a => ?_) (fun e => absurd e (by decide))
    · rw [hM]; unfold vnU; rw [ma_ne _ _ a, ma_ne _ _ b]
    · rw [hM]; unfold vnU; rw [ma_self, ma_ne _ _ a, ma_ne _ _ (by decide)]
    · rw [hM]; unfold vnU; rw [ma_self, ma_self, ma_ne _ _ (by decide)]
    · rw [hM]; unfold vnU; rw [ma_ne _ _ (by decide), ma_self]
    · rw [m57]
  · simp only [if_neg c] at hs ⊢
    exact ⟨⟨J, h.1.rf _⟩, PS.no hA (by decide)⟩
theorem b_name (h : INV n I J) (hn : n ≤ 900) : CT 67 [aR 0, aI p, aI v] (MM N I J) (QBoth N n 136 [aR 52, aI p, aI v]) :=
  both3 (R := fun L a U => a = aI (nameA I p v) ∧ U = nameU I p v ∧ svOK U L) h hn (rokX [p, v]) (rokM [p, v]) ((c_X9_name h.1 (h.rf hn)).mono fun r M' q => by
    obtain ⟨I', J', e1, e2, e3, e4⟩ := q
    exact ⟨_, _, J', I', J', e1, e2, ⟨rfl, rfl, svOK_congr e4 (e3.1 4 rfl).symm (e3.1 5 rfl).symm (e3.1 6 rfl).symm rfl rfl⟩, e3.er, e4⟩) (fun L a U I1 J1 hR m1 m2 m3 m4 => by
    obtain ⟨rfl, rfl, hs⟩ := hR
    refine (m_X10_name m2 (h.w52 m3)).mono fun r M' q => ?_
    obtain ⟨rfl, rfl⟩ := q
    obtain ⟨⟨L', hX'⟩, hP⟩ := name_ps h m1 hs
    exact ⟨L', nameMU I1 p v, J1, rfl, rfl, hX', PO.vn2 h.1 hX' hP.1 m3 hP.2 m4 rfl⟩) (fun L a U hR => by
    obtain ⟨-, rfl, -⟩ := hR
    unfold nameU
    split
    · exact hld_fit h _ _ _ _
    · exact (FitU.rf h _).2)
theorem b_empty (h : INV n I J) (hn : n ≤ 900) : CT 68 [aR 0, aI p] (MM N I J) (QBoth N n 137 [aR 52, aI p]) :=
  both3 (R := fun L a U => a = aI (emptyA I p) ∧ U = emptyU I p ∧ svOK U L) h hn (rokX [p]) (rokM [p]) ((c_X9_empty h.1 (h.rf hn)).mono fun r M' q => by
    obtain ⟨I', J', e1, e2, e3, e4⟩ := q
    exact ⟨_, _, J', I', J', e1, e2, ⟨rfl, rfl, svOK_congr e4 (e3.1 4 rfl).symm (e3.1 5 rfl).symm (e3.1 6 rfl).symm rfl rfl⟩, e3.er, e4⟩) (fun L a U I1 J1 hR m1 m2 m3 m4 => by
    obtain ⟨rfl, rfl, hs⟩ := hR
    refine (m_X10_empty m2 (h.w52 m3)).mono fun r M' q => ?_
    obtain ⟨rfl, rfl⟩ := q
    obtain ⟨⟨L', hX'⟩, hP⟩ := empty_ps h m1 hs
    refine ⟨L', emptyMU I1 p, J1, ?_, rfl, hX', PO.vn2 h.1 hX' hP.1 m3 hP.2 m4 rfl⟩
    unfold emptyMA emptyA
    by_cases c : 0 ≤ p ∧ p < 64
    · rw [if_pos c, if_pos c, (m1.2.1.1 p.toNat (by omega)).1]
    · rw [if_neg c, if_neg c]) (fun L a U hR => by
    obtain ⟨-, rfl, -⟩ := hR
    unfold emptyU
    split
    · exact hld_fit h _ _ _ _
    · exact (FitU.rf h _).2)
end NAMES
