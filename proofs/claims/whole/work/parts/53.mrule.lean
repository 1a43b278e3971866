/-! ===== the reference: rule, relate ===== -/
/-- the reference stands as K says -/
def RA (K I : MI) : Prop := RTh K I ∧ RRu K I ∧ RPr K I ∧ RLg K I ∧ RDr K I ∧ RSc K I ∧ RRe K I ∧ RRo K I
theorem RA.keep {K I I' : MI} (h : RA K I) (e : ∀ i, 53 ≤ i → (i ≤ 77 ∨ i = 93 ∨ i = 94) → I' i = I i) (f : ∀ k, k ≠ 37 → k ≠ 39 → k ≠ 40 → k ≠ 41 → k ≠ 42 → k ≠ 43 → k ≠ 54 → I' 52 k = I 52 k) : RA K I' := by
  obtain ⟨h1, h2, h3, h4, h5, h6, h7, h8⟩ := h
  have g : ∀ i, 53 ≤ i → i ≤ 77 → I' i = I i := fun i a b => e i a (Or.inl b)
  refine ⟨?_, ?_, ?_, ?_, ?_, ?_, ?_, ?_⟩
  · unfold RTh; rw [f 1 (by decide) (by decide) (by decide) (by decide) (by decide) (by decide) (by decide), g 53 (by decide) (by decide)]; exact h1
  · unfold RRu; rw [g 54 (by decide) (by decide), g 55 (by decide) (by decide), g 56 (by decide) (by decide), g 57 (by decide) (by decide), g 58 (by decide) (by decide)]; exact h2
  · unfold RPr; rw [f 13 (by decide) (by decide) (by decide) (by decide) (by decide) (by decide) (by decide), g 59 (by decide) (by decide), g 60 (by decide) (by decide), g 61 (by decide) (by decide), g 62 (by decide) (by decide), g 63 (by decide) (by decide), g 64 (by decide) (by decide)]; exact h3
  · unfold RLg; rw [f 17 (by decide) (by decide) (by decide) (by decide) (by decide) (by decide) (by decide), f 18 (by decide) (by decide) (by decide) (by decide) (by decide) (by decide) (by decide), g 65 (by decide) (by decide), g 66 (by decide) (by decide), g 67 (by decide) (by decide)]; exact h4
  · unfold RDr; rw [f 29 (by decide) (by decide) (by decide) (by decide) (by decide) (by decide) (by decide), f 30 (by decide) (by decide) (by decide) (by decide) (by decide) (by decide) (by decide), g 68 (by decide) (by decide), g 69 (by decide) (by decide), g 70 (by decide) (by decide), g 71 (by decide) (by decide), g 72 (by decide) (by decide), g 73 (by decide) (by decide), g 74 (by decide) (by decide), g 75 (by decide) (by decide), g 76 (by decide) (by decide)]; exact h5
  · unfold RSc; rw [f 19 (by decide) (by decide) (by decide) (by decide) (by decide) (by decide) (by decide), f 31 (by decide) (by decide) (by decide) (by decide) (by decide) (by decide) (by decide), g 77 (by decide) (by decide)]; exact h6
  · unfold RRe; rw [f 56 (by decide) (by decide) (by decide) (by decide) (by decide) (by decide) (by decide), f 57 (by decide) (by decide) (by decide) (by decide) (by decide) (by decide) (by decide), f 58 (by decide) (by decide) (by decide) (by decide) (by decide) (by decide) (by decide), f 59 (by decide) (by decide) (by decide) (by decide) (by decide) (by decide) (by decide), f 60 (by decide) (by decide) (by decide) (by decide) (by decide) (by decide) (by decide), f 61 (by decide) (by decide) (by decide) (by decide) (by decide) (by decide) (by decide), e 93 (by decide) (by decide)]; exact h7
  · unfold RRo; rw [f 64 (by decide) (by decide) (by decide) (by decide) (by decide) (by decide) (by decide), e 94 (by decide) (by decide)]; exact h8
theorem RA.rf {K I : MI} {z : Int} (h : RA K I) (hz : -9 ≤ z ∧ z ≤ -2) : RA (rfU K z) (noU I z) := by
  obtain ⟨h1, h2, h3, h4, h5, h6, h7, h8⟩ := h
  have kn : ∀ i, i ≠ 51 → rfU K z i = K i := fun i hi => ma_ne _ _ hi
  have im : ∀ i, i ≠ 77 → noU I z i = I i := fun i hi => ma_ne _ _ hi
  refine ⟨?_, ?_, ?_, ?_, ?_, ?_, ?_, ?_⟩
  · unfold RTh; rw [kn 1 (by decide), kn 2 (by decide), im 52 (by decide), im 53 (by decide)]; exact h1
  · unfold RRu; rw [kn 4 (by decide), kn 5 (by decide), kn 6 (by decide), kn 7 (by decide), im 54 (by decide), im 55 (by decide), im 56 (by decide), im 57 (by decide), im 58 (by decide)]; exact h2
  · unfold RPr; rw [kn 10 (by decide), kn 11 (by decide), kn 12 (by decide), kn 13 (by decide), kn 14 (by decide), kn 15 (by decide), kn 16 (by decide), im 52 (by decide), im 59 (by decide), im 60 (by decide), im 61 (by decide), im 62 (by decide), im 63 (by decide), im 64 (by decide)]; exact h3
  · unfold RLg; rw [kn 10 (by decide), kn 20 (by decide), kn 21 (by decide), im 52 (by decide), im 65 (by decide), im 66 (by decide), im 67 (by decide)]; exact h4
  · unfold RDr; rw [kn 22 (by decide), kn 23 (by decide), kn 24 (by decide), kn 25 (by decide), kn 26 (by decide), kn 27 (by decide), kn 28 (by decide), kn 29 (by decide), kn 30 (by decide), im 52 (by decide), im 68 (by decide), im 69 (by decide), im 70 (by decide), im 71 (by decide), im 72 (by decide), im 73 (by decide), im 74 (by decide), im 75 (by decide), im 76 (by decide)]; exact h5
  · obtain ⟨a, b, c⟩ := h6
    refine ⟨by rw [kn 0 (by decide), im 52 (by decide)]; exact a, by rw [kn 0 (by decide), im 52 (by decide)]; exact b, fun k hk => ?_⟩
    unfold noU rfU
    rw [ma_self, ma_self]
    by_cases e : k = (-2 - z).toNat
    · have e2 : k + 2 = (-z).toNat := by omega
      rw [← e2, ← e, ma_self, ma_self, c k hk]
    · rw [ma_ne _ _ (by omega), ma_ne _ _ e]
      exact c k hk
  · unfold RRe; rw [kn 44 (by decide), kn 45 (by decide), im 52 (by decide), im 93 (by decide)]; exact h7
  · unfold RRo; rw [kn 48 (by decide), kn 49 (by decide), im 52 (by decide), im 94 (by decide)]; exact h8
def sameS (K U : MI) : Prop := (∀ i, rdC i → U i = K i) ∧ U 0 11 = K 0 11
theorem sameS.refl (K : MI) : sameS K K := ⟨fun _ _ => rfl, rfl⟩
theorem sameS.rf (K : MI) (z : Int) : sameS K (rfU K z) := ⟨fun i hi => ma_ne _ _ (by unfold rdC at hi; omega), by unfold rfU; rw [ma_ne _ _ (by decide)]⟩
/-- versions and what is kept of a look -/
def Vn (K U I I' : MI) : Prop := (I' 52 40 = I 52 40 + 1 ∨ (I' 52 40 = I 52 40 ∧ sameS K U)) ∧ I' 52 37 = I 52 37 ∧ I' 52 41 = I 52 41 ∧ I' 52 42 = I 52 42 ∧ I' 52 43 = I 52 43 ∧ I' 87 = I 87 ∧ I' 88 = I 88
def Vok (I : MI) : Prop := 1 ≤ I 52 40 ∧ I 52 40 ≤ 1000 ∧ 0 ≤ I 52 41 ∧ I 52 41 ≤ I 52 40 ∧ I 52 43 = -1 ∧ I 52 37 = 0
theorem WX.EdH {K : MI} {L : MJ} {I : MI} (h : WX K L) (hA : RA K I) : EdH K L I := by
  obtain ⟨a, b, c, d, e, f, g, hs, hr⟩ := h
  exact ⟨a, b, hs, fun p hp => (c.2.2.2.2.2.1 p hp).1, ⟨c.1, c.2.1⟩, d, hA.1, hA.2.1, hA.2.2.1, hA.2.2.2.2.1⟩
theorem cbP_cl {K : MI} (hP : ∀ p : Nat, (p : Int) < K 10 9 → WPr K p) {n i : Nat} : cbP K (K 10 9).toNat n i ↔ clB K (K 10 9).toNat n i := by
  unfold cbP clB
  constructor
  · rintro ⟨p, hp, h1, h2, h3⟩
    obtain ⟨w1, w2, w3, w4, w5, w6, w7, w8, w9, w10⟩ := hP p (by omega)
    refine ⟨p, hp, ?_, by rw [w8]; exact h2, by rw [w9]; exact h3⟩
    rw [w9]
    unfold clubOf
    rw [if_pos h1]
    omega
  · rintro ⟨p, hp, h1, h2, h3⟩
    obtain ⟨w1, w2, w3, w4, w5, w6, w7, w8, w9, w10⟩ := hP p (by omega)
    refine ⟨p, hp, ?_, by rw [w8] at h2; exact h2, by rw [w9] at h3; exact h3⟩
    rw [w9] at h1
    unfold clubOf at h1
    split at h1
    · assumption
    · exact absurd rfl h1
theorem cbX_0 {K : MI} (hP : ∀ p : Nat, (p : Int) < K 10 9 → WPr K p) {n i : Nat} : cbX K 0 n i ↔ clB K (K 10 9).toNat n i := by
  unfold cbX
  rw [cbP_cl hP]
  simp
theorem stab_ex {K : MI} {L : MJ} {CB : Nat → Nat → Prop} (h : ∀ n i, n < 48 → i < 48 → (CB n i ↔ clB K (K 10 9).toNat n i)) {z : Nat → Int} : stab (EX8 K L CB) (EX9 K L CB) z ↔ stab (EJ K L) (ET K L) z := by
  have q : ∀ p n i, n < 48 → i < 48 → (askC K CB p n i ↔ askQ K (K 10 9).toNat p n i) := fun p n i hn hi => by
    unfold askC askQ
    rw [h n i hn hi]
  unfold stab
  constructor
  · intro w n m hn hm
    obtain ⟨w1, w2⟩ := w n m hn hm
    refine ⟨fun t => w1 ?_, fun t => w2 ?_⟩
    · obtain ⟨p, a, b, c⟩ := t
      exact ⟨p, a, askd_or.mpr (Or.inl b), (q p n m hn hm).mpr c⟩
    · obtain ⟨p, a, b, c⟩ := t
      exact ⟨p, a, b, (q p n m hn hm).mpr c⟩
  · intro w n m hn hm
    obtain ⟨w1, w2⟩ := w n m hn hm
    refine ⟨fun t => ?_, fun t => w2 ?_⟩
    · obtain ⟨p, a, b, c⟩ := t
      rw [askd_or] at b
      rcases b with b | b
      · exact w1 ⟨p, a, b, (q p n m hn hm).mp c⟩
      · have := w2 ⟨p, a, b, (q p n m hn hm).mp c⟩
        omega
    · obtain ⟨p, a, b, c⟩ := t
      exact ⟨p, a, b, (q p n m hn hm).mp c⟩
theorem ring_ex {K : MI} {L : MJ} {CB : Nat → Nat → Prop} (h : ∀ n i, n < 48 → i < 48 → (CB n i ↔ clB K (K 10 9).toNat n i)) : (¬ ∃ z, stab (EX8 K L CB) (EX9 K L CB) z ∧ nng z) ↔ ringF K L := by
  unfold ringF
  refine not_congr (ex_congr fun z => ?_)
  rw [stab_ex h]
theorem m_isRing0 {N : Nat} {I : MI} {J : MJ} {K : MI} {L : MJ} (hE : EdH K L I) (h37 : I 52 37 = 0) : CT 132 [aR 52] (MM N I J) (fun rv M' => ∃ b I', rv = some (aI (b2 b)) ∧ M' = MM N I' J ∧ (∀ i, i ≠ 78 → i ≠ 79 → i ≠ 80 → i ≠ 81 → i ≠ 82 → I' i = I i) ∧ (b = true ↔ ringF K L)) :=
  (m_isRing hE).mono fun r M' q => by
    obtain ⟨b, I', h1, h2, h3, h4⟩ := q
    rw [h37] at h4
    exact ⟨b, I', h1, h2, h3, h4.trans (ring_ex fun n i _ _ => cbX_0 hE.2.2.2.1)⟩
theorem relP_or {s x y : Int} : relP s x y ↔ (¬ s = 2 ∨ (0 ≤ x ∧ x < 8)) ∧ (¬ s = 3 ∨ ((0 ≤ x ∧ x < 8) ∧ (0 ≤ y ∧ y < 8))) := by
  unfold relP
  rw [Decidable.imp_iff_not_or, Decidable.imp_iff_not_or]
theorem lowP_or {p s x y : Int} : lowP p s x y ↔ ¬ (4 ≤ s ∧ s ≤ 6) ∨ ((0 ≤ x ∧ x < p) ∧ (0 ≤ y ∧ y < p)) := by
  unfold lowP
  rw [Decidable.imp_iff_not_or]
theorem lm_rule {N : Nat} {I : MI} {J : MJ} {K : MI} {L L' : MJ} {p s x y : Int} (hX : WX K L) (hA : RA K I) (hr : RfM I) (hV : Vok I) (hc1 : (0 ≤ p ∧ p < 64) ∧ relP s x y) (hc2 : (0 ≤ s ∧ s ≤ 6) ∧ lowP p s x y) (hs' : svOK (ruU K p s x y) L') : V 135 (87, [some (aR 52), some (aI p), some (aI s), some (aI x), some (aI y), none, none, none], [], MM N I J) (fun r M' => ∃ v U I', r = some (aI v) ∧ M' = MM N I' J ∧ RuleR K p s x y L' v U ∧ RA U I' ∧ Vn K U I I') := by
  obtain ⟨hv1, hv2, hv3, hv4, hv5, hv6⟩ := hV
  have hp64 := hc1.1
  refine V.blk [(87, .aload 0, 1), (88, .getfield 10002, 3), (91, .iload 1, 1), (92, .iaload, 1), (93, .istore 5, 2), (95, .aload 0, 1), (96, .getfield 10003, 3), (99, .iload 1, 1), (100, .iaload, 1), (101, .istore 6, 2), (103, .aload 0, 1), (104, .getfield 10004, 3), (107, .iload 1, 1), (108, .iaload, 1), (109, .istore 7, 2), (111, .aload 0, 1), (112, .getfield 10002, 3), (115, .iload 1, 1), (116, .iload 2, 1), (117, .iastore, 1), (118, .aload 0, 1), (119, .getfield 10003, 3), (122, .iload 1, 1), (123, .iload 3, 1), (124, .iastore, 1), (125, .aload 0, 1), (126, .getfield 10004, 3), (129, .iload 1, 1), (130, .iload 4, 2), (132, .iastore, 1)] (ps := [0 ≤ p ∧ p < 64, 0 ≤ p ∧ p < 64, 0 ≤ p ∧ p < 64, 0 ≤ p ∧ p < 64, 0 ≤ p ∧ p < 64, 0 ≤ p ∧ p < 64]) (z' := (133, [some (aR 52), some (aI p), some (aI s), some (aI x), some (aI y), some (aI (I 54 ((p).toNat))), some (aI (I 55 ((p).toNat))), some (aI (I 56 ((p).toNat)))], [], MM N (ma (ma (ma I 54 (ma (I 54) ((p).toNat) s)) 55 (ma ((ma I 54 (ma (I 54) ((p).toNat) s)) 55) ((p).toNat) x)) 56 (ma ((ma (ma I 54 (ma (I 54) ((p).toNat) s)) 55 (ma ((ma I 54 (ma (I 54) ((p).toNat) s)) 55) ((p).toNat) x)) 56) ((p).toNat) y)) J)) (by decide +kernel) rfl (show (0 ≤ p ∧ p < 64) ∧ (0 ≤ p ∧ p < 64) ∧ (0 ≤ p ∧ p < 64) ∧ (0 ≤ p ∧ p < 64) ∧ (0 ≤ p ∧ p < 64) ∧ (0 ≤ p ∧ p < 64) from ⟨(by first | omega | (simp [ma]; omega)), (by first | omega | (simp [ma]; omega)), (by first | omega | (simp [ma]; omega)), (by first | omega | (simp [ma]; omega)), (by first | omega | (simp [ma]; omega)), (by first | omega | (simp [ma]; omega))⟩) ?_
  refine V.nI (fun I1 eI1 => ?_)
  have q0 : ∀ i, i ≠ 54 → i ≠ 55 → i ≠ 56 → I1 i = I i := fun i a b c => by rw [eI1]; simp only [ma_ne, ne_eq, a, b, c, not_false_eq_true]
  have q54 : I1 54 = ma (I 54) p.toNat s := by rw [eI1]; simp only [ma_self, ma_ne, ne_eq, reduceCtorEq, not_false_eq_true, Nat.reduceEqDiff]
  have q55 : I1 55 = ma (I 55) p.toNat x := by rw [eI1]; simp only [ma_self, ma_ne, ne_eq, reduceCtorEq, not_false_eq_true, Nat.reduceEqDiff]
  have q56 : I1 56 = ma (I 56) p.toNat y := by rw [eI1]; simp only [ma_self, ma_ne, ne_eq, reduceCtorEq, not_false_eq_true, Nat.reduceEqDiff]
  clear eI1
  have hWr : WRu (ruU K p s x y) := hld_rt (by omega) hX.2.1 hc1.2 hc2.1 (by have := hc2.2; rw [show ((p.toNat : Nat) : Int) = p by omega]; exact this) rfl rfl
  have kn : ∀ i, i ≠ 4 → i ≠ 5 → i ≠ 6 → ruU K p s x y i = K i := fun i a b c => hld_ne K _ _ _ _ a b c
  have k4 : ruU K p s x y 4 = ma (K 4) p.toNat s := by unfold ruU hldU; rw [ma_ne _ _ (by decide), ma_ne _ _ (by decide), ma_self]
  have k5 : ruU K p s x y 5 = ma (K 5) p.toNat (if 2 ≤ s then x else -1) := by unfold ruU hldU; rw [ma_ne _ _ (by decide), ma_self]
  have k6 : ruU K p s x y 6 = ma (K 6) p.toNat (if 3 ≤ s then y else -1) := by unfold ruU hldU; rw [ma_self]
  have hRR : RRu (ruU K p s x y) I1 := by
    refine ⟨fun q hq => ?_, fun q hq => ?_⟩
    · obtain ⟨r1, r2, r3, r4⟩ := hA.2.1.1 q hq
      rw [q54, q55, q56, q0 57 (by decide) (by decide) (by decide), k4, k5, k6]
      by_cases e : q = p.toNat
      · subst e
        simp only [ma_self]
        refine ⟨trivial, fun a b => ?_, fun a b => ?_, fun a => ?_⟩
        · rw [if_pos a]
        · rw [if_pos a]
        · exfalso; omega
      · simp only [ma_ne _ _ e]
        exact ⟨r1, r2, r3, r4⟩
    · rw [q0 58 (by decide) (by decide) (by decide), kn 7 (by decide) (by decide) (by decide)]
      exact hA.2.1.2 q hq
  have hE2 : EdH (ruU K p s x y) L' I1 := by
    obtain ⟨a, b, c, d, f, g, h1, h2, h3, h4⟩ := hX.EdH hA
    refine ⟨?_, hWr, hs', fun w hw => ?_, ?_, ?_, ?_, hRR, ?_, ?_⟩
    · unfold WTh; rw [kn 1 (by decide) (by decide) (by decide), kn 2 (by decide) (by decide) (by decide)]; exact a
    · rw [kn 10 (by decide) (by decide) (by decide)] at hw
      have := d w hw
      unfold WPr at this ⊢
      rw [kn 1 (by decide) (by decide) (by decide), kn 11 (by decide) (by decide) (by decide), kn 12 (by decide) (by decide) (by decide), kn 13 (by decide) (by decide) (by decide), kn 14 (by decide) (by decide) (by decide), kn 17 (by decide) (by decide) (by decide), kn 18 (by decide) (by decide) (by decide), kn 19 (by decide) (by decide) (by decide)]
      exact this
    · rw [kn 10 (by decide) (by decide) (by decide)]; exact f
    · unfold WDr WAct WCnd at g ⊢
      rw [kn 1 (by decide) (by decide) (by decide), kn 22 (by decide) (by decide) (by decide), kn 23 (by decide) (by decide) (by decide), kn 24 (by decide) (by decide) (by decide), kn 25 (by decide) (by decide) (by decide), kn 26 (by decide) (by decide) (by decide), kn 27 (by decide) (by decide) (by decide), kn 28 (by decide) (by decide) (by decide), kn 29 (by decide) (by decide) (by decide), kn 30 (by decide) (by decide) (by decide)]
      exact g
    · unfold RTh; rw [kn 1 (by decide) (by decide) (by decide), kn 2 (by decide) (by decide) (by decide), q0 52 (by decide) (by decide) (by decide), q0 53 (by decide) (by decide) (by decide)]; exact h1
    · unfold RPr; rw [kn 10 (by decide) (by decide) (by decide), kn 11 (by decide) (by decide) (by decide), kn 12 (by decide) (by decide) (by decide), kn 13 (by decide) (by decide) (by decide), kn 14 (by decide) (by decide) (by decide), kn 15 (by decide) (by decide) (by decide), kn 16 (by decide) (by decide) (by decide), q0 52 (by decide) (by decide) (by decide), q0 59 (by decide) (by decide) (by decide), q0 60 (by decide) (by decide) (by decide), q0 61 (by decide) (by decide) (by decide), q0 62 (by decide) (by decide) (by decide), q0 63 (by decide) (by decide) (by decide), q0 64 (by decide) (by decide) (by decide)]; exact h3
    · unfold RDr; rw [kn 22 (by decide) (by decide) (by decide), kn 23 (by decide) (by decide) (by decide), kn 24 (by decide) (by decide) (by decide), kn 25 (by decide) (by decide) (by decide), kn 26 (by decide) (by decide) (by decide), kn 27 (by decide) (by decide) (by decide), kn 28 (by decide) (by decide) (by decide), kn 29 (by decide) (by decide) (by decide), kn 30 (by decide) (by decide) (by decide), q0 52 (by decide) (by decide) (by decide), q0 68 (by decide) (by decide) (by decide), q0 69 (by decide) (by decide) (by decide), q0 70 (by decide) (by decide) (by decide), q0 71 (by decide) (by decide) (by decide), q0 72 (by decide) (by decide) (by decide), q0 73 (by decide) (by decide) (by decide), q0 74 (by decide) (by decide) (by decide), q0 75 (by decide) (by decide) (by decide), q0 76 (by decide) (by decide) (by decide)]; exact h4
  have h37 : I1 52 37 = 0 := by rw [q0 52 (by decide) (by decide) (by decide)]; exact hv6
  refine V.blk [(133, .aload 0, 1)] (ps := []) (z' := (134, [some (aR 52), some (aI p), some (aI s), some (aI x), some (aI y), some (aI (I 54 ((p).toNat))), some (aI (I 55 ((p).toNat))), some (aI (I 56 ((p).toNat)))], [aR 52], MM N I1 J)) (by decide +kernel) rfl trivial ?_
  refine V.cv (c := 132) (na := 1) (o := 10) (a := 52) [] [] (by decide +kernel) rfl rfl rfl rfl rfl ((m_isRing0 hE2 h37).mono (fun rv M1 q => ?_))
  obtain ⟨b, IR, rfl, rfl, r1, r2⟩ := q
  show V 135 (137, [some (aR 52), some (aI p), some (aI s), some (aI x), some (aI y), some (aI (I 54 ((p).toNat))), some (aI (I 55 ((p).toNat))), some (aI (I 56 ((p).toNat)))], [aI (b2 b)], MM N IR J) _
  refine V.blk [(137, .ifCond .eq 171, 3)] (ps := []) (z' := (brc .eq (b2 b) 0 171 140, [some (aR 52), some (aI p), some (aI s), some (aI x), some (aI y), some (aI (I 54 ((p).toNat))), some (aI (I 55 ((p).toNat))), some (aI (I 56 ((p).toNat)))], [], MM N IR J)) (by decide +kernel) rfl trivial ?_
  refine V.eq (fun bh2 => ?_) (fun bh3 => ?_)
  · skip
    try simp only [b2_cast, b2_ncast, Classical.not_not, lcm_lt, lcm_ge, lcm_gt, lcm_le, lcm_eq, b2_0, b2_n0, Bool.not_eq_false, Bool.not_eq_true, decide_eq_true_eq, decide_eq_false_iff_not] at bh2
    have hyy : IR 52 40 = I 52 40 := by rw [r1 52 (by decide) (by decide) (by decide) (by decide) (by decide), q0 52 (by decide) (by decide) (by decide)]
    refine V.blk [(171, .aload 0, 1), (172, .dup, 1), (173, .getfield 10040, 3), (176, .bipush 1, 1), (177, .iadd, 1), (178, .putfield 10040, 3), (181, .bipush 1, 1)] (ps := [inR ((IR 52 40) + 1)]) (z' := (182, [some (aR 52), some (aI p), some (aI s), some (aI x), some (aI y), some (aI (I 54 ((p).toNat))), some (aI (I 55 ((p).toNat))), some (aI (I 56 ((p).toNat)))], [aI 1], MM N (ma IR 52 (ma (IR 52) 40 ((IR 52 40) + 1))) J)) (by decide +kernel) rfl (show (inR ((IR 52 40) + 1)) from (by unfold inR; first | omega | (simp [ma]; omega))) ?_
    refine V.nI (fun I4 eI4 => ?_)
    refine V.ri (by decide +kernel) ?_
    have hb : ¬ ringF (ruU K p s x y) L' := fun w => by
      have := r2.mpr w
      simp_all
    have y52 : IR 52 = I 52 := by rw [r1 52 (by decide) (by decide) (by decide) (by decide) (by decide)]; exact q0 52 (by decide) (by decide) (by decide)
    refine ⟨1, ruU K p s x y, _, rfl, rfl, ⟨fun w => absurd hc1 w, fun w1 w2 => absurd hc2 w2, fun _ _ => ⟨hs', fun w => absurd w hb, fun _ => ⟨rfl, rfl⟩⟩⟩, ?_, ?_⟩
    · have hRR2 : RRu (ruU K p s x y) IR := by unfold RRu; rw [r1 54 (by decide) (by decide) (by decide) (by decide) (by decide), r1 55 (by decide) (by decide) (by decide) (by decide) (by decide), r1 56 (by decide) (by decide) (by decide) (by decide) (by decide), r1 57 (by decide) (by decide) (by decide) (by decide) (by decide), r1 58 (by decide) (by decide) (by decide) (by decide) (by decide)]; exact hRR
      have hfr : ∀ i, 53 ≤ i → (i ≤ 77 ∨ i = 93 ∨ i = 94) → i ≠ 54 → i ≠ 55 → i ≠ 56 → IR i = I i := fun i a b c d e => by rw [r1 i (by omega) (by omega) (by omega) (by omega) (by omega)]; exact q0 i c d e
      subst_vars
      refine RA.keep (I := IR) ?_ (fun i a b => by rw [ma_ne _ _ (by omega)]) (fun k _ _ a _ _ _ _ => by rw [ma_self, ma_ne _ _ a])
      obtain ⟨h1, h2, h3, h4, h5, h6, h7, h8⟩ := hA
      refine ⟨?_, hRR2, ?_, ?_, ?_, ?_, ?_, ?_⟩
      · unfold RTh; rw [kn 1 (by decide) (by decide) (by decide), kn 2 (by decide) (by decide) (by decide), y52, hfr 53 (by decide) (by decide) (by decide) (by decide) (by decide)]; exact h1
      · unfold RPr; rw [kn 10 (by decide) (by decide) (by decide), kn 11 (by decide) (by decide) (by decide), kn 12 (by decide) (by decide) (by decide), kn 13 (by decide) (by decide) (by decide), kn 14 (by decide) (by decide) (by decide), kn 15 (by decide) (by decide) (by decide), kn 16 (by decide) (by decide) (by decide), y52, hfr 59 (by decide) (by decide) (by decide) (by decide) (by decide), hfr 60 (by decide) (by decide) (by decide) (by decide) (by decide), hfr 61 (by decide) (by decide) (by decide) (by decide) (by decide), hfr 62 (by decide) (by decide) (by decide) (by decide) (by decide), hfr 63 (by decide) (by decide) (by decide) (by decide) (by decide), hfr 64 (by decide) (by decide) (by decide) (by decide) (by decide)]; exact h3
      · unfold RLg; rw [kn 10 (by decide) (by decide) (by decide), kn 20 (by decide) (by decide) (by decide), kn 21 (by decide) (by decide) (by decide), y52, hfr 65 (by decide) (by decide) (by decide) (by decide) (by decide), hfr 66 (by decide) (by decide) (by decide) (by decide) (by decide), hfr 67 (by decide) (by decide) (by decide) (by decide) (by decide)]; exact h4
      · unfold RDr; rw [kn 22 (by decide) (by decide) (by decide), kn 23 (by decide) (by decide) (by decide), kn 24 (by decide) (by decide) (by decide), kn 25 (by decide) (by decide) (by decide), kn 26 (by decide) (by decide) (by decide), kn 27 (by decide) (by decide) (by decide), kn 28 (by decide) (by decide) (by decide), kn 29 (by decide) (by decide) (by decide), kn 30 (by decide) (by decide) (by decide), y52, hfr 68 (by decide) (by decide) (by decide) (by decide) (by decide), hfr 69 (by decide) (by decide) (by decide) (by decide) (by decide), hfr 70 (by decide) (by decide) (by decide) (by decide) (by decide), hfr 71 (by decide) (by decide) (by decide) (by decide) (by decide), hfr 72 (by decide) (by decide) (by decide) (by decide) (by decide), hfr 73 (by decide) (by decide) (by decide) (by decide) (by decide), hfr 74 (by decide) (by decide) (by decide) (by decide) (by decide), hfr 75 (by decide) (by decide) (by decide) (by decide) (by decide), hfr 76 (by decide) (by decide) (by decide) (by decide) (by decide)]; exact h5
      · unfold RSc; rw [kn 0 (by decide) (by decide) (by decide), kn 51 (by decide) (by decide) (by decide), y52, hfr 77 (by decide) (by decide) (by decide) (by decide) (by decide)]; exact h6
      · unfold RRe; rw [kn 44 (by decide) (by decide) (by decide), kn 45 (by decide) (by decide) (by decide), y52, hfr 93 (by decide) (by decide) (by decide) (by decide) (by decide)]; exact h7
      · unfold RRo; rw [kn 48 (by decide) (by decide) (by decide), kn 49 (by decide) (by decide) (by decide), y52, hfr 94 (by decide) (by decide) (by decide) (by decide) (by decide)]; exact h8
    · subst_vars
      refine ⟨Or.inl ?_, ?_, ?_, ?_, ?_, ?_, ?_⟩
      · rw [ma_self, ma_self, y52]
      all_goals first | (rw [ma_self, ma_ne _ _ (by decide), y52]) | (rw [ma_ne _ _ (by decide)]; first | exact (r1 87 (by decide) (by decide) (by decide) (by decide) (by decide)).trans (q0 87 (by decide) (by decide) (by decide)) | exact (r1 88 (by decide) (by decide) (by decide) (by decide) (by decide)).trans (q0 88 (by decide) (by decide) (by decide)))
  · skip
    try simp only [b2_cast, b2_ncast, Classical.not_not, lcm_lt, lcm_ge, lcm_gt, lcm_le, lcm_eq, b2_0, b2_n0, Bool.not_eq_false, Bool.not_eq_true, decide_eq_true_eq, decide_eq_false_iff_not] at bh3
    refine V.blk [(140, .aload 0, 1), (141, .getfield 10002, 3), (144, .iload 1, 1), (145, .iload 5, 2), (147, .iastore, 1), (148, .aload 0, 1), (149, .getfield 10003, 3), (152, .iload 1, 1), (153, .iload 6, 2), (155, .iastore, 1), (156, .aload 0, 1), (157, .getfield 10004, 3), (160, .iload 1, 1), (161, .iload 7, 2), (163, .iastore, 1)] (ps := [0 ≤ p ∧ p < 64, 0 ≤ p ∧ p < 64, 0 ≤ p ∧ p < 64]) (z' := (164, [some (aR 52), some (aI p), some (aI s), some (aI x), some (aI y), some (aI (I 54 ((p).toNat))), some (aI (I 55 ((p).toNat))), some (aI (I 56 ((p).toNat)))], [], MM N (ma (ma (ma IR 54 (ma (IR 54) ((p).toNat) (I 54 ((p).toNat)))) 55 (ma ((ma IR 54 (ma (IR 54) ((p).toNat) (I 54 ((p).toNat)))) 55) ((p).toNat) (I 55 ((p).toNat)))) 56 (ma ((ma (ma IR 54 (ma (IR 54) ((p).toNat) (I 54 ((p).toNat)))) 55 (ma ((ma IR 54 (ma (IR 54) ((p).toNat) (I 54 ((p).toNat)))) 55) ((p).toNat) (I 55 ((p).toNat)))) 56) ((p).toNat) (I 56 ((p).toNat)))) J)) (by decide +kernel) rfl (show (0 ≤ p ∧ p < 64) ∧ (0 ≤ p ∧ p < 64) ∧ (0 ≤ p ∧ p < 64) from ⟨(by first | omega | (simp [ma]; omega)), (by first | omega | (simp [ma]; omega)), (by first | omega | (simp [ma]; omega))⟩) ?_
    refine V.nI (fun I5 eI5 => ?_)
    have hb : ringF (ruU K p s x y) L' := r2.mp (by assumption)
    have z0 : ∀ i, i ≠ 54 → i ≠ 55 → i ≠ 56 → I5 i = IR i := fun i a b c => by rw [eI5]; simp only [ma_ne, ne_eq, a, b, c, not_false_eq_true]
    have z1 : ∀ i, i = 54 ∨ i = 55 ∨ i = 56 → I5 i = I i := fun i hi => by
      rw [eI5]
      rcases hi with rfl | rfl | rfl
      · simp only [ma_self, ma_ne, ne_eq, reduceCtorEq, not_false_eq_true, Nat.reduceEqDiff]
        rw [r1 54 (by decide) (by decide) (by decide) (by decide) (by decide), q54, ma_ma, ma_id]
      · simp only [ma_self, ma_ne, ne_eq, reduceCtorEq, not_false_eq_true, Nat.reduceEqDiff]
        rw [r1 55 (by decide) (by decide) (by decide) (by decide) (by decide), q55, ma_ma, ma_id]
      · simp only [ma_self, ma_ne, ne_eq, reduceCtorEq, not_false_eq_true, Nat.reduceEqDiff]
        rw [r1 56 (by decide) (by decide) (by decide) (by decide) (by decide), q56, ma_ma, ma_id]
    have z2 : ∀ i, i ≠ 78 → i ≠ 79 → i ≠ 80 → i ≠ 81 → i ≠ 82 → I5 i = I i := fun i a b c d e => by
      by_cases hi : i = 54 ∨ i = 55 ∨ i = 56
      · exact z1 i hi
      · rw [z0 i (by omega) (by omega) (by omega), r1 i a b c d e]
        exact q0 i (by omega) (by omega) (by omega)
    clear eI5
    have hr9 : RfM I5 := by unfold RfM; rw [z2 77 (by decide) (by decide) (by decide) (by decide) (by decide)]; exact hr
    have hA9 : RA K I5 := hA.keep (fun i a b => z2 i (by omega) (by omega) (by omega) (by omega) (by omega)) (fun k _ _ _ _ _ _ _ => by rw [z2 52 (by decide) (by decide) (by decide) (by decide) (by decide)])
    have hz52 : I5 52 = I 52 := z2 52 (by decide) (by decide) (by decide) (by decide) (by decide)
    refine V.blk [(164, .aload 0, 1), (165, .bipush (-7), 2)] (ps := []) (z' := (167, [some (aR 52), some (aI p), some (aI s), some (aI x), some (aI y), some (aI (I 54 ((p).toNat))), some (aI (I 55 ((p).toNat))), some (aI (I 56 ((p).toNat)))], [aI (-7), aR 52], MM N I5 J)) (by decide +kernel) rfl trivial ?_
    refine V.cv (c := 116) (na := 2) (o := 10) (a := 52) [aI (-7)] [] (by decide +kernel) rfl rfl rfl rfl rfl ((m_no (by assumption) (by omega)).mono (fun rv M1 q => ?_))
    obtain ⟨rfl, rfl⟩ := q
    show V 135 (170, [some (aR 52), some (aI p), some (aI s), some (aI x), some (aI y), some (aI (I 54 ((p).toNat))), some (aI (I 55 ((p).toNat))), some (aI (I 56 ((p).toNat)))], [aI (-7)], MM N ((noU I5 (-7))) J) _
    refine V.nI (fun I6 eI6 => ?_)
    refine V.ri (by decide +kernel) ?_
    refine ⟨-7, rfU K (-7), _, rfl, rfl, ⟨fun w => absurd hc1 w, fun w1 w2 => absurd hc2 w2, fun _ _ => ⟨hs', fun _ => ⟨rfl, rfl⟩, fun w => absurd hb w⟩⟩, ?_, ?_⟩
    · subst_vars
      exact hA9.rf (by decide)
    · subst_vars
      refine ⟨Or.inr ⟨?_, sameS.rf _ _⟩, ?_, ?_, ?_, ?_, ?_, ?_⟩
      all_goals (unfold noU; rw [ma_ne _ _ (by decide)]; first | rw [hz52] | exact z2 87 (by decide) (by decide) (by decide) (by decide) (by decide) | exact z2 88 (by decide) (by decide) (by decide) (by decide) (by decide))
theorem m_X10_rule {N : Nat} {I : MI} {J : MJ} {K : MI} {L L' : MJ} {p s x y : Int} (hX : WX K L) (hA : RA K I) (hr : RfM I) (hV : Vok I) (hi : inR s) (hL : (0 ≤ p ∧ p < 64) ∧ relP s x y → (0 ≤ s ∧ s ≤ 6) ∧ lowP p s x y → svOK (ruU K p s x y) L') : CT 135 [aR 52, aI p, aI s, aI x, aI y] (MM N I J) (fun r M' => ∃ v U I', r = some (aI v) ∧ M' = MM N I' J ∧ RuleR K p s x y L' v U ∧ RA U I' ∧ Vn K U I I') := by
  unfold inR at hi
  refine CT.ofV (n := 8) (ls := [some (aR 52), some (aI p), some (aI s), some (aI x), some (aI y), none, none, none]) rfl rfl rfl ?_
  refine V.blk [(0, .iload 1, 1)] (ps := []) (z' := (1, [some (aR 52), some (aI p), some (aI s), some (aI x), some (aI y), none, none, none], [aI p], MM N I J)) (by decide +kernel) rfl trivial ?_
  refine V.cs (c := 121) (na := 1) [aI p] [] (by decide +kernel) rfl rfl (V.pr (m_X10_isPlace) ?_)
  show V 135 (4, [some (aR 52), some (aI p), some (aI s), some (aI x), some (aI y), none, none, none], [aI (b2 (decide (0 ≤ p ∧ p < 64)))], MM N I J) _
  refine V.blk [(4, .ifCond .eq 37, 3)] (ps := []) (z' := (brc .eq (b2 (decide (0 ≤ p ∧ p < 64))) 0 37 7, [some (aR 52), some (aI p), some (aI s), some (aI x), some (aI y), none, none, none], [], MM N I J)) (by decide +kernel) rfl trivial ?_
  refine V.eq (fun bh1 => ?_) (fun bh2 => ?_)
  · skip
    try simp only [b2_cast, b2_ncast, Classical.not_not, lcm_lt, lcm_ge, lcm_gt, lcm_le, lcm_eq, b2_0, b2_n0, Bool.not_eq_false, Bool.not_eq_true, decide_eq_true_eq, decide_eq_false_iff_not] at bh1
    refine V.blk [(37, .aload 0, 1), (38, .bipush (-3), 2)] (ps := []) (z' := (40, [some (aR 52), some (aI p), some (aI s), some (aI x), some (aI y), none, none, none], [aI (-3), aR 52], MM N I J)) (by decide +kernel) rfl trivial ?_
    refine V.cv (c := 116) (na := 2) (o := 10) (a := 52) [aI (-3)] [] (by decide +kernel) rfl rfl rfl rfl rfl ((m_no (by assumption) (by omega)).mono (fun rv M1 q => ?_))
    obtain ⟨rfl, rfl⟩ := q
    show V 135 (43, [some (aR 52), some (aI p), some (aI s), some (aI x), some (aI y), none, none, none], [aI (-3)], MM N ((noU I (-3))) J) _
    refine V.nI (fun I3 eI3 => ?_)
    refine V.ri (by decide +kernel) ?_
    refine ⟨-3, rfU K (-3), noU I (-3), rfl, by subst_vars; rfl, ⟨fun w => ?_, fun w1 w2 => ?_, fun w1 w2 => ?_⟩, hA.rf (by decide), ⟨Or.inr ⟨by unfold noU; rw [ma_ne _ _ (by decide)], sameS.rf _ _⟩, by unfold noU; rw [ma_ne _ _ (by decide)], by unfold noU; rw [ma_ne _ _ (by decide)], by unfold noU; rw [ma_ne _ _ (by decide)], by unfold noU; rw [ma_ne _ _ (by decide)], by unfold noU; rw [ma_ne _ _ (by decide)], by unfold noU; rw [ma_ne _ _ (by decide)]⟩⟩
    all_goals first
      | exact ⟨rfl, rfl⟩
      | (exfalso
         rw [relP_or] at *
         (try rw [lowP_or] at *)
         omega)
  · skip
    try simp only [b2_cast, b2_ncast, Classical.not_not, lcm_lt, lcm_ge, lcm_gt, lcm_le, lcm_eq, b2_0, b2_n0, Bool.not_eq_false, Bool.not_eq_true, decide_eq_true_eq, decide_eq_false_iff_not] at bh2
    refine V.blk [(7, .iload 2, 1), (8, .bipush 2, 1), (9, .if_icmp .eq 17, 3)] (ps := []) (z' := (brc .eq s 2 17 12, [some (aR 52), some (aI p), some (aI s), some (aI x), some (aI y), none, none, none], [], MM N I J)) (by decide +kernel) rfl trivial ?_
    refine V.eq (fun bh4 => ?_) (fun bh5 => ?_)
    · skip
      try simp only [b2_cast, b2_ncast, Classical.not_not, lcm_lt, lcm_ge, lcm_gt, lcm_le, lcm_eq, b2_0, b2_n0, Bool.not_eq_false, Bool.not_eq_true, decide_eq_true_eq, decide_eq_false_iff_not] at bh4
      refine V.blk [(17, .iload 3, 1)] (ps := []) (z' := (18, [some (aR 52), some (aI p), some (aI s), some (aI x), some (aI y), none, none, none], [aI x], MM N I J)) (by decide +kernel) rfl trivial ?_
      refine V.cs (c := 118) (na := 1) [aI x] [] (by decide +kernel) rfl rfl (V.pr (m_X10_isRelation) ?_)
      show V 135 (21, [some (aR 52), some (aI p), some (aI s), some (aI x), some (aI y), none, none, none], [aI (b2 (decide (0 ≤ x ∧ x < 8)))], MM N I J) _
      refine V.blk [(21, .ifCond .eq 37, 3)] (ps := []) (z' := (brc .eq (b2 (decide (0 ≤ x ∧ x < 8))) 0 37 24, [some (aR 52), some (aI p), some (aI s), some (aI x), some (aI y), none, none, none], [], MM N I J)) (by decide +kernel) rfl trivial ?_
      refine V.eq (fun bh6 => ?_) (fun bh7 => ?_)
      · skip
        try simp only [b2_cast, b2_ncast, Classical.not_not, lcm_lt, lcm_ge, lcm_gt, lcm_le, lcm_eq, b2_0, b2_n0, Bool.not_eq_false, Bool.not_eq_true, decide_eq_true_eq, decide_eq_false_iff_not] at bh6
        refine V.blk [(37, .aload 0, 1), (38, .bipush (-3), 2)] (ps := []) (z' := (40, [some (aR 52), some (aI p), some (aI s), some (aI x), some (aI y), none, none, none], [aI (-3), aR 52], MM N I J)) (by decide +kernel) rfl trivial ?_
        refine V.cv (c := 116) (na := 2) (o := 10) (a := 52) [aI (-3)] [] (by decide +kernel) rfl rfl rfl rfl rfl ((m_no (by assumption) (by omega)).mono (fun rv M1 q => ?_))
        obtain ⟨rfl, rfl⟩ := q
        show V 135 (43, [some (aR 52), some (aI p), some (aI s), some (aI x), some (aI y), none, none, none], [aI (-3)], MM N ((noU I (-3))) J) _
        refine V.nI (fun I8 eI8 => ?_)
        refine V.ri (by decide +kernel) ?_
        refine ⟨-3, rfU K (-3), noU I (-3), rfl, by subst_vars; rfl, ⟨fun w => ?_, fun w1 w2 => ?_, fun w1 w2 => ?_⟩, hA.rf (by decide), ⟨Or.inr ⟨by unfold noU; rw [ma_ne _ _ (by decide)], sameS.rf _ _⟩, by unfold noU; rw [ma_ne _ _ (by decide)], by unfold noU; rw [ma_ne _ _ (by decide)], by unfold noU; rw [ma_ne _ _ (by decide)], by unfold noU; rw [ma_ne _ _ (by decide)], by unfold noU; rw [ma_ne _ _ (by decide)], by unfold noU; rw [ma_ne _ _ (by decide)]⟩⟩
        all_goals first
          | exact ⟨rfl, rfl⟩
          | (exfalso
             rw [relP_or] at *
             (try rw [lowP_or] at *)
             omega)
      · skip
        try simp only [b2_cast, b2_ncast, Classical.not_not, lcm_lt, lcm_ge, lcm_gt, lcm_le, lcm_eq, b2_0, b2_n0, Bool.not_eq_false, Bool.not_eq_true, decide_eq_true_eq, decide_eq_false_iff_not] at bh7
        refine V.blk [(24, .iload 2, 1), (25, .bipush 3, 1), (26, .if_icmp .ne 44, 3)] (ps := []) (z' := (brc .ne s 3 44 29, [some (aR 52), some (aI p), some (aI s), some (aI x), some (aI y), none, none, none], [], MM N I J)) (by decide +kernel) rfl trivial ?_
        refine V.ne (fun bh9 => ?_) (fun bh10 => ?_)
        · skip
          try simp only [b2_cast, b2_ncast, Classical.not_not, lcm_lt, lcm_ge, lcm_gt, lcm_le, lcm_eq, b2_0, b2_n0, Bool.not_eq_false, Bool.not_eq_true, decide_eq_true_eq, decide_eq_false_iff_not] at bh9
          refine V.blk [(44, .iload 2, 1), (45, .i2l, 1), (46, .jsr_w 0, 1), (47, .jsr_w 6, 3)] (ps := []) (z' := (50, [some (aR 52), some (aI p), some (aI s), some (aI x), some (aI y), none, none, none], [aL (Int64.ofInt 6), aL (Int64.ofInt 0), aL (Int64.ofInt s)], MM N I J)) (by decide +kernel) rfl trivial ?_
          refine V.cs (c := 115) (na := 3) [aL (Int64.ofInt 6), aL (Int64.ofInt 0), aL (Int64.ofInt s)] [] (by decide +kernel) rfl rfl (V.pr (m_X10_isIn (by unfold inR; omega) (by unfold inR; omega) (by unfold inR; omega)) ?_)
          show V 135 (53, [some (aR 52), some (aI p), some (aI s), some (aI x), some (aI y), none, none, none], [aI (b2 (decide (0 ≤ s ∧ s ≤ 6)))], MM N I J) _
          refine V.blk [(53, .ifCond .eq 80, 3)] (ps := []) (z' := (brc .eq (b2 (decide (0 ≤ s ∧ s ≤ 6))) 0 80 56, [some (aR 52), some (aI p), some (aI s), some (aI x), some (aI y), none, none, none], [], MM N I J)) (by decide +kernel) rfl trivial ?_
          refine V.eq (fun bh11 => ?_) (fun bh12 => ?_)
          · skip
            try simp only [b2_cast, b2_ncast, Classical.not_not, lcm_lt, lcm_ge, lcm_gt, lcm_le, lcm_eq, b2_0, b2_n0, Bool.not_eq_false, Bool.not_eq_true, decide_eq_true_eq, decide_eq_false_iff_not] at bh11
            refine V.blk [(80, .aload 0, 1), (81, .bipush (-8), 2)] (ps := []) (z' := (83, [some (aR 52), some (aI p), some (aI s), some (aI x), some (aI y), none, none, none], [aI (-8), aR 52], MM N I J)) (by decide +kernel) rfl trivial ?_
            refine V.cv (c := 116) (na := 2) (o := 10) (a := 52) [aI (-8)] [] (by decide +kernel) rfl rfl rfl rfl rfl ((m_no (by assumption) (by omega)).mono (fun rv M1 q => ?_))
            obtain ⟨rfl, rfl⟩ := q
            show V 135 (86, [some (aR 52), some (aI p), some (aI s), some (aI x), some (aI y), none, none, none], [aI (-8)], MM N ((noU I (-8))) J) _
            refine V.nI (fun I13 eI13 => ?_)
            refine V.ri (by decide +kernel) ?_
            refine ⟨-8, rfU K (-8), noU I (-8), rfl, by subst_vars; rfl, ⟨fun w => ?_, fun w1 w2 => ?_, fun w1 w2 => ?_⟩, hA.rf (by decide), ⟨Or.inr ⟨by unfold noU; rw [ma_ne _ _ (by decide)], sameS.rf _ _⟩, by unfold noU; rw [ma_ne _ _ (by decide)], by unfold noU; rw [ma_ne _ _ (by decide)], by unfold noU; rw [ma_ne _ _ (by decide)], by unfold noU; rw [ma_ne _ _ (by decide)], by unfold noU; rw [ma_ne _ _ (by decide)], by unfold noU; rw [ma_ne _ _ (by decide)]⟩⟩
            all_goals first
              | exact ⟨rfl, rfl⟩
              | (exfalso
                 rw [relP_or] at *
                 (try rw [lowP_or] at *)
                 omega)
          · skip
            try simp only [b2_cast, b2_ncast, Classical.not_not, lcm_lt, lcm_ge, lcm_gt, lcm_le, lcm_eq, b2_0, b2_n0, Bool.not_eq_false, Bool.not_eq_true, decide_eq_true_eq, decide_eq_false_iff_not] at bh12
            refine V.blk [(56, .iload 2, 1), (57, .bipush 4, 1), (58, .if_icmp .lt 87, 3)] (ps := []) (z' := (brc .lt s 4 87 61, [some (aR 52), some (aI p), some (aI s), some (aI x), some (aI y), none, none, none], [], MM N I J)) (by decide +kernel) rfl trivial ?_
            refine V.lt (fun bh14 => ?_) (fun bh15 => ?_)
            · skip
              try simp only [b2_cast, b2_ncast, Classical.not_not, lcm_lt, lcm_ge, lcm_gt, lcm_le, lcm_eq, b2_0, b2_n0, Bool.not_eq_false, Bool.not_eq_true, decide_eq_true_eq, decide_eq_false_iff_not] at bh14
              have hc1 : (0 ≤ p ∧ p < 64) ∧ relP s x y := by rw [relP_or]; omega
              have hc2 : (0 ≤ s ∧ s ≤ 6) ∧ lowP p s x y := by rw [lowP_or]; omega
              exact lm_rule hX hA hr hV hc1 hc2 (hL hc1 hc2)
            · skip
              try simp only [b2_cast, b2_ncast, Classical.not_not, lcm_lt, lcm_ge, lcm_gt, lcm_le, lcm_eq, b2_0, b2_n0, Bool.not_eq_false, Bool.not_eq_true, decide_eq_true_eq, decide_eq_false_iff_not] at bh15
              refine V.blk [(61, .aload 0, 1), (62, .iload 3, 1), (63, .iload 1, 1)] (ps := []) (z' := (64, [some (aR 52), some (aI p), some (aI s), some (aI x), some (aI y), none, none, none], [aI p, aI x, aR 52], MM N I J)) (by decide +kernel) rfl trivial ?_
              refine V.cv (c := 134) (na := 3) (o := 10) (a := 52) [aI p, aI x] [] (by decide +kernel) rfl rfl rfl rfl rfl (V.pr (m_X10_isLower) ?_)
              show V 135 (67, [some (aR 52), some (aI p), some (aI s), some (aI x), some (aI y), none, none, none], [aI (b2 (decide (0 ≤ x ∧ x < p)))], MM N I J) _
              refine V.blk [(67, .ifCond .eq 80, 3)] (ps := []) (z' := (brc .eq (b2 (decide (0 ≤ x ∧ x < p))) 0 80 70, [some (aR 52), some (aI p), some (aI s), some (aI x), some (aI y), none, none, none], [], MM N I J)) (by decide +kernel) rfl trivial ?_
              refine V.eq (fun bh16 => ?_) (fun bh17 => ?_)
              · skip
                try simp only [b2_cast, b2_ncast, Classical.not_not, lcm_lt, lcm_ge, lcm_gt, lcm_le, lcm_eq, b2_0, b2_n0, Bool.not_eq_false, Bool.not_eq_true, decide_eq_true_eq, decide_eq_false_iff_not] at bh16
                refine V.blk [(80, .aload 0, 1), (81, .bipush (-8), 2)] (ps := []) (z' := (83, [some (aR 52), some (aI p), some (aI s), some (aI x), some (aI y), none, none, none], [aI (-8), aR 52], MM N I J)) (by decide +kernel) rfl trivial ?_
                refine V.cv (c := 116) (na := 2) (o := 10) (a := 52) [aI (-8)] [] (by decide +kernel) rfl rfl rfl rfl rfl ((m_no (by assumption) (by omega)).mono (fun rv M1 q => ?_))
                obtain ⟨rfl, rfl⟩ := q
                show V 135 (86, [some (aR 52), some (aI p), some (aI s), some (aI x), some (aI y), none, none, none], [aI (-8)], MM N ((noU I (-8))) J) _
                refine V.nI (fun I18 eI18 => ?_)
                refine V.ri (by decide +kernel) ?_
                refine ⟨-8, rfU K (-8), noU I (-8), rfl, by subst_vars; rfl, ⟨fun w => ?_, fun w1 w2 => ?_, fun w1 w2 => ?_⟩, hA.rf (by decide), ⟨Or.inr ⟨by unfold noU; rw [ma_ne _ _ (by decide)], sameS.rf _ _⟩, by unfold noU; rw [ma_ne _ _ (by decide)], by unfold noU; rw [ma_ne _ _ (by decide)], by unfold noU; rw [ma_ne _ _ (by decide)], by unfold noU; rw [ma_ne _ _ (by decide)], by unfold noU; rw [ma_ne _ _ (by decide)], by unfold noU; rw [ma_ne _ _ (by decide)]⟩⟩
                all_goals first
                  | exact ⟨rfl, rfl⟩
                  | (exfalso
                     rw [relP_or] at *
                     (try rw [lowP_or] at *)
                     omega)
              · skip
                try simp only [b2_cast, b2_ncast, Classical.not_not, lcm_lt, lcm_ge, lcm_gt, lcm_le, lcm_eq, b2_0, b2_n0, Bool.not_eq_false, Bool.not_eq_true, decide_eq_true_eq, decide_eq_false_iff_not] at bh17
                refine V.blk [(70, .aload 0, 1), (71, .iload 4, 2), (73, .iload 1, 1)] (ps := []) (z' := (74, [some (aR 52), some (aI p), some (aI s), some (aI x), some (aI y), none, none, none], [aI p, aI y, aR 52], MM N I J)) (by decide +kernel) rfl trivial ?_
                refine V.cv (c := 134) (na := 3) (o := 10) (a := 52) [aI p, aI y] [] (by decide +kernel) rfl rfl rfl rfl rfl (V.pr (m_X10_isLower) ?_)
                show V 135 (77, [some (aR 52), some (aI p), some (aI s), some (aI x), some (aI y), none, none, none], [aI (b2 (decide (0 ≤ y ∧ y < p)))], MM N I J) _
                refine V.blk [(77, .ifCond .ne 87, 3)] (ps := []) (z' := (brc .ne (b2 (decide (0 ≤ y ∧ y < p))) 0 87 80, [some (aR 52), some (aI p), some (aI s), some (aI x), some (aI y), none, none, none], [], MM N I J)) (by decide +kernel) rfl trivial ?_
                refine V.ne (fun bh19 => ?_) (fun bh20 => ?_)
                · skip
                  try simp only [b2_cast, b2_ncast, Classical.not_not, lcm_lt, lcm_ge, lcm_gt, lcm_le, lcm_eq, b2_0, b2_n0, Bool.not_eq_false, Bool.not_eq_true, decide_eq_true_eq, decide_eq_false_iff_not] at bh19
                  have hc1 : (0 ≤ p ∧ p < 64) ∧ relP s x y := by rw [relP_or]; omega
                  have hc2 : (0 ≤ s ∧ s ≤ 6) ∧ lowP p s x y := by rw [lowP_or]; omega
                  exact lm_rule hX hA hr hV hc1 hc2 (hL hc1 hc2)
                · skip
                  try simp only [b2_cast, b2_ncast, Classical.not_not, lcm_lt, lcm_ge, lcm_gt, lcm_le, lcm_eq, b2_0, b2_n0, Bool.not_eq_false, Bool.not_eq_true, decide_eq_true_eq, decide_eq_false_iff_not] at bh20
                  refine V.blk [(80, .aload 0, 1), (81, .bipush (-8), 2)] (ps := []) (z' := (83, [some (aR 52), some (aI p), some (aI s), some (aI x), some (aI y), none, none, none], [aI (-8), aR 52], MM N I J)) (by decide +kernel) rfl trivial ?_
                  refine V.cv (c := 116) (na := 2) (o := 10) (a := 52) [aI (-8)] [] (by decide +kernel) rfl rfl rfl rfl rfl ((m_no (by assumption) (by omega)).mono (fun rv M1 q => ?_))
                  obtain ⟨rfl, rfl⟩ := q
                  show V 135 (86, [some (aR 52), some (aI p), some (aI s), some (aI x), some (aI y), none, none, none], [aI (-8)], MM N ((noU I (-8))) J) _
                  refine V.nI (fun I21 eI21 => ?_)
                  refine V.ri (by decide +kernel) ?_
                  refine ⟨-8, rfU K (-8), noU I (-8), rfl, by subst_vars; rfl, ⟨fun w => ?_, fun w1 w2 => ?_, fun w1 w2 => ?_⟩, hA.rf (by decide), ⟨Or.inr ⟨by unfold noU; rw [ma_ne _ _ (by decide)], sameS.rf _ _⟩, by unfold noU; rw [ma_ne _ _ (by decide)], by unfold noU; rw [ma_ne _ _ (by decide)], by unfold noU; rw [ma_ne _ _ (by decide)], by unfold noU; rw [ma_ne _ _ (by decide)], by unfold noU; rw [ma_ne _ _ (by decide)], by unfold noU; rw [ma_ne _ _ (by decide)]⟩⟩
                  all_goals first
                    | exact ⟨rfl, rfl⟩
                    | (exfalso
                       rw [relP_or] at *
                       (try rw [lowP_or] at *)
                       omega)
        · skip
          try simp only [b2_cast, b2_ncast, Classical.not_not, lcm_lt, lcm_ge, lcm_gt, lcm_le, lcm_eq, b2_0, b2_n0, Bool.not_eq_false, Bool.not_eq_true, decide_eq_true_eq, decide_eq_false_iff_not] at bh10
          refine V.blk [(29, .iload 4, 2)] (ps := []) (z' := (31, [some (aR 52), some (aI p), some (aI s), some (aI x), some (aI y), none, none, none], [aI y], MM N I J)) (by decide +kernel) rfl trivial ?_
          refine V.cs (c := 118) (na := 1) [aI y] [] (by decide +kernel) rfl rfl (V.pr (m_X10_isRelation) ?_)
          show V 135 (34, [some (aR 52), some (aI p), some (aI s), some (aI x), some (aI y), none, none, none], [aI (b2 (decide (0 ≤ y ∧ y < 8)))], MM N I J) _
          refine V.blk [(34, .ifCond .ne 44, 3)] (ps := []) (z' := (brc .ne (b2 (decide (0 ≤ y ∧ y < 8))) 0 44 37, [some (aR 52), some (aI p), some (aI s), some (aI x), some (aI y), none, none, none], [], MM N I J)) (by decide +kernel) rfl trivial ?_
          refine V.ne (fun bh22 => ?_) (fun bh23 => ?_)
          · skip
            try simp only [b2_cast, b2_ncast, Classical.not_not, lcm_lt, lcm_ge, lcm_gt, lcm_le, lcm_eq, b2_0, b2_n0, Bool.not_eq_false, Bool.not_eq_true, decide_eq_true_eq, decide_eq_false_iff_not] at bh22
            refine V.blk [(44, .iload 2, 1), (45, .i2l, 1), (46, .jsr_w 0, 1), (47, .jsr_w 6, 3)] (ps := []) (z' := (50, [some (aR 52), some (aI p), some (aI s), some (aI x), some (aI y), none, none, none], [aL (Int64.ofInt 6), aL (Int64.ofInt 0), aL (Int64.ofInt s)], MM N I J)) (by decide +kernel) rfl trivial ?_
            refine V.cs (c := 115) (na := 3) [aL (Int64.ofInt 6), aL (Int64.ofInt 0), aL (Int64.ofInt s)] [] (by decide +kernel) rfl rfl (V.pr (m_X10_isIn (by unfold inR; omega) (by unfold inR; omega) (by unfold inR; omega)) ?_)
            show V 135 (53, [some (aR 52), some (aI p), some (aI s), some (aI x), some (aI y), none, none, none], [aI (b2 (decide (0 ≤ s ∧ s ≤ 6)))], MM N I J) _
            refine V.blk [(53, .ifCond .eq 80, 3)] (ps := []) (z' := (brc .eq (b2 (decide (0 ≤ s ∧ s ≤ 6))) 0 80 56, [some (aR 52), some (aI p), some (aI s), some (aI x), some (aI y), none, none, none], [], MM N I J)) (by decide +kernel) rfl trivial ?_
            refine V.eq (fun bh24 => ?_) (fun bh25 => ?_)
            · skip
              try simp only [b2_cast, b2_ncast, Classical.not_not, lcm_lt, lcm_ge, lcm_gt, lcm_le, lcm_eq, b2_0, b2_n0, Bool.not_eq_false, Bool.not_eq_true, decide_eq_true_eq, decide_eq_false_iff_not] at bh24
              refine V.blk [(80, .aload 0, 1), (81, .bipush (-8), 2)] (ps := []) (z' := (83, [some (aR 52), some (aI p), some (aI s), some (aI x), some (aI y), none, none, none], [aI (-8), aR 52], MM N I J)) (by decide +kernel) rfl trivial ?_
              refine V.cv (c := 116) (na := 2) (o := 10) (a := 52) [aI (-8)] [] (by decide +kernel) rfl rfl rfl rfl rfl ((m_no (by assumption) (by omega)).mono (fun rv M1 q => ?_))
              obtain ⟨rfl, rfl⟩ := q
              show V 135 (86, [some (aR 52), some (aI p), some (aI s), some (aI x), some (aI y), none, none, none], [aI (-8)], MM N ((noU I (-8))) J) _
              refine V.nI (fun I26 eI26 => ?_)
              refine V.ri (by decide +kernel) ?_
              refine ⟨-8, rfU K (-8), noU I (-8), rfl, by subst_vars; rfl, ⟨fun w => ?_, fun w1 w2 => ?_, fun w1 w2 => ?_⟩, hA.rf (by decide), ⟨Or.inr ⟨by unfold noU; rw [ma_ne _ _ (by decide)], sameS.rf _ _⟩, by unfold noU; rw [ma_ne _ _ (by decide)], by unfold noU; rw [ma_ne _ _ (by decide)], by unfold noU; rw [ma_ne _ _ (by decide)], by unfold noU; rw [ma_ne _ _ (by decide)], by unfold noU; rw [ma_ne _ _ (by decide)], by unfold noU; rw [ma_ne _ _ (by decide)]⟩⟩
              all_goals first
                | exact ⟨rfl, rfl⟩
                | (exfalso
                   rw [relP_or] at *
                   (try rw [lowP_or] at *)
                   omega)
            · skip
              try simp only [b2_cast, b2_ncast, Classical.not_not, lcm_lt, lcm_ge, lcm_gt, lcm_le, lcm_eq, b2_0, b2_n0, Bool.not_eq_false, Bool.not_eq_true, decide_eq_true_eq, decide_eq_false_iff_not] at bh25
              refine V.blk [(56, .iload 2, 1), (57, .bipush 4, 1), (58, .if_icmp .lt 87, 3)] (ps := []) (z' := (brc .lt s 4 87 61, [some (aR 52), some (aI p), some (aI s), some (aI x), some (aI y), none, none, none], [], MM N I J)) (by decide +kernel) rfl trivial ?_
              refine V.lt (fun bh27 => ?_) (fun bh28 => ?_)
              · skip
                try simp only [b2_cast, b2_ncast, Classical.not_not, lcm_lt, lcm_ge, lcm_gt, lcm_le, lcm_eq, b2_0, b2_n0, Bool.not_eq_false, Bool.not_eq_true, decide_eq_true_eq, decide_eq_false_iff_not] at bh27
                have hc1 : (0 ≤ p ∧ p < 64) ∧ relP s x y := by rw [relP_or]; omega
                have hc2 : (0 ≤ s ∧ s ≤ 6) ∧ lowP p s x y := by rw [lowP_or]; omega
                exact lm_rule hX hA hr hV hc1 hc2 (hL hc1 hc2)
              · skip
                try simp only [b2_cast, b2_ncast, Classical.not_not, lcm_lt, lcm_ge, lcm_gt, lcm_le, lcm_eq, b2_0, b2_n0, Bool.not_eq_false, Bool.not_eq_true, decide_eq_true_eq, decide_eq_false_iff_not] at bh28
                refine V.blk [(61, .aload 0, 1), (62, .iload 3, 1), (63, .iload 1, 1)] (ps := []) (z' := (64, [some (aR 52), some (aI p), some (aI s), some (aI x), some (aI y), none, none, none], [aI p, aI x, aR 52], MM N I J)) (by decide +kernel) rfl trivial ?_
                refine V.cv (c := 134) (na := 3) (o := 10) (a := 52) [aI p, aI x] [] (by decide +kernel) rfl rfl rfl rfl rfl (V.pr (m_X10_isLower) ?_)
                show V 135 (67, [some (aR 52), some (aI p), some (aI s), some (aI x), some (aI y), none, none, none], [aI (b2 (decide (0 ≤ x ∧ x < p)))], MM N I J) _
                refine V.blk [(67, .ifCond .eq 80, 3)] (ps := []) (z' := (brc .eq (b2 (decide (0 ≤ x ∧ x < p))) 0 80 70, [some (aR 52), some (aI p), some (aI s), some (aI x), some (aI y), none, none, none], [], MM N I J)) (by decide +kernel) rfl trivial ?_
                refine V.eq (fun bh29 => ?_) (fun bh30 => ?_)
                · skip
                  try simp only [b2_cast, b2_ncast, Classical.not_not, lcm_lt, lcm_ge, lcm_gt, lcm_le, lcm_eq, b2_0, b2_n0, Bool.not_eq_false, Bool.not_eq_true, decide_eq_true_eq, decide_eq_false_iff_not] at bh29
                  refine V.blk [(80, .aload 0, 1), (81, .bipush (-8), 2)] (ps := []) (z' := (83, [some (aR 52), some (aI p), some (aI s), some (aI x), some (aI y), none, none, none], [aI (-8), aR 52], MM N I J)) (by decide +kernel) rfl trivial ?_
                  refine V.cv (c := 116) (na := 2) (o := 10) (a := 52) [aI (-8)] [] (by decide +kernel) rfl rfl rfl rfl rfl ((m_no (by assumption) (by omega)).mono (fun rv M1 q => ?_))
                  obtain ⟨rfl, rfl⟩ := q
                  show V 135 (86, [some (aR 52), some (aI p), some (aI s), some (aI x), some (aI y), none, none, none], [aI (-8)], MM N ((noU I (-8))) J) _
                  refine V.nI (fun I31 eI31 => ?_)
                  refine V.ri (by decide +kernel) ?_
                  refine ⟨-8, rfU K (-8), noU I (-8), rfl, by subst_vars; rfl, ⟨fun w => ?_, fun w1 w2 => ?_, fun w1 w2 => ?_⟩, hA.rf (by decide), ⟨Or.inr ⟨by unfold noU; rw [ma_ne _ _ (by decide)], sameS.rf _ _⟩, by unfold noU; rw [ma_ne _ _ (by decide)], by unfold noU; rw [ma_ne _ _ (by decide)], by unfold noU; rw [ma_ne _ _ (by decide)], by unfold noU; rw [ma_ne _ _ (by decide)], by unfold noU; rw [ma_ne _ _ (by decide)], by unfold noU; rw [ma_ne _ _ (by decide)]⟩⟩
                  all_goals first
                    | exact ⟨rfl, rfl⟩
                    | (exfalso
                       rw [relP_or] at *
                       (try rw [lowP_or] at *)
                       omega)
                · skip
                  try simp only [b2_cast, b2_ncast, Classical.not_not, lcm_lt, lcm_ge, lcm_gt, lcm_le, lcm_eq, b2_0, b2_n0, Bool.not_eq_false, Bool.not_eq_true, decide_eq_true_eq, decide_eq_false_iff_not] at bh30
                  refine V.blk [(70, .aload 0, 1), (71, .iload 4, 2), (73, .iload 1, 1)] (ps := []) (z' := (74, [some (aR 52), some (aI p), some (aI s), some (aI x), some (aI y), none, none, none], [aI p, aI y, aR 52], MM N I J)) (by decide +kernel) rfl trivial ?_
                  refine V.cv (c := 134) (na := 3) (o := 10) (a := 52) [aI p, aI y] [] (by decide +kernel) rfl rfl rfl rfl rfl (V.pr (m_X10_isLower) ?_)
                  show V 135 (77, [some (aR 52), some (aI p), some (aI s), some (aI x), some (aI y), none, none, none], [aI (b2 (decide (0 ≤ y ∧ y < p)))], MM N I J) _
                  refine V.blk [(77, .ifCond .ne 87, 3)] (ps := []) (z' := (brc .ne (b2 (decide (0 ≤ y ∧ y < p))) 0 87 80, [some (aR 52), some (aI p), some (aI s), some (aI x), some (aI y), none, none, none], [], MM N I J)) (by decide +kernel) rfl trivial ?_
                  refine V.ne (fun bh32 => ?_) (fun bh33 => ?_)
                  · skip
                    try simp only [b2_cast, b2_ncast, Classical.not_not, lcm_lt, lcm_ge, lcm_gt, lcm_le, lcm_eq, b2_0, b2_n0, Bool.not_eq_false, Bool.not_eq_true, decide_eq_true_eq, decide_eq_false_iff_not] at bh32
                    have hc1 : (0 ≤ p ∧ p < 64) ∧ relP s x y := by rw [relP_or]; omega
                    have hc2 : (0 ≤ s ∧ s ≤ 6) ∧ lowP p s x y := by rw [lowP_or]; omega
                    exact lm_rule hX hA hr hV hc1 hc2 (hL hc1 hc2)
                  · skip
                    try simp only [b2_cast, b2_ncast, Classical.not_not, lcm_lt, lcm_ge, lcm_gt, lcm_le, lcm_eq, b2_0, b2_n0, Bool.not_eq_false, Bool.not_eq_true, decide_eq_true_eq, decide_eq_false_iff_not] at bh33
                    refine V.blk [(80, .aload 0, 1), (81, .bipush (-8), 2)] (ps := []) (z' := (83, [some (aR 52), some (aI p), some (aI s), some (aI x), some (aI y), none, none, none], [aI (-8), aR 52], MM N I J)) (by decide +kernel) rfl trivial ?_
                    refine V.cv (c := 116) (na := 2) (o := 10) (a := 52) [aI (-8)] [] (by decide +kernel) rfl rfl rfl rfl rfl ((m_no (by assumption) (by omega)).mono (fun rv M1 q => ?_))
                    obtain ⟨rfl, rfl⟩ := q
                    show V 135 (86, [some (aR 52), some (aI p), some (aI s), some (aI x), some (aI y), none, none, none], [aI (-8)], MM N ((noU I (-8))) J) _
                    refine V.nI (fun I34 eI34 => ?_)
                    refine V.ri (by decide +kernel) ?_
                    refine ⟨-8, rfU K (-8), noU I (-8), rfl, by subst_vars; rfl, ⟨fun w => ?_, fun w1 w2 => ?_, fun w1 w2 => ?_⟩, hA.rf (by decide), ⟨Or.inr ⟨by unfold noU; rw [ma_ne _ _ (by decide)], sameS.rf _ _⟩, by unfold noU; rw [ma_ne _ _ (by decide)], by unfold noU; rw [ma_ne _ _ (by decide)], by unfold noU; rw [ma_ne _ _ (by decide)], by unfold noU; rw [ma_ne _ _ (by decide)], by unfold noU; rw [ma_ne _ _ (by decide)], by unfold noU; rw [ma_ne _ _ (by decide)]⟩⟩
                    all_goals first
                      | exact ⟨rfl, rfl⟩
                      | (exfalso
                         rw [relP_or] at *
                         (try rw [lowP_or] at *)
                         omega)
          · skip
            try simp only [b2_cast, b2_ncast, Classical.not_not, lcm_lt, lcm_ge, lcm_gt, lcm_le, lcm_eq, b2_0, b2_n0, Bool.not_eq_false, Bool.not_eq_true, decide_eq_true_eq, decide_eq_false_iff_not] at bh23
            refine V.blk [(37, .aload 0, 1), (38, .bipush (-3), 2)] (ps := []) (z' := (40, [some (aR 52), some (aI p), some (aI s), some (aI x), some (aI y), none, none, none], [aI (-3), aR 52], MM N I J)) (by decide +kernel) rfl trivial ?_
            refine V.cv (c := 116) (na := 2) (o := 10) (a := 52) [aI (-3)] [] (by decide +kernel) rfl rfl rfl rfl rfl ((m_no (by assumption) (by omega)).mono (fun rv M1 q => ?_))
            obtain ⟨rfl, rfl⟩ := q
            show V 135 (43, [some (aR 52), some (aI p), some (aI s), some (aI x), some (aI y), none, none, none], [aI (-3)], MM N ((noU I (-3))) J) _
            refine V.nI (fun I35 eI35 => ?_)
            refine V.ri (by decide +kernel) ?_
            refine ⟨-3, rfU K (-3), noU I (-3), rfl, by subst_vars; rfl, ⟨fun w => ?_, fun w1 w2 => ?_, fun w1 w2 => ?_⟩, hA.rf (by decide), ⟨Or.inr ⟨by unfold noU; rw [ma_ne _ _ (by decide)], sameS.rf _ _⟩, by unfold noU; rw [ma_ne _ _ (by decide)], by unfold noU; rw [ma_ne _ _ (by decide)], by unfold noU; rw [ma_ne _ _ (by decide)], by unfold noU; rw [ma_ne _ _ (by decide)], by unfold noU; rw [ma_ne _ _ (by decide)], by unfold noU; rw [ma_ne _ _ (by decide)]⟩⟩
            all_goals first
              | exact ⟨rfl, rfl⟩
              | (exfalso
                 rw [relP_or] at *
                 (try rw [lowP_or] at *)
                 omega)
    · skip
      try simp only [b2_cast, b2_ncast, Classical.not_not, lcm_lt, lcm_ge, lcm_gt, lcm_le, lcm_eq, b2_0, b2_n0, Bool.not_eq_false, Bool.not_eq_true, decide_eq_true_eq, decide_eq_false_iff_not] at bh5
      refine V.blk [(12, .iload 2, 1), (13, .bipush 3, 1), (14, .if_icmp .ne 24, 3)] (ps := []) (z' := (brc .ne s 3 24 17, [some (aR 52), some (aI p), some (aI s), some (aI x), some (aI y), none, none, none], [], MM N I J)) (by decide +kernel) rfl trivial ?_
      refine V.ne (fun bh36 => ?_) (fun bh37 => ?_)
      · skip
        try simp only [b2_cast, b2_ncast, Classical.not_not, lcm_lt, lcm_ge, lcm_gt, lcm_le, lcm_eq, b2_0, b2_n0, Bool.not_eq_false, Bool.not_eq_true, decide_eq_true_eq, decide_eq_false_iff_not] at bh36
        refine V.blk [(24, .iload 2, 1), (25, .bipush 3, 1), (26, .if_icmp .ne 44, 3)] (ps := []) (z' := (brc .ne s 3 44 29, [some (aR 52), some (aI p), some (aI s), some (aI x), some (aI y), none, none, none], [], MM N I J)) (by decide +kernel) rfl trivial ?_
        refine V.ne (fun bh38 => ?_) (fun bh39 => ?_)
        · skip
          try simp only [b2_cast, b2_ncast, Classical.not_not, lcm_lt, lcm_ge, lcm_gt, lcm_le, lcm_eq, b2_0, b2_n0, Bool.not_eq_false, Bool.not_eq_true, decide_eq_true_eq, decide_eq_false_iff_not] at bh38
          refine V.blk [(44, .iload 2, 1), (45, .i2l, 1), (46, .jsr_w 0, 1), (47, .jsr_w 6, 3)] (ps := []) (z' := (50, [some (aR 52), some (aI p), some (aI s), some (aI x), some (aI y), none, none, none], [aL (Int64.ofInt 6), aL (Int64.ofInt 0), aL (Int64.ofInt s)], MM N I J)) (by decide +kernel) rfl trivial ?_
          refine V.cs (c := 115) (na := 3) [aL (Int64.ofInt 6), aL (Int64.ofInt 0), aL (Int64.ofInt s)] [] (by decide +kernel) rfl rfl (V.pr (m_X10_isIn (by unfold inR; omega) (by unfold inR; omega) (by unfold inR; omega)) ?_)
          show V 135 (53, [some (aR 52), some (aI p), some (aI s), some (aI x), some (aI y), none, none, none], [aI (b2 (decide (0 ≤ s ∧ s ≤ 6)))], MM N I J) _
          refine V.blk [(53, .ifCond .eq 80, 3)] (ps := []) (z' := (brc .eq (b2 (decide (0 ≤ s ∧ s ≤ 6))) 0 80 56, [some (aR 52), some (aI p), some (aI s), some (aI x), some (aI y), none, none, none], [], MM N I J)) (by decide +kernel) rfl trivial ?_
          refine V.eq (fun bh40 => ?_) (fun bh41 => ?_)
          · skip
            try simp only [b2_cast, b2_ncast, Classical.not_not, lcm_lt, lcm_ge, lcm_gt, lcm_le, lcm_eq, b2_0, b2_n0, Bool.not_eq_false, Bool.not_eq_true, decide_eq_true_eq, decide_eq_false_iff_not] at bh40
            refine V.blk [(80, .aload 0, 1), (81, .bipush (-8), 2)] (ps := []) (z' := (83, [some (aR 52), some (aI p), some (aI s), some (aI x), some (aI y), none, none, none], [aI (-8), aR 52], MM N I J)) (by decide +kernel) rfl trivial ?_
            refine V.cv (c := 116) (na := 2) (o := 10) (a := 52) [aI (-8)] [] (by decide +kernel) rfl rfl rfl rfl rfl ((m_no (by assumption) (by omega)).mono (fun rv M1 q => ?_))
            obtain ⟨rfl, rfl⟩ := q
            show V 135 (86, [some (aR 52), some (aI p), some (aI s), some (aI x), some (aI y), none, none, none], [aI (-8)], MM N ((noU I (-8))) J) _
            refine V.nI (fun I42 eI42 => ?_)
            refine V.ri (by decide +kernel) ?_
            refine ⟨-8, rfU K (-8), noU I (-8), rfl, by subst_vars; rfl, ⟨fun w => ?_, fun w1 w2 => ?_, fun w1 w2 => ?_⟩, hA.rf (by decide), ⟨Or.inr ⟨by unfold noU; rw [ma_ne _ _ (by decide)], sameS.rf _ _⟩, by unfold noU; rw [ma_ne _ _ (by decide)], by unfold noU; rw [ma_ne _ _ (by decide)], by unfold noU; rw [ma_ne _ _ (by decide)], by unfold noU; rw [ma_ne _ _ (by decide)], by unfold noU; rw [ma_ne _ _ (by decide)], by unfold noU; rw [ma_ne _ _ (by decide)]⟩⟩
            all_goals first
              | exact ⟨rfl, rfl⟩
              | (exfalso
                 rw [relP_or] at *
                 (try rw [lowP_or] at *)
                 omega)
          · skip
            try simp only [b2_cast, b2_ncast, Classical.not_not, lcm_lt, lcm_ge, lcm_gt, lcm_le, lcm_eq, b2_0, b2_n0, Bool.not_eq_false, Bool.not_eq_true, decide_eq_true_eq, decide_eq_false_iff_not] at bh41
            refine V.blk [(56, .iload 2, 1), (57, .bipush 4, 1), (58, .if_icmp .lt 87, 3)] (ps := []) (z' := (brc .lt s 4 87 61, [some (aR 52), some (aI p), some (aI s), some (aI x), some (aI y), none, none, none], [], MM N I J)) (by decide +kernel) rfl trivial ?_
            refine V.lt (fun bh43 => ?_) (fun bh44 => ?_)
            · skip
              try simp only [b2_cast, b2_ncast, Classical.not_not, lcm_lt, lcm_ge, lcm_gt, lcm_le, lcm_eq, b2_0, b2_n0, Bool.not_eq_false, Bool.not_eq_true, decide_eq_true_eq, decide_eq_false_iff_not] at bh43
              have hc1 : (0 ≤ p ∧ p < 64) ∧ relP s x y := by rw [relP_or]; omega
              have hc2 : (0 ≤ s ∧ s ≤ 6) ∧ lowP p s x y := by rw [lowP_or]; omega
              exact lm_rule hX hA hr hV hc1 hc2 (hL hc1 hc2)
            · skip
              try simp only [b2_cast, b2_ncast, Classical.not_not, lcm_lt, lcm_ge, lcm_gt, lcm_le, lcm_eq, b2_0, b2_n0, Bool.not_eq_false, Bool.not_eq_true, decide_eq_true_eq, decide_eq_false_iff_not] at bh44
              refine V.blk [(61, .aload 0, 1), (62, .iload 3, 1), (63, .iload 1, 1)] (ps := []) (z' := (64, [some (aR 52), some (aI p), some (aI s), some (aI x), some (aI y), none, none, none], [aI p, aI x, aR 52], MM N I J)) (by decide +kernel) rfl trivial ?_
              refine V.cv (c := 134) (na := 3) (o := 10) (a := 52) [aI p, aI x] [] (by decide +kernel) rfl rfl rfl rfl rfl (V.pr (m_X10_isLower) ?_)
              show V 135 (67, [some (aR 52), some (aI p), some (aI s), some (aI x), some (aI y), none, none, none], [aI (b2 (decide (0 ≤ x ∧ x < p)))], MM N I J) _
              refine V.blk [(67, .ifCond .eq 80, 3)] (ps := []) (z' := (brc .eq (b2 (decide (0 ≤ x ∧ x < p))) 0 80 70, [some (aR 52), some (aI p), some (aI s), some (aI x), some (aI y), none, none, none], [], MM N I J)) (by decide +kernel) rfl trivial ?_
              refine V.eq (fun bh45 => ?_) (fun bh46 => ?_)
              · skip
                try simp only [b2_cast, b2_ncast, Classical.not_not, lcm_lt, lcm_ge, lcm_gt, lcm_le, lcm_eq, b2_0, b2_n0, Bool.not_eq_false, Bool.not_eq_true, decide_eq_true_eq, decide_eq_false_iff_not] at bh45
                refine V.blk [(80, .aload 0, 1), (81, .bipush (-8), 2)] (ps := []) (z' := (83, [some (aR 52), some (aI p), some (aI s), some (aI x), some (aI y), none, none, none], [aI (-8), aR 52], MM N I J)) (by decide +kernel) rfl trivial ?_
                refine V.cv (c := 116) (na := 2) (o := 10) (a := 52) [aI (-8)] [] (by decide +kernel) rfl rfl rfl rfl rfl ((m_no (by assumption) (by omega)).mono (fun rv M1 q => ?_))
                obtain ⟨rfl, rfl⟩ := q
                show V 135 (86, [some (aR 52), some (aI p), some (aI s), some (aI x), some (aI y), none, none, none], [aI (-8)], MM N ((noU I (-8))) J) _
                refine V.nI (fun I47 eI47 => ?_)
                refine V.ri (by decide +kernel) ?_
                refine ⟨-8, rfU K (-8), noU I (-8), rfl, by subst_vars; rfl, ⟨fun w => ?_, fun w1 w2 => ?_, fun w1 w2 => ?_⟩, hA.rf (by decide), ⟨Or.inr ⟨by unfold noU; rw [ma_ne _ _ (by decide)], sameS.rf _ _⟩, by unfold noU; rw [ma_ne _ _ (by decide)], by unfold noU; rw [ma_ne _ _ (by decide)], by unfold noU; rw [ma_ne _ _ (by decide)], by unfold noU; rw [ma_ne _ _ (by decide)], by unfold noU; rw [ma_ne _ _ (by decide)], by unfold noU; rw [ma_ne _ _ (by decide)]⟩⟩
                all_goals first
                  | exact ⟨rfl, rfl⟩
                  | (exfalso
                     rw [relP_or] at *
                     (try rw [lowP_or] at *)
                     omega)
              · skip
                try simp only [b2_cast, b2_ncast, Classical.not_not, lcm_lt, lcm_ge, lcm_gt, lcm_le, lcm_eq, b2_0, b2_n0, Bool.not_eq_false, Bool.not_eq_true, decide_eq_true_eq, decide_eq_false_iff_not] at bh46
                refine V.blk [(70, .aload 0, 1), (71, .iload 4, 2), (73, .iload 1, 1)] (ps := []) (z' := (74, [some (aR 52), some (aI p), some (aI s), some (aI x), some (aI y), none, none, none], [aI p, aI y, aR 52], MM N I J)) (by decide +kernel) rfl trivial ?_
                refine V.cv (c := 134) (na := 3) (o := 10) (a := 52) [aI p, aI y] [] (by decide +kernel) rfl rfl rfl rfl rfl (V.pr (m_X10_isLower) ?_)
                show V 135 (77, [some (aR 52), some (aI p), some (aI s), some (aI x), some (aI y), none, none, none], [aI (b2 (decide (0 ≤ y ∧ y < p)))], MM N I J) _
                refine V.blk [(77, .ifCond .ne 87, 3)] (ps := []) (z' := (brc .ne (b2 (decide (0 ≤ y ∧ y < p))) 0 87 80, [some (aR 52), some (aI p), some (aI s), some (aI x), some (aI y), none, none, none], [], MM N I J)) (by decide +kernel) rfl trivial ?_
                refine V.ne (fun bh48 => ?_) (fun bh49 => ?_)
                · skip
                  try simp only [b2_cast, b2_ncast, Classical.not_not, lcm_lt, lcm_ge, lcm_gt, lcm_le, lcm_eq, b2_0, b2_n0, Bool.not_eq_false, Bool.not_eq_true, decide_eq_true_eq, decide_eq_false_iff_not] at bh48
                  have hc1 : (0 ≤ p ∧ p < 64) ∧ relP s x y := by rw [relP_or]; omega
                  have hc2 : (0 ≤ s ∧ s ≤ 6) ∧ lowP p s x y := by rw [lowP_or]; omega
                  exact lm_rule hX hA hr hV hc1 hc2 (hL hc1 hc2)
                · skip
                  try simp only [b2_cast, b2_ncast, Classical.not_not, lcm_lt, lcm_ge, lcm_gt, lcm_le, lcm_eq, b2_0, b2_n0, Bool.not_eq_false, Bool.not_eq_true, decide_eq_true_eq, decide_eq_false_iff_not] at bh49
                  refine V.blk [(80, .aload 0, 1), (81, .bipush (-8), 2)] (ps := []) (z' := (83, [some (aR 52), some (aI p), some (aI s), some (aI x), some (aI y), none, none, none], [aI (-8), aR 52], MM N I J)) (by decide +kernel) rfl trivial ?_
                  refine V.cv (c := 116) (na := 2) (o := 10) (a := 52) [aI (-8)] [] (by decide +kernel) rfl rfl rfl rfl rfl ((m_no (by assumption) (by omega)).mono (fun rv M1 q => ?_))
                  obtain ⟨rfl, rfl⟩ := q
                  show V 135 (86, [some (aR 52), some (aI p), some (aI s), some (aI x), some (aI y), none, none, none], [aI (-8)], MM N ((noU I (-8))) J) _
                  refine V.nI (fun I50 eI50 => ?_)
                  refine V.ri (by decide +kernel) ?_
                  refine ⟨-8, rfU K (-8), noU I (-8), rfl, by subst_vars; rfl, ⟨fun w => ?_, fun w1 w2 => ?_, fun w1 w2 => ?_⟩, hA.rf (by decide), ⟨Or.inr ⟨by unfold noU; rw [ma_ne _ _ (by decide)], sameS.rf _ _⟩, by unfold noU; rw [ma_ne _ _ (by decide)], by unfold noU; rw [ma_ne _ _ (by decide)], by unfold noU; rw [ma_ne _ _ (by decide)], by unfold noU; rw [ma_ne _ _ (by decide)], by unfold noU; rw [ma_ne _ _ (by decide)], by unfold noU; rw [ma_ne _ _ (by decide)]⟩⟩
                  all_goals first
                    | exact ⟨rfl, rfl⟩
                    | (exfalso
                       rw [relP_or] at *
                       (try rw [lowP_or] at *)
                       omega)
        · skip
          try simp only [b2_cast, b2_ncast, Classical.not_not, lcm_lt, lcm_ge, lcm_gt, lcm_le, lcm_eq, b2_0, b2_n0, Bool.not_eq_false, Bool.not_eq_true, decide_eq_true_eq, decide_eq_false_iff_not] at bh39
          refine V.blk [(29, .iload 4, 2)] (ps := []) (z' := (31, [some (aR 52), some (aI p), some (aI s), some (aI x), some (aI y), none, none, none], [aI y], MM N I J)) (by decide +kernel) rfl trivial ?_
          refine V.cs (c := 118) (na := 1) [aI y] [] (by decide +kernel) rfl rfl (V.pr (m_X10_isRelation) ?_)
          show V 135 (34, [some (aR 52), some (aI p), some (aI s), some (aI x), some (aI y), none, none, none], [aI (b2 (decide (0 ≤ y ∧ y < 8)))], MM N I J) _
          refine V.blk [(34, .ifCond .ne 44, 3)] (ps := []) (z' := (brc .ne (b2 (decide (0 ≤ y ∧ y < 8))) 0 44 37, [some (aR 52), some (aI p), some (aI s), some (aI x), some (aI y), none, none, none], [], MM N I J)) (by decide +kernel) rfl trivial ?_
          refine V.ne (fun bh51 => ?_) (fun bh52 => ?_)
          · skip
            try simp only [b2_cast, b2_ncast, Classical.not_not, lcm_lt, lcm_ge, lcm_gt, lcm_le, lcm_eq, b2_0, b2_n0, Bool.not_eq_false, Bool.not_eq_true, decide_eq_true_eq, decide_eq_false_iff_not] at bh51
            refine V.blk [(44, .iload 2, 1), (45, .i2l, 1), (46, .jsr_w 0, 1), (47, .jsr_w 6, 3)] (ps := []) (z' := (50, [some (aR 52), some (aI p), some (aI s), some (aI x), some (aI y), none, none, none], [aL (Int64.ofInt 6), aL (Int64.ofInt 0), aL (Int64.ofInt s)], MM N I J)) (by decide +kernel) rfl trivial ?_
            refine V.cs (c := 115) (na := 3) [aL (Int64.ofInt 6), aL (Int64.ofInt 0), aL (Int64.ofInt s)] [] (by decide +kernel) rfl rfl (V.pr (m_X10_isIn (by unfold inR; omega) (by unfold inR; omega) (by unfold inR; omega)) ?_)
            show V 135 (53, [some (aR 52), some (aI p), some (aI s), some (aI x), some (aI y), none, none, none], [aI (b2 (decide (0 ≤ s ∧ s ≤ 6)))], MM N I J) _
            refine V.blk [(53, .ifCond .eq 80, 3)] (ps := []) (z' := (brc .eq (b2 (decide (0 ≤ s ∧ s ≤ 6))) 0 80 56, [some (aR 52), some (aI p), some (aI s), some (aI x), some (aI y), none, none, none], [], MM N I J)) (by decide +kernel) rfl trivial ?_
            refine V.eq (fun bh53 => ?_) (fun bh54 => ?_)
            · skip
              try simp only [b2_cast, b2_ncast, Classical.not_not, lcm_lt, lcm_ge, lcm_gt, lcm_le, lcm_eq, b2_0, b2_n0, Bool.not_eq_false, Bool.not_eq_true, decide_eq_true_eq, decide_eq_false_iff_not] at bh53
              refine V.blk [(80, .aload 0, 1), (81, .bipush (-8), 2)] (ps := []) (z' := (83, [some (aR 52), some (aI p), some (aI s), some (aI x), some (aI y), none, none, none], [aI (-8), aR 52], MM N I J)) (by decide +kernel) rfl trivial ?_
              refine V.cv (c := 116) (na := 2) (o := 10) (a := 52) [aI (-8)] [] (by decide +kernel) rfl rfl rfl rfl rfl ((m_no (by assumption) (by omega)).mono (fun rv M1 q => ?_))
              obtain ⟨rfl, rfl⟩ := q
              show V 135 (86, [some (aR 52), some (aI p), some (aI s), some (aI x), some (aI y), none, none, none], [aI (-8)], MM N ((noU I (-8))) J) _
              refine V.nI (fun I55 eI55 => ?_)
              refine V.ri (by decide +kernel) ?_
              refine ⟨-8, rfU K (-8), noU I (-8), rfl, by subst_vars; rfl, ⟨fun w => ?_, fun w1 w2 => ?_, fun w1 w2 => ?_⟩, hA.rf (by decide), ⟨Or.inr ⟨by unfold noU; rw [ma_ne _ _ (by decide)], sameS.rf _ _⟩, by unfold noU; rw [ma_ne _ _ (by decide)], by unfold noU; rw [ma_ne _ _ (by decide)], by unfold noU; rw [ma_ne _ _ (by decide)], by unfold noU; rw [ma_ne _ _ (by decide)], by unfold noU; rw [ma_ne _ _ (by decide)], by unfold noU; rw [ma_ne _ _ (by decide)]⟩⟩
              all_goals first
                | exact ⟨rfl, rfl⟩
                | (exfalso
                   rw [relP_or] at *
                   (try rw [lowP_or] at *)
                   omega)
            · skip
              try simp only [b2_cast, b2_ncast, Classical.not_not, lcm_lt, lcm_ge, lcm_gt, lcm_le, lcm_eq, b2_0, b2_n0, Bool.not_eq_false, Bool.not_eq_true, decide_eq_true_eq, decide_eq_false_iff_not] at bh54
              refine V.blk [(56, .iload 2, 1), (57, .bipush 4, 1), (58, .if_icmp .lt 87, 3)] (ps := []) (z' := (brc .lt s 4 87 61, [some (aR 52), some (aI p), some (aI s), some (aI x), some (aI y), none, none, none], [], MM N I J)) (by decide +kernel) rfl trivial ?_
              refine V.lt (fun bh56 => ?_) (fun bh57 => ?_)
              · skip
                try simp only [b2_cast, b2_ncast, Classical.not_not, lcm_lt, lcm_ge, lcm_gt, lcm_le, lcm_eq, b2_0, b2_n0, Bool.not_eq_false, Bool.not_eq_true, decide_eq_true_eq, decide_eq_false_iff_not] at bh56
                have hc1 : (0 ≤ p ∧ p < 64) ∧ relP s x y := by rw [relP_or]; omega
                have hc2 : (0 ≤ s ∧ s ≤ 6) ∧ lowP p s x y := by rw [lowP_or]; omega
                exact lm_rule hX hA hr hV hc1 hc2 (hL hc1 hc2)
              · skip
                try simp only [b2_cast, b2_ncast, Classical.not_not, lcm_lt, lcm_ge, lcm_gt, lcm_le, lcm_eq, b2_0, b2_n0, Bool.not_eq_false, Bool.not_eq_true, decide_eq_true_eq, decide_eq_false_iff_not] at bh57
                refine V.blk [(61, .aload 0, 1), (62, .iload 3, 1), (63, .iload 1, 1)] (ps := []) (z' := (64, [some (aR 52), some (aI p), some (aI s), some (aI x), some (aI y), none, none, none], [aI p, aI x, aR 52], MM N I J)) (by decide +kernel) rfl trivial ?_
                refine V.cv (c := 134) (na := 3) (o := 10) (a := 52) [aI p, aI x] [] (by decide +kernel) rfl rfl rfl rfl rfl (V.pr (m_X10_isLower) ?_)
                show V 135 (67, [some (aR 52), some (aI p), some (aI s), some (aI x), some (aI y), none, none, none], [aI (b2 (decide (0 ≤ x ∧ x < p)))], MM N I J) _
                refine V.blk [(67, .ifCond .eq 80, 3)] (ps := []) (z' := (brc .eq (b2 (decide (0 ≤ x ∧ x < p))) 0 80 70, [some (aR 52), some (aI p), some (aI s), some (aI x), some (aI y), none, none, none], [], MM N I J)) (by decide +kernel) rfl trivial ?_
                refine V.eq (fun bh58 => ?_) (fun bh59 => ?_)
                · skip
                  try simp only [b2_cast, b2_ncast, Classical.not_not, lcm_lt, lcm_ge, lcm_gt, lcm_le, lcm_eq, b2_0, b2_n0, Bool.not_eq_false, Bool.not_eq_true, decide_eq_true_eq, decide_eq_false_iff_not] at bh58
                  refine V.blk [(80, .aload 0, 1), (81, .bipush (-8), 2)] (ps := []) (z' := (83, [some (aR 52), some (aI p), some (aI s), some (aI x), some (aI y), none, none, none], [aI (-8), aR 52], MM N I J)) (by decide +kernel) rfl trivial ?_
                  refine V.cv (c := 116) (na := 2) (o := 10) (a := 52) [aI (-8)] [] (by decide +kernel) rfl rfl rfl rfl rfl ((m_no (by assumption) (by omega)).mono (fun rv M1 q => ?_))
                  obtain ⟨rfl, rfl⟩ := q
                  show V 135 (86, [some (aR 52), some (aI p), some (aI s), some (aI x), some (aI y), none, none, none], [aI (-8)], MM N ((noU I (-8))) J) _
                  refine V.nI (fun I60 eI60 => ?_)
                  refine V.ri (by decide +kernel) ?_
                  refine ⟨-8, rfU K (-8), noU I (-8), rfl, by subst_vars; rfl, ⟨fun w => ?_, fun w1 w2 => ?_, fun w1 w2 => ?_⟩, hA.rf (by decide), ⟨Or.inr ⟨by unfold noU; rw [ma_ne _ _ (by decide)], sameS.rf _ _⟩, by unfold noU; rw [ma_ne _ _ (by decide)], by unfold noU; rw [ma_ne _ _ (by decide)], by unfold noU; rw [ma_ne _ _ (by decide)], by unfold noU; rw [ma_ne _ _ (by decide)], by unfold noU; rw [ma_ne _ _ (by decide)], by unfold noU; rw [ma_ne _ _ (by decide)]⟩⟩
                  all_goals first
                    | exact ⟨rfl, rfl⟩
                    | (exfalso
                       rw [relP_or] at *
                       (try rw [lowP_or] at *)
                       omega)
                · skip
                  try simp only [b2_cast, b2_ncast, Classical.not_not, lcm_lt, lcm_ge, lcm_gt, lcm_le, lcm_eq, b2_0, b2_n0, Bool.not_eq_false, Bool.not_eq_true, decide_eq_true_eq, decide_eq_false_iff_not] at bh59
                  refine V.blk [(70, .aload 0, 1), (71, .iload 4, 2), (73, .iload 1, 1)] (ps := []) (z' := (74, [some (aR 52), some (aI p), some (aI s), some (aI x), some (aI y), none, none, none], [aI p, aI y, aR 52], MM N I J)) (by decide +kernel) rfl trivial ?_
                  refine V.cv (c := 134) (na := 3) (o := 10) (a := 52) [aI p, aI y] [] (by decide +kernel) rfl rfl rfl rfl rfl (V.pr (m_X10_isLower) ?_)
                  show V 135 (77, [some (aR 52), some (aI p), some (aI s), some (aI x), some (aI y), none, none, none], [aI (b2 (decide (0 ≤ y ∧ y < p)))], MM N I J) _
                  refine V.blk [(77, .ifCond .ne 87, 3)] (ps := []) (z' := (brc .ne (b2 (decide (0 ≤ y ∧ y < p))) 0 87 80, [some (aR 52), some (aI p), some (aI s), some (aI x), some (aI y), none, none, none], [], MM N I J)) (by decide +kernel) rfl trivial ?_
                  refine V.ne (fun bh61 => ?_) (fun bh62 => ?_)
                  · skip
                    try simp only [b2_cast, b2_ncast, Classical.not_not, lcm_lt, lcm_ge, lcm_gt, lcm_le, lcm_eq, b2_0, b2_n0, Bool.not_eq_false, Bool.not_eq_true, decide_eq_true_eq, decide_eq_false_iff_not] at bh61
                    have hc1 : (0 ≤ p ∧ p < 64) ∧ relP s x y := by rw [relP_or]; omega
                    have hc2 : (0 ≤ s ∧ s ≤ 6) ∧ lowP p s x y := by rw [lowP_or]; omega
                    exact lm_rule hX hA hr hV hc1 hc2 (hL hc1 hc2)
                  · skip
                    try simp only [b2_cast, b2_ncast, Classical.not_not, lcm_lt, lcm_ge, lcm_gt, lcm_le, lcm_eq, b2_0, b2_n0, Bool.not_eq_false, Bool.not_eq_true, decide_eq_true_eq, decide_eq_false_iff_not] at bh62
                    refine V.blk [(80, .aload 0, 1), (81, .bipush (-8), 2)] (ps := []) (z' := (83, [some (aR 52), some (aI p), some (aI s), some (aI x), some (aI y), none, none, none], [aI (-8), aR 52], MM N I J)) (by decide +kernel) rfl trivial ?_
                    refine V.cv (c := 116) (na := 2) (o := 10) (a := 52) [aI (-8)] [] (by decide +kernel) rfl rfl rfl rfl rfl ((m_no (by assumption) (by omega)).mono (fun rv M1 q => ?_))
                    obtain ⟨rfl, rfl⟩ := q
                    show V 135 (86, [some (aR 52), some (aI p), some (aI s), some (aI x), some (aI y), none, none, none], [aI (-8)], MM N ((noU I (-8))) J) _
                    refine V.nI (fun I63 eI63 => ?_)
                    refine V.ri (by decide +kernel) ?_
                    refine ⟨-8, rfU K (-8), noU I (-8), rfl, by subst_vars; rfl, ⟨fun w => ?_, fun w1 w2 => ?_, fun w1 w2 => ?_⟩, hA.rf (by decide), ⟨Or.inr ⟨by unfold noU; rw [ma_ne _ _ (by decide)], sameS.rf _ _⟩, by unfold noU; rw [ma_ne _ _ (by decide)], by unfold noU; rw [ma_ne _ _ (by decide)], by unfold noU; rw [ma_ne _ _ (by decide)], by unfold noU; rw [ma_ne _ _ (by decide)], by unfold noU; rw [ma_ne _ _ (by decide)], by unfold noU; rw [ma_ne _ _ (by decide)]⟩⟩
                    all_goals first
                      | exact ⟨rfl, rfl⟩
                      | (exfalso
                         rw [relP_or] at *
                         (try rw [lowP_or] at *)
                         omega)
          · skip
            try simp only [b2_cast, b2_ncast, Classical.not_not, lcm_lt, lcm_ge, lcm_gt, lcm_le, lcm_eq, b2_0, b2_n0, Bool.not_eq_false, Bool.not_eq_true, decide_eq_true_eq, decide_eq_false_iff_not] at bh52
            refine V.blk [(37, .aload 0, 1), (38, .bipush (-3), 2)] (ps := []) (z' := (40, [some (aR 52), some (aI p), some (aI s), some (aI x), some (aI y), none, none, none], [aI (-3), aR 52], MM N I J)) (by decide +kernel) rfl trivial ?_
            refine V.cv (c := 116) (na := 2) (o := 10) (a := 52) [aI (-3)] [] (by decide +kernel) rfl rfl rfl rfl rfl ((m_no (by assumption) (by omega)).mono (fun rv M1 q => ?_))
            obtain ⟨rfl, rfl⟩ := q
            show V 135 (43, [some (aR 52), some (aI p), some (aI s), some (aI x), some (aI y), none, none, none], [aI (-3)], MM N ((noU I (-3))) J) _
            refine V.nI (fun I64 eI64 => ?_)
            refine V.ri (by decide +kernel) ?_
            refine ⟨-3, rfU K (-3), noU I (-3), rfl, by subst_vars; rfl, ⟨fun w => ?_, fun w1 w2 => ?_, fun w1 w2 => ?_⟩, hA.rf (by decide), ⟨Or.inr ⟨by unfold noU; rw [ma_ne _ _ (by decide)], sameS.rf _ _⟩, by unfold noU; rw [ma_ne _ _ (by decide)], by unfold noU; rw [ma_ne _ _ (by decide)], by unfold noU; rw [ma_ne _ _ (by decide)], by unfold noU; rw [ma_ne _ _ (by decide)], by unfold noU; rw [ma_ne _ _ (by decide)], by unfold noU; rw [ma_ne _ _ (by decide)]⟩⟩
            all_goals first
              | exact ⟨rfl, rfl⟩
              | (exfalso
                 rw [relP_or] at *
                 (try rw [lowP_or] at *)
                 omega)
      · skip
        try simp only [b2_cast, b2_ncast, Classical.not_not, lcm_lt, lcm_ge, lcm_gt, lcm_le, lcm_eq, b2_0, b2_n0, Bool.not_eq_false, Bool.not_eq_true, decide_eq_true_eq, decide_eq_false_iff_not] at bh37
        refine V.blk [(17, .iload 3, 1)] (ps := []) (z' := (18, [some (aR 52), some (aI p), some (aI s), some (aI x), some (aI y), none, none, none], [aI x], MM N I J)) (by decide +kernel) rfl trivial ?_
        refine V.cs (c := 118) (na := 1) [aI x] [] (by decide +kernel) rfl rfl (V.pr (m_X10_isRelation) ?_)
        show V 135 (21, [some (aR 52), some (aI p), some (aI s), some (aI x), some (aI y), none, none, none], [aI (b2 (decide (0 ≤ x ∧ x < 8)))], MM N I J) _
        refine V.blk [(21, .ifCond .eq 37, 3)] (ps := []) (z' := (brc .eq (b2 (decide (0 ≤ x ∧ x < 8))) 0 37 24, [some (aR 52), some (aI p), some (aI s), some (aI x), some (aI y), none, none, none], [], MM N I J)) (by decide +kernel) rfl trivial ?_
        refine V.eq (fun bh65 => ?_) (fun bh66 => ?_)
        · skip
          try simp only [b2_cast, b2_ncast, Classical.not_not, lcm_lt, lcm_ge, lcm_gt, lcm_le, lcm_eq, b2_0, b2_n0, Bool.not_eq_false, Bool.not_eq_true, decide_eq_true_eq, decide_eq_false_iff_not] at bh65
          refine V.blk [(37, .aload 0, 1), (38, .bipush (-3), 2)] (ps := []) (z' := (40, [some (aR 52), some (aI p), some (aI s), some (aI x), some (aI y), none, none, none], [aI (-3), aR 52], MM N I J)) (by decide +kernel) rfl trivial ?_
          refine V.cv (c := 116) (na := 2) (o := 10) (a := 52) [aI (-3)] [] (by decide +kernel) rfl rfl rfl rfl rfl ((m_no (by assumption) (by omega)).mono (fun rv M1 q => ?_))
          obtain ⟨rfl, rfl⟩ := q
          show V 135 (43, [some (aR 52), some (aI p), some (aI s), some (aI x), some (aI y), none, none, none], [aI (-3)], MM N ((noU I (-3))) J) _
          refine V.nI (fun I67 eI67 => ?_)
          refine V.ri (by decide +kernel) ?_
          refine ⟨-3, rfU K (-3), noU I (-3), rfl, by subst_vars; rfl, ⟨fun w => ?_, fun w1 w2 => ?_, fun w1 w2 => ?_⟩, hA.rf (by decide), ⟨Or.inr ⟨by unfold noU; rw [ma_ne _ _ (by decide)], sameS.rf _ _⟩, by unfold noU; rw [ma_ne _ _ (by decide)], by unfold noU; rw [ma_ne _ _ (by decide)], by unfold noU; rw [ma_ne _ _ (by decide)], by unfold noU; rw [ma_ne _ _ (by decide)], by unfold noU; rw [ma_ne _ _ (by decide)], by unfold noU; rw [ma_ne _ _ (by decide)]⟩⟩
          all_goals first
            | exact ⟨rfl, rfl⟩
            | (exfalso
               rw [relP_or] at *
               (try rw [lowP_or] at *)
               omega)
        · skip
          try simp only [b2_cast, b2_ncast, Classical.not_not, lcm_lt, lcm_ge, lcm_gt, lcm_le, lcm_eq, b2_0, b2_n0, Bool.not_eq_false, Bool.not_eq_true, decide_eq_true_eq, decide_eq_false_iff_not] at bh66
          refine V.blk [(24, .iload 2, 1), (25, .bipush 3, 1), (26, .if_icmp .ne 44, 3)] (ps := []) (z' := (brc .ne s 3 44 29, [some (aR 52), some (aI p), some (aI s), some (aI x), some (aI y), none, none, none], [], MM N I J)) (by decide +kernel) rfl trivial ?_
          refine V.ne (fun bh68 => ?_) (fun bh69 => ?_)
          · skip
            try simp only [b2_cast, b2_ncast, Classical.not_not, lcm_lt, lcm_ge, lcm_gt, lcm_le, lcm_eq, b2_0, b2_n0, Bool.not_eq_false, Bool.not_eq_true, decide_eq_true_eq, decide_eq_false_iff_not] at bh68
            refine V.blk [(44, .iload 2, 1), (45, .i2l, 1), (46, .jsr_w 0, 1), (47, .jsr_w 6, 3)] (ps := []) (z' := (50, [some (aR 52), some (aI p), some (aI s), some (aI x), some (aI y), none, none, none], [aL (Int64.ofInt 6), aL (Int64.ofInt 0), aL (Int64.ofInt s)], MM N I J)) (by decide +kernel) rfl trivial ?_
            refine V.cs (c := 115) (na := 3) [aL (Int64.ofInt 6), aL (Int64.ofInt 0), aL (Int64.ofInt s)] [] (by decide +kernel) rfl rfl (V.pr (m_X10_isIn (by unfold inR; omega) (by unfold inR; omega) (by unfold inR; omega)) ?_)
            show V 135 (53, [some (aR 52), some (aI p), some (aI s), some (aI x), some (aI y), none, none, none], [aI (b2 (decide (0 ≤ s ∧ s ≤ 6)))], MM N I J) _
            refine V.blk [(53, .ifCond .eq 80, 3)] (ps := []) (z' := (brc .eq (b2 (decide (0 ≤ s ∧ s ≤ 6))) 0 80 56, [some (aR 52), some (aI p), some (aI s), some (aI x), some (aI y), none, none, none], [], MM N I J)) (by decide +kernel) rfl trivial ?_
            refine V.eq (fun bh70 => ?_) (fun bh71 => ?_)
            · skip
              try simp only [b2_cast, b2_ncast, Classical.not_not, lcm_lt, lcm_ge, lcm_gt, lcm_le, lcm_eq, b2_0, b2_n0, Bool.not_eq_false, Bool.not_eq_true, decide_eq_true_eq, decide_eq_false_iff_not] at bh70
              refine V.blk [(80, .aload 0, 1), (81, .bipush (-8), 2)] (ps := []) (z' := (83, [some (aR 52), some (aI p), some (aI s), some (aI x), some (aI y), none, none, none], [aI (-8), aR 52], MM N I J)) (by decide +kernel) rfl trivial ?_
              refine V.cv (c := 116) (na := 2) (o := 10) (a := 52) [aI (-8)] [] (by decide +kernel) rfl rfl rfl rfl rfl ((m_no (by assumption) (by omega)).mono (fun rv M1 q => ?_))
              obtain ⟨rfl, rfl⟩ := q
              show V 135 (86, [some (aR 52), some (aI p), some (aI s), some (aI x), some (aI y), none, none, none], [aI (-8)], MM N ((noU I (-8))) J) _
              refine V.nI (fun I72 eI72 => ?_)
              refine V.ri (by decide +kernel) ?_
              refine ⟨-8, rfU K (-8), noU I (-8), rfl, by subst_vars; rfl, ⟨fun w => ?_, fun w1 w2 => ?_, fun w1 w2 => ?_⟩, hA.rf (by decide), ⟨Or.inr ⟨by unfold noU; rw [ma_ne _ _ (by decide)], sameS.rf _ _⟩, by unfold noU; rw [ma_ne _ _ (by decide)], by unfold noU; rw [ma_ne _ _ (by decide)], by unfold noU; rw [ma_ne _ _ (by decide)], by unfold noU; rw [ma_ne _ _ (by decide)], by unfold noU; rw [ma_ne _ _ (by decide)], by unfold noU; rw [ma_ne _ _ (by decide)]⟩⟩
              all_goals first
                | exact ⟨rfl, rfl⟩
                | (exfalso
                   rw [relP_or] at *
                   (try rw [lowP_or] at *)
                   omega)
            · skip
              try simp only [b2_cast, b2_ncast, Classical.not_not, lcm_lt, lcm_ge, lcm_gt, lcm_le, lcm_eq, b2_0, b2_n0, Bool.not_eq_false, Bool.not_eq_true, decide_eq_true_eq, decide_eq_false_iff_not] at bh71
              refine V.blk [(56, .iload 2, 1), (57, .bipush 4, 1), (58, .if_icmp .lt 87, 3)] (ps := []) (z' := (brc .lt s 4 87 61, [some (aR 52), some (aI p), some (aI s), some (aI x), some (aI y), none, none, none], [], MM N I J)) (by decide +kernel) rfl trivial ?_
              refine V.lt (fun bh73 => ?_) (fun bh74 => ?_)
              · skip
                try simp only [b2_cast, b2_ncast, Classical.not_not, lcm_lt, lcm_ge, lcm_gt, lcm_le, lcm_eq, b2_0, b2_n0, Bool.not_eq_false, Bool.not_eq_true, decide_eq_true_eq, decide_eq_false_iff_not] at bh73
                have hc1 : (0 ≤ p ∧ p < 64) ∧ relP s x y := by rw [relP_or]; omega
                have hc2 : (0 ≤ s ∧ s ≤ 6) ∧ lowP p s x y := by rw [lowP_or]; omega
                exact lm_rule hX hA hr hV hc1 hc2 (hL hc1 hc2)
              · skip
                try simp only [b2_cast, b2_ncast, Classical.not_not, lcm_lt, lcm_ge, lcm_gt, lcm_le, lcm_eq, b2_0, b2_n0, Bool.not_eq_false, Bool.not_eq_true, decide_eq_true_eq, decide_eq_false_iff_not] at bh74
                refine V.blk [(61, .aload 0, 1), (62, .iload 3, 1), (63, .iload 1, 1)] (ps := []) (z' := (64, [some (aR 52), some (aI p), some (aI s), some (aI x), some (aI y), none, none, none], [aI p, aI x, aR 52], MM N I J)) (by decide +kernel) rfl trivial ?_
                refine V.cv (c := 134) (na := 3) (o := 10) (a := 52) [aI p, aI x] [] (by decide +kernel) rfl rfl rfl rfl rfl (V.pr (m_X10_isLower) ?_)
                show V 135 (67, [some (aR 52), some (aI p), some (aI s), some (aI x), some (aI y), none, none, none], [aI (b2 (decide (0 ≤ x ∧ x < p)))], MM N I J) _
                refine V.blk [(67, .ifCond .eq 80, 3)] (ps := []) (z' := (brc .eq (b2 (decide (0 ≤ x ∧ x < p))) 0 80 70, [some (aR 52), some (aI p), some (aI s), some (aI x), some (aI y), none, none, none], [], MM N I J)) (by decide +kernel) rfl trivial ?_
                refine V.eq (fun bh75 => ?_) (fun bh76 => ?_)
                · skip
                  try simp only [b2_cast, b2_ncast, Classical.not_not, lcm_lt, lcm_ge, lcm_gt, lcm_le, lcm_eq, b2_0, b2_n0, Bool.not_eq_false, Bool.not_eq_true, decide_eq_true_eq, decide_eq_false_iff_not] at bh75
                  refine V.blk [(80, .aload 0, 1), (81, .bipush (-8), 2)] (ps := []) (z' := (83, [some (aR 52), some (aI p), some (aI s), some (aI x), some (aI y), none, none, none], [aI (-8), aR 52], MM N I J)) (by decide +kernel) rfl trivial ?_
                  refine V.cv (c := 116) (na := 2) (o := 10) (a := 52) [aI (-8)] [] (by decide +kernel) rfl rfl rfl rfl rfl ((m_no (by assumption) (by omega)).mono (fun rv M1 q => ?_))
                  obtain ⟨rfl, rfl⟩ := q
                  show V 135 (86, [some (aR 52), some (aI p), some (aI s), some (aI x), some (aI y), none, none, none], [aI (-8)], MM N ((noU I (-8))) J) _
                  refine V.nI (fun I77 eI77 => ?_)
                  refine V.ri (by decide +kernel) ?_
                  refine ⟨-8, rfU K (-8), noU I (-8), rfl, by subst_vars; rfl, ⟨fun w => ?_, fun w1 w2 => ?_, fun w1 w2 => ?_⟩, hA.rf (by decide), ⟨Or.inr ⟨by unfold noU; rw [ma_ne _ _ (by decide)], sameS.rf _ _⟩, by unfold noU; rw [ma_ne _ _ (by decide)], by unfold noU; rw [ma_ne _ _ (by decide)], by unfold noU; rw [ma_ne _ _ (by decide)], by unfold noU; rw [ma_ne _ _ (by decide)], by unfold noU; rw [ma_ne _ _ (by decide)], by unfold noU; rw [ma_ne _ _ (by decide)]⟩⟩
                  all_goals first
                    | exact ⟨rfl, rfl⟩
                    | (exfalso
                       rw [relP_or] at *
                       (try rw [lowP_or] at *)
                       omega)
                · skip
                  try simp only [b2_cast, b2_ncast, Classical.not_not, lcm_lt, lcm_ge, lcm_gt, lcm_le, lcm_eq, b2_0, b2_n0, Bool.not_eq_false, Bool.not_eq_true, decide_eq_true_eq, decide_eq_false_iff_not] at bh76
                  refine V.blk [(70, .aload 0, 1), (71, .iload 4, 2), (73, .iload 1, 1)] (ps := []) (z' := (74, [some (aR 52), some (aI p), some (aI s), some (aI x), some (aI y), none, none, none], [aI p, aI y, aR 52], MM N I J)) (by decide +kernel) rfl trivial ?_
                  refine V.cv (c := 134) (na := 3) (o := 10) (a := 52) [aI p, aI y] [] (by decide +kernel) rfl rfl rfl rfl rfl (V.pr (m_X10_isLower) ?_)
                  show V 135 (77, [some (aR 52), some (aI p), some (aI s), some (aI x), some (aI y), none, none, none], [aI (b2 (decide (0 ≤ y ∧ y < p)))], MM N I J) _
                  refine V.blk [(77, .ifCond .ne 87, 3)] (ps := []) (z' := (brc .ne (b2 (decide (0 ≤ y ∧ y < p))) 0 87 80, [some (aR 52), some (aI p), some (aI s), some (aI x), some (aI y), none, none, none], [], MM N I J)) (by decide +kernel) rfl trivial ?_
                  refine V.ne (fun bh78 => ?_) (fun bh79 => ?_)
                  · skip
                    try simp only [b2_cast, b2_ncast, Classical.not_not, lcm_lt, lcm_ge, lcm_gt, lcm_le, lcm_eq, b2_0, b2_n0, Bool.not_eq_false, Bool.not_eq_true, decide_eq_true_eq, decide_eq_false_iff_not] at bh78
                    have hc1 : (0 ≤ p ∧ p < 64) ∧ relP s x y := by rw [relP_or]; omega
                    have hc2 : (0 ≤ s ∧ s ≤ 6) ∧ lowP p s x y := by rw [lowP_or]; omega
                    exact lm_rule hX hA hr hV hc1 hc2 (hL hc1 hc2)
                  · skip
                    try simp only [b2_cast, b2_ncast, Classical.not_not, lcm_lt, lcm_ge, lcm_gt, lcm_le, lcm_eq, b2_0, b2_n0, Bool.not_eq_false, Bool.not_eq_true, decide_eq_true_eq, decide_eq_false_iff_not] at bh79
                    refine V.blk [(80, .aload 0, 1), (81, .bipush (-8), 2)] (ps := []) (z' := (83, [some (aR 52), some (aI p), some (aI s), some (aI x), some (aI y), none, none, none], [aI (-8), aR 52], MM N I J)) (by decide +kernel) rfl trivial ?_
                    refine V.cv (c := 116) (na := 2) (o := 10) (a := 52) [aI (-8)] [] (by decide +kernel) rfl rfl rfl rfl rfl ((m_no (by assumption) (by omega)).mono (fun rv M1 q => ?_))
                    obtain ⟨rfl, rfl⟩ := q
                    show V 135 (86, [some (aR 52), some (aI p), some (aI s), some (aI x), some (aI y), none, none, none], [aI (-8)], MM N ((noU I (-8))) J) _
                    refine V.nI (fun I80 eI80 => ?_)
                    refine V.ri (by decide +kernel) ?_
                    refine ⟨-8, rfU K (-8), noU I (-8), rfl, by subst_vars; rfl, ⟨fun w => ?_, fun w1 w2 => ?_, fun w1 w2 => ?_⟩, hA.rf (by decide), ⟨Or.inr ⟨by unfold noU; rw [ma_ne _ _ (by decide)], sameS.rf _ _⟩, by unfold noU; rw [ma_ne _ _ (by decide)], by unfold noU; rw [ma_ne _ _ (by decide)], by unfold noU; rw [ma_ne _ _ (by decide)], by unfold noU; rw [ma_ne _ _ (by decide)], by unfold noU; rw [ma_ne _ _ (by decide)], by unfold noU; rw [ma_ne _ _ (by decide)]⟩⟩
                    all_goals first
                      | exact ⟨rfl, rfl⟩
                      | (exfalso
                         rw [relP_or] at *
                         (try rw [lowP_or] at *)
                         omega)
          · skip
            try simp only [b2_cast, b2_ncast, Classical.not_not, lcm_lt, lcm_ge, lcm_gt, lcm_le, lcm_eq, b2_0, b2_n0, Bool.not_eq_false, Bool.not_eq_true, decide_eq_true_eq, decide_eq_false_iff_not] at bh69
            refine V.blk [(29, .iload 4, 2)] (ps := []) (z' := (31, [some (aR 52), some (aI p), some (aI s), some (aI x), some (aI y), none, none, none], [aI y], MM N I J)) (by decide +kernel) rfl trivial ?_
            refine V.cs (c := 118) (na := 1) [aI y] [] (by decide +kernel) rfl rfl (V.pr (m_X10_isRelation) ?_)
            show V 135 (34, [some (aR 52), some (aI p), some (aI s), some (aI x), some (aI y), none, none, none], [aI (b2 (decide (0 ≤ y ∧ y < 8)))], MM N I J) _
            refine V.blk [(34, .ifCond .ne 44, 3)] (ps := []) (z' := (brc .ne (b2 (decide (0 ≤ y ∧ y < 8))) 0 44 37, [some (aR 52), some (aI p), some (aI s), some (aI x), some (aI y), none, none, none], [], MM N I J)) (by decide +kernel) rfl trivial ?_
            refine V.ne (fun bh81 => ?_) (fun bh82 => ?_)
            · skip
              try simp only [b2_cast, b2_ncast, Classical.not_not, lcm_lt, lcm_ge, lcm_gt, lcm_le, lcm_eq, b2_0, b2_n0, Bool.not_eq_false, Bool.not_eq_true, decide_eq_true_eq, decide_eq_false_iff_not] at bh81
              refine V.blk [(44, .iload 2, 1), (45, .i2l, 1), (46, .jsr_w 0, 1), (47, .jsr_w 6, 3)] (ps := []) (z' := (50, [some (aR 52), some (aI p), some (aI s), some (aI x), some (aI y), none, none, none], [aL (Int64.ofInt 6), aL (Int64.ofInt 0), aL (Int64.ofInt s)], MM N I J)) (by decide +kernel) rfl trivial ?_
              refine V.cs (c := 115) (na := 3) [aL (Int64.ofInt 6), aL (Int64.ofInt 0), aL (Int64.ofInt s)] [] (by decide +kernel) rfl rfl (V.pr (m_X10_isIn (by unfold inR; omega) (by unfold inR; omega) (by unfold inR; omega)) ?_)
              show V 135 (53, [some (aR 52), some (aI p), some (aI s), some (aI x), some (aI y), none, none, none], [aI (b2 (decide (0 ≤ s ∧ s ≤ 6)))], MM N I J) _
              refine V.blk [(53, .ifCond .eq 80, 3)] (ps := []) (z' := (brc .eq (b2 (decide (0 ≤ s ∧ s ≤ 6))) 0 80 56, [some (aR 52), some (aI p), some (aI s), some (aI x), some (aI y), none, none, none], [], MM N I J)) (by decide +kernel) rfl trivial ?_
              refine V.eq (fun bh83 => ?_) (fun bh84 => ?_)
              · skip
                try simp only [b2_cast, b2_ncast, Classical.not_not, lcm_lt, lcm_ge, lcm_gt, lcm_le, lcm_eq, b2_0, b2_n0, Bool.not_eq_false, Bool.not_eq_true, decide_eq_true_eq, decide_eq_false_iff_not] at bh83
                refine V.blk [(80, .aload 0, 1), (81, .bipush (-8), 2)] (ps := []) (z' := (83, [some (aR 52), some (aI p), some (aI s), some (aI x), some (aI y), none, none, none], [aI (-8), aR 52], MM N I J)) (by decide +kernel) rfl trivial ?_
                refine V.cv (c := 116) (na := 2) (o := 10) (a := 52) [aI (-8)] [] (by decide +kernel) rfl rfl rfl rfl rfl ((m_no (by assumption) (by omega)).mono (fun rv M1 q => ?_))
                obtain ⟨rfl, rfl⟩ := q
                show V 135 (86, [some (aR 52), some (aI p), some (aI s), some (aI x), some (aI y), none, none, none], [aI (-8)], MM N ((noU I (-8))) J) _
                refine V.nI (fun I85 eI85 => ?_)
                refine V.ri (by decide +kernel) ?_
                refine ⟨-8, rfU K (-8), noU I (-8), rfl, by subst_vars; rfl, ⟨fun w => ?_, fun w1 w2 => ?_, fun w1 w2 => ?_⟩, hA.rf (by decide), ⟨Or.inr ⟨by unfold noU; rw [ma_ne _ _ (by decide)], sameS.rf _ _⟩, by unfold noU; rw [ma_ne _ _ (by decide)], by unfold noU; rw [ma_ne _ _ (by decide)], by unfold noU; rw [ma_ne _ _ (by decide)], by unfold noU; rw [ma_ne _ _ (by decide)], by unfold noU; rw [ma_ne _ _ (by decide)], by unfold noU; rw [ma_ne _ _ (by decide)]⟩⟩
                all_goals first
                  | exact ⟨rfl, rfl⟩
                  | (exfalso
                     rw [relP_or] at *
                     (try rw [lowP_or] at *)
                     omega)
              · skip
                try simp only [b2_cast, b2_ncast, Classical.not_not, lcm_lt, lcm_ge, lcm_gt, lcm_le, lcm_eq, b2_0, b2_n0, Bool.not_eq_false, Bool.not_eq_true, decide_eq_true_eq, decide_eq_false_iff_not] at bh84
                refine V.blk [(56, .iload 2, 1), (57, .bipush 4, 1), (58, .if_icmp .lt 87, 3)] (ps := []) (z' := (brc .lt s 4 87 61, [some (aR 52), some (aI p), some (aI s), some (aI x), some (aI y), none, none, none], [], MM N I J)) (by decide +kernel) rfl trivial ?_
                refine V.lt (fun bh86 => ?_) (fun bh87 => ?_)
                · skip
                  try simp only [b2_cast, b2_ncast, Classical.not_not, lcm_lt, lcm_ge, lcm_gt, lcm_le, lcm_eq, b2_0, b2_n0, Bool.not_eq_false, Bool.not_eq_true, decide_eq_true_eq, decide_eq_false_iff_not] at bh86
                  have hc1 : (0 ≤ p ∧ p < 64) ∧ relP s x y := by rw [relP_or]; omega
                  have hc2 : (0 ≤ s ∧ s ≤ 6) ∧ lowP p s x y := by rw [lowP_or]; omega
                  exact lm_rule hX hA hr hV hc1 hc2 (hL hc1 hc2)
                · skip
                  try simp only [b2_cast, b2_ncast, Classical.not_not, lcm_lt, lcm_ge, lcm_gt, lcm_le, lcm_eq, b2_0, b2_n0, Bool.not_eq_false, Bool.not_eq_true, decide_eq_true_eq, decide_eq_false_iff_not] at bh87
                  refine V.blk [(61, .aload 0, 1), (62, .iload 3, 1), (63, .iload 1, 1)] (ps := []) (z' := (64, [some (aR 52), some (aI p), some (aI s), some (aI x), some (aI y), none, none, none], [aI p, aI x, aR 52], MM N I J)) (by decide +kernel) rfl trivial ?_
                  refine V.cv (c := 134) (na := 3) (o := 10) (a := 52) [aI p, aI x] [] (by decide +kernel) rfl rfl rfl rfl rfl (V.pr (m_X10_isLower) ?_)
                  show V 135 (67, [some (aR 52), some (aI p), some (aI s), some (aI x), some (aI y), none, none, none], [aI (b2 (decide (0 ≤ x ∧ x < p)))], MM N I J) _
                  refine V.blk [(67, .ifCond .eq 80, 3)] (ps := []) (z' := (brc .eq (b2 (decide (0 ≤ x ∧ x < p))) 0 80 70, [some (aR 52), some (aI p), some (aI s), some (aI x), some (aI y), none, none, none], [], MM N I J)) (by decide +kernel) rfl trivial ?_
                  refine V.eq (fun bh88 => ?_) (fun bh89 => ?_)
                  · skip
                    try simp only [b2_cast, b2_ncast, Classical.not_not, lcm_lt, lcm_ge, lcm_gt, lcm_le, lcm_eq, b2_0, b2_n0, Bool.not_eq_false, Bool.not_eq_true, decide_eq_true_eq, decide_eq_false_iff_not] at bh88
                    refine V.blk [(80, .aload 0, 1), (81, .bipush (-8), 2)] (ps := []) (z' := (83, [some (aR 52), some (aI p), some (aI s), some (aI x), some (aI y), none, none, none], [aI (-8), aR 52], MM N I J)) (by decide +kernel) rfl trivial ?_
                    refine V.cv (c := 116) (na := 2) (o := 10) (a := 52) [aI (-8)] [] (by decide +kernel) rfl rfl rfl rfl rfl ((m_no (by assumption) (by omega)).mono (fun rv M1 q => ?_))
                    obtain ⟨rfl, rfl⟩ := q
                    show V 135 (86, [some (aR 52), some (aI p), some (aI s), some (aI x), some (aI y), none, none, none], [aI (-8)], MM N ((noU I (-8))) J) _
                    refine V.nI (fun I90 eI90 => ?_)
                    refine V.ri (by decide +kernel) ?_
                    refine ⟨-8, rfU K (-8), noU I (-8), rfl, by subst_vars; rfl, ⟨fun w => ?_, fun w1 w2 => ?_, fun w1 w2 => ?_⟩, hA.rf (by decide), ⟨Or.inr ⟨by unfold noU; rw [ma_ne _ _ (by decide)], sameS.rf _ _⟩, by unfold noU; rw [ma_ne _ _ (by decide)], by unfold noU; rw [ma_ne _ _ (by decide)], by unfold noU; rw [ma_ne _ _ (by decide)], by unfold noU; rw [ma_ne _ _ (by decide)], by unfold noU; rw [ma_ne _ _ (by decide)], by unfold noU; rw [ma_ne _ _ (by decide)]⟩⟩
                    all_goals first
                      | exact ⟨rfl, rfl⟩
                      | (exfalso
                         rw [relP_or] at *
                         (try rw [lowP_or] at *)
                         omega)
                  · skip
                    try simp only [b2_cast, b2_ncast, Classical.not_not, lcm_lt, lcm_ge, lcm_gt, lcm_le, lcm_eq, b2_0, b2_n0, Bool.not_eq_false, Bool.not_eq_true, decide_eq_true_eq, decide_eq_false_iff_not] at bh89
                    refine V.blk [(70, .aload 0, 1), (71, .iload 4, 2), (73, .iload 1, 1)] (ps := []) (z' := (74, [some (aR 52), some (aI p), some (aI s), some (aI x), some (aI y), none, none, none], [aI p, aI y, aR 52], MM N I J)) (by decide +kernel) rfl trivial ?_
                    refine V.cv (c := 134) (na := 3) (o := 10) (a := 52) [aI p, aI y] [] (by decide +kernel) rfl rfl rfl rfl rfl (V.pr (m_X10_isLower) ?_)
                    show V 135 (77, [some (aR 52), some (aI p), some (aI s), some (aI x), some (aI y), none, none, none], [aI (b2 (decide (0 ≤ y ∧ y < p)))], MM N I J) _
                    refine V.blk [(77, .ifCond .ne 87, 3)] (ps := []) (z' := (brc .ne (b2 (decide (0 ≤ y ∧ y < p))) 0 87 80, [some (aR 52), some (aI p), some (aI s), some (aI x), some (aI y), none, none, none], [], MM N I J)) (by decide +kernel) rfl trivial ?_
                    refine V.ne (fun bh91 => ?_) (fun bh92 => ?_)
                    · skip
                      try simp only [b2_cast, b2_ncast, Classical.not_not, lcm_lt, lcm_ge, lcm_gt, lcm_le, lcm_eq, b2_0, b2_n0, Bool.not_eq_false, Bool.not_eq_true, decide_eq_true_eq, decide_eq_false_iff_not] at bh91
                      have hc1 : (0 ≤ p ∧ p < 64) ∧ relP s x y := by rw [relP_or]; omega
                      have hc2 : (0 ≤ s ∧ s ≤ 6) ∧ lowP p s x y := by rw [lowP_or]; omega
                      exact lm_rule hX hA hr hV hc1 hc2 (hL hc1 hc2)
                    · skip
                      try simp only [b2_cast, b2_ncast, Classical.not_not, lcm_lt, lcm_ge, lcm_gt, lcm_le, lcm_eq, b2_0, b2_n0, Bool.not_eq_false, Bool.not_eq_true, decide_eq_true_eq, decide_eq_false_iff_not] at bh92
                      refine V.blk [(80, .aload 0, 1), (81, .bipush (-8), 2)] (ps := []) (z' := (83, [some (aR 52), some (aI p), some (aI s), some (aI x), some (aI y), none, none, none], [aI (-8), aR 52], MM N I J)) (by decide +kernel) rfl trivial ?_
                      refine V.cv (c := 116) (na := 2) (o := 10) (a := 52) [aI (-8)] [] (by decide +kernel) rfl rfl rfl rfl rfl ((m_no (by assumption) (by omega)).mono (fun rv M1 q => ?_))
                      obtain ⟨rfl, rfl⟩ := q
                      show V 135 (86, [some (aR 52), some (aI p), some (aI s), some (aI x), some (aI y), none, none, none], [aI (-8)], MM N ((noU I (-8))) J) _
                      refine V.nI (fun I93 eI93 => ?_)
                      refine V.ri (by decide +kernel) ?_
                      refine ⟨-8, rfU K (-8), noU I (-8), rfl, by subst_vars; rfl, ⟨fun w => ?_, fun w1 w2 => ?_, fun w1 w2 => ?_⟩, hA.rf (by decide), ⟨Or.inr ⟨by unfold noU; rw [ma_ne _ _ (by decide)], sameS.rf _ _⟩, by unfold noU; rw [ma_ne _ _ (by decide)], by unfold noU; rw [ma_ne _ _ (by decide)], by unfold noU; rw [ma_ne _ _ (by decide)], by unfold noU; rw [ma_ne _ _ (by decide)], by unfold noU; rw [ma_ne _ _ (by decide)], by unfold noU; rw [ma_ne _ _ (by decide)]⟩⟩
                      all_goals first
                        | exact ⟨rfl, rfl⟩
                        | (exfalso
                           rw [relP_or] at *
                           (try rw [lowP_or] at *)
                           omega)
            · skip
              try simp only [b2_cast, b2_ncast, Classical.not_not, lcm_lt, lcm_ge, lcm_gt, lcm_le, lcm_eq, b2_0, b2_n0, Bool.not_eq_false, Bool.not_eq_true, decide_eq_true_eq, decide_eq_false_iff_not] at bh82
              refine V.blk [(37, .aload 0, 1), (38, .bipush (-3), 2)] (ps := []) (z' := (40, [some (aR 52), some (aI p), some (aI s), some (aI x), some (aI y), none, none, none], [aI (-3), aR 52], MM N I J)) (by decide +kernel) rfl trivial ?_
              refine V.cv (c := 116) (na := 2) (o := 10) (a := 52) [aI (-3)] [] (by decide +kernel) rfl rfl rfl rfl rfl ((m_no (by assumption) (by omega)).mono (fun rv M1 q => ?_))
              obtain ⟨rfl, rfl⟩ := q
              show V 135 (43, [some (aR 52), some (aI p), some (aI s), some (aI x), some (aI y), none, none, none], [aI (-3)], MM N ((noU I (-3))) J) _
              refine V.nI (fun I94 eI94 => ?_)
              refine V.ri (by decide +kernel) ?_
              refine ⟨-3, rfU K (-3), noU I (-3), rfl, by subst_vars; rfl, ⟨fun w => ?_, fun w1 w2 => ?_, fun w1 w2 => ?_⟩, hA.rf (by decide), ⟨Or.inr ⟨by unfold noU; rw [ma_ne _ _ (by decide)], sameS.rf _ _⟩, by unfold noU; rw [ma_ne _ _ (by decide)], by unfold noU; rw [ma_ne _ _ (by decide)], by unfold noU; rw [ma_ne _ _ (by decide)], by unfold noU; rw [ma_ne _ _ (by decide)], by unfold noU; rw [ma_ne _ _ (by decide)], by unfold noU; rw [ma_ne _ _ (by decide)]⟩⟩
              all_goals first
                | exact ⟨rfl, rfl⟩
                | (exfalso
                   rw [relP_or] at *
                   (try rw [lowP_or] at *)
                   omega)
