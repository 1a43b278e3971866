/-! ===== the reference: reasons, one place ===== -/
def opU (I : MI) (a b : Int) : MI := ma (ma (ma I 91 (ma (I 91) (I 52 54).toNat a)) 92 (ma (I 92) (I 52 54).toNat b)) 52 (ma (I 52) 54 (I 52 54 + 1))
def tlM (I : MI) (q : Int) : MI := ma (ma I 93 (ma (I 93) (I 52 56).toNat q)) 52 (ma (I 52) 56 (I 52 56 + 1))
theorem opU_f (I : MI) (a b : Int) : (∀ i, i ≠ 52 → i ≠ 91 → i ≠ 92 → opU I a b i = I i) ∧ (∀ k, k ≠ 54 → opU I a b 52 k = I 52 k) ∧ opU I a b 52 54 = I 52 54 + 1 ∧ opU I a b 91 = ma (I 91) (I 52 54).toNat a ∧ opU I a b 92 = ma (I 92) (I 52 54).toNat b := by
  unfold opU
  refine ⟨fun i x y z => ?_, fun k x => ?_, ?_, ?_, ?_⟩
  · rw [ma_ne _ _ x, ma_ne _ _ z, ma_ne _ _ y]
  · rw [ma_self, ma_ne _ _ x]
  · rw [ma_self, ma_self]
  · rw [ma_ne _ _ (by decide), ma_ne _ _ (by decide), ma_self]
  · rw [ma_ne _ _ (by decide), ma_self]
theorem tlM_f (I : MI) (q : Int) : (∀ i, i ≠ 52 → i ≠ 93 → tlM I q i = I i) ∧ (∀ k, k ≠ 56 → tlM I q 52 k = I 52 k) ∧ tlM I q 52 56 = I 52 56 + 1 ∧ tlM I q 93 = ma (I 93) (I 52 56).toNat q := by
  unfold tlM
  refine ⟨fun i x y => ?_, fun k x => ?_, ?_, ?_⟩
  · rw [ma_ne _ _ x, ma_ne _ _ y]
  · rw [ma_self, ma_ne _ _ x]
  · rw [ma_self, ma_self]
  · rw [ma_ne _ _ (by decide), ma_self]
/-- what is known where the reference tells a reason -/
def RMm (K : MI) (L : MJ) (cp : Nat → Bool) (v : SV) (pe : Nat) (c : Nat → Int) (I : MI) (J : MJ) : Prop := RP K L cp v pe c ∧ SH K L cp I ∧ (∀ s, s < 320 → I 89 s = c s) ∧ (∀ s, s < 320 → J 83 s = v s) ∧ ∀ s : Nat, s < 320 → K 1 1 * 8 ≤ (s : Int) → v s = Int64.ofInt 0
/-- told so far, X to come first, and what waits -/
def RsP (K : MI) (L : MJ) (cp : Nat → Bool) (v : SV) (pe : Nat) (c : Nat → Int) (T0 : List Int) (I : MI) (n w : Nat) (X : List Int) : Prop :=
  I 52 56 = (n : Int) ∧ n ≤ 60 ∧ I 52 54 = (w : Int) ∧ (∀ i, i < w → ∃ a b : Nat, I 91 i = (a : Int) ∧ I 92 i = (b : Int) ∧ Fi K L cp v pe c a b ∧ i + mz K cp v pe c a b < 20545) ∧ lsA (I 93) n ++ (X ++ flW (tale K cp v pe c) (I 91) (I 92) w) = T0
section RSP
variable {K : MI} {L : MJ} {cp : Nat → Bool} {v : SV} {pe : Nat} {c : Nat → Int} {T0 : List Int} {I I' : MI} {n w : Nat} {X : List Int}
theorem RMm.keep {J J' : MJ} (h : RMm K L cp v pe c I J) (e : ∀ i, (i ≤ 76 ∨ i = 87 ∨ i = 88 ∨ i = 89) → i ≠ 52 → I' i = I i) (f : ∀ k, k ≠ 54 → k ≠ 56 → I' 52 k = I 52 k) (ej : J' 83 = J 83) : RMm K L cp v pe c I' J' := by
  obtain ⟨h1, ⟨h2, h3, h4⟩, h5, h6, h7⟩ := h
  refine ⟨h1, ⟨?_, h3, ?_⟩, fun s hs => ?_, fun s hs => ?_, h7⟩
  · obtain ⟨a, b, d, dd, ff, g, k1, k2, k3, k4⟩ := h2
    refine ⟨a, b, d, dd, ff, g, ?_, ?_, ?_, ?_⟩
    · unfold RTh; rw [f 1 (by decide) (by decide), e 53 (by omega) (by decide)]; exact k1
    · unfold RRu; rw [e 54 (by omega) (by decide), e 55 (by omega) (by decide), e 56 (by omega) (by decide), e 57 (by omega) (by decide), e 58 (by omega) (by decide)]; exact k2
    · unfold RPr; rw [f 13 (by decide) (by decide), e 59 (by omega) (by decide), e 60 (by omega) (by decide), e 61 (by omega) (by decide), e 62 (by omega) (by decide), e 63 (by omega) (by decide), e 64 (by omega) (by decide)]; exact k3
    · unfold RDr; rw [f 29 (by decide) (by decide), f 30 (by decide) (by decide), e 68 (by omega) (by decide), e 69 (by omega) (by decide), e 70 (by omega) (by decide), e 71 (by omega) (by decide), e 72 (by omega) (by decide), e 73 (by omega) (by decide), e 74 (by omega) (by decide), e 75 (by omega) (by decide), e 76 (by omega) (by decide)]; exact k4
  · unfold ChR; rw [e 87 (by omega) (by decide), e 88 (by omega) (by decide)]; exact h4
  · rw [e 89 (by omega) (by decide)]; exact h5 s hs
  · rw [ej]; exact h6 s hs
theorem RsP.same (h : RsP K L cp v pe c T0 I n w X) (e56 : I' 52 56 = I 52 56) (e54 : I' 52 54 = I 52 54) (e91 : I' 91 = I 91) (e92 : I' 92 = I 92) (e93 : I' 93 = I 93) : RsP K L cp v pe c T0 I' n w X := by
  unfold RsP at h ⊢
  rw [e56, e54, e91, e92, e93]
  exact h
theorem RsP.tell {q : Int} (h : RsP K L cp v pe c T0 I n w (q :: X)) (hn : n < 60) : RsP K L cp v pe c T0 (tlM I q) (n + 1) w X := by
  obtain ⟨h1, h2, h3, h4, h5⟩ := h
  obtain ⟨t1, t2, t3, t4⟩ := tlM_f I q
  refine ⟨by rw [t3, h1]; omega, by omega, by rw [t2 54 (by decide)]; exact h3, ?_, ?_⟩
  · rw [t1 91 (by decide) (by decide), t1 92 (by decide) (by decide)]
    exact h4
  · rw [t1 91 (by decide) (by decide), t1 92 (by decide) (by decide), t4, h1, show (n : Int).toNat = n by omega, lsA_put, ← h5]
    simp
theorem RsP.opens {a b : Nat} (h : RsP K L cp v pe c T0 I n w (X ++ tale K cp v pe c a b)) (hf : Fi K L cp v pe c a b) (hm : w + mz K cp v pe c a b < 20545) : RsP K L cp v pe c T0 (opU I a b) n (w + 1) X := by
  obtain ⟨h1, h2, h3, h4, h5⟩ := h
  obtain ⟨t1, t2, t3, t4, t5⟩ := opU_f I a b
  refine ⟨by rw [t2 56 (by decide)]; exact h1, h2, by rw [t3, h3]; omega, fun i hi => ?_, ?_⟩
  · rw [t4, t5, h3, show (w : Int).toNat = w by omega]
    by_cases e : i = w
    · rw [e, ma_self, ma_self]
      exact ⟨a, b, rfl, rfl, hf, hm⟩
    · rw [ma_ne _ _ e, ma_ne _ _ e]
      exact h4 i (by omega)
  · rw [t4, t5, h3, show (w : Int).toNat = w by omega, t1 93 (by decide) (by decide) (by decide)]
    have e1 : flW (tale K cp v pe c) (ma (I 91) w a) (ma (I 92) w b) (w + 1) = tale K cp v pe c a b ++ flW (tale K cp v pe c) (I 91) (I 92) w := by
      show tale K cp v pe c (ma (I 91) w (a : Int) w).toNat (ma (I 92) w (b : Int) w).toNat ++ flW (tale K cp v pe c) (ma (I 91) w a) (ma (I 92) w b) w = _
      rw [ma_self, ma_self, flW_congr w (fun i hi => ⟨ma_ne _ _ (by omega), ma_ne _ _ (by omega)⟩)]
      rfl
    rw [e1, ← h5, List.append_assoc]
theorem Fi.dom {s p : Nat} (h : RP K L cp v pe c) (hf : Fi K L cp v pe c s p) (hz : ∀ s : Nat, s < 320 → K 1 1 * 8 ≤ (s : Int) → v s = Int64.ofInt 0) : (s : Int) < K 1 1 * 8 := by
  obtain ⟨hS, hpe, c1, c2, c3⟩ := h
  obtain ⟨f1, -, -, -, f7⟩ := hf
  by_cases e : (s : Int) < K 1 1 * 8
  · exact e
  · have e2 := c3 s f1
    rw [hz s f1 (by omega), if_neg (by rw [tb_0]; decide)] at e2
    omega
end RSP
def TpE (K : MI) (L : MJ) (cp : Nat → Bool) (v : SV) (pe : Nat) (c : Nat → Int) (T0 : List Int) (I : MI) (n w q : Nat) : Prop := (K 18 q = -1 ∧ RsP K L cp v pe c T0 I n w [(q : Int)]) ∨ ∃ s2 r : Nat, K 18 q = (s2 : Int) ∧ K 7 (kS K s2) = (r : Int) ∧ r < 64 ∧ Fi K L cp v pe c s2 r ∧ w + mz K cp v pe c s2 r < 20545 ∧ RsP K L cp v pe c T0 I n w ((q : Int) :: tale K cp v pe c s2 r)
def LfE (K : MI) (L : MJ) (cp : Nat → Bool) (v : SV) (pe : Nat) (c : Nat → Int) (s p q : Nat) : Prop := (nxC K q p = -1 ∧ K 4 p ≠ 3 ∧ K 13 q = (pe : Int) ∧ pr K cp v c pe s p = 1) ∨ ∃ s' r : Nat, s' < 320 ∧ r < 64 ∧ nxC K q p = (s' : Int) ∧ K 7 (kS K s') = (r : Int) ∧ Fi K L cp v pe c s' r ∧ pr K cp v c pe s' r = pr K cp v c pe s p - 1 ∧ c s' = pr K cp v c pe s p - 1
theorem m_opens {N : Nat} {I : MI} {J : MJ} {a b : Int} (h : 0 ≤ I 52 54 ∧ I 52 54 < 20800) : CT 183 [aR 52, aI a, aI b] (MM N I J) (QV N J (opU I a b)) := by
  refine CT.ofV (n := 3) (ls := [some (aR 52), some (aI a), some (aI b)]) rfl rfl rfl ?_
  refine V.blk [(0, .aload 0, 1), (1, .getfield 10052, 3), (4, .aload 0, 1), (5, .getfield 10054, 3), (8, .iload 1, 1), (9, .iastore, 1), (10, .aload 0, 1), (11, .getfield 10053, 3), (14, .aload 0, 1), (15, .getfield 10054, 3), (18, .iload 2, 1), (19, .iastore, 1), (20, .aload 0, 1), (21, .dup, 1), (22, .getfield 10054, 3), (25, .bipush 1, 1), (26, .iadd, 1), (27, .putfield 10054, 3)] (ps := [0 ≤ (I 52 54) ∧ (I 52 54) < 20800, 0 ≤ ((ma I 91 (ma (I 91) ((I 52 54).toNat) a)) 52 54) ∧ ((ma I 91 (ma (I 91) ((I 52 54).toNat) a)) 52 54) < 20800, inR (((ma (ma I 91 (ma (I 91) ((I 52 54).toNat) a)) 92 (ma ((ma I 91 (ma (I 91) ((I 52 54).toNat) a)) 92) (((ma I 91 (ma (I 91) ((I 52 54).toNat) a)) 52 54).toNat) b)) 52 54) + 1)]) (z' := (30, [some (aR 52), some (aI a), some (aI b)], [], MM N (ma (ma (ma I 91 (ma (I 91) ((I 52 54).toNat) a)) 92 (ma ((ma I 91 (ma (I 91) ((I 52 54).toNat) a)) 92) (((ma I 91 (ma (I 91) ((I 52 54).toNat) a)) 52 54).toNat) b)) 52 (ma ((ma (ma I 91 (ma (I 91) ((I 52 54).toNat) a)) 92 (ma ((ma I 91 (ma (I 91) ((I 52 54).toNat) a)) 92) (((ma I 91 (ma (I 91) ((I 52 54).toNat) a)) 52 54).toNat) b)) 52) 54 (((ma (ma I 91 (ma (I 91) ((I 52 54).toNat) a)) 92 (ma ((ma I 91 (ma (I 91) ((I 52 54).toNat) a)) 92) (((ma I 91 (ma (I 91) ((I 52 54).toNat) a)) 52 54).toNat) b)) 52 54) + 1))) J)) (by decide +kernel) rfl (show (0 ≤ (I 52 54) ∧ (I 52 54) < 20800) ∧ (0 ≤ ((ma I 91 (ma (I 91) ((I 52 54).toNat) a)) 52 54) ∧ ((ma I 91 (ma (I 91) ((I 52 54).toNat) a)) 52 54) < 20800) ∧ (inR (((ma (ma I 91 (ma (I 91) ((I 52 54).toNat) a)) 92 (ma ((ma I 91 (ma (I 91) ((I 52 54).toNat) a)) 92) (((ma I 91 (ma (I 91) ((I 52 54).toNat) a)) 52 54).toNat) b)) 52 54) + 1)) from ⟨(by first | omega | (simp only [ma_ne _ _ (show (52 : Nat) ≠ 91 by decide), ma_ne _ _ (show (52 : Nat) ≠ 92 by decide), ma_ne _ _ (show (52 : Nat) ≠ 93 by decide)]; omega)), (by first | omega | (simp only [ma_ne _ _ (show (52 : Nat) ≠ 91 by decide), ma_ne _ _ (show (52 : Nat) ≠ 92 by decide), ma_ne _ _ (show (52 : Nat) ≠ 93 by decide)]; omega)), (by unfold inR; first | omega | (simp only [ma_ne _ _ (show (52 : Nat) ≠ 91 by decide), ma_ne _ _ (show (52 : Nat) ≠ 92 by decide), ma_ne _ _ (show (52 : Nat) ≠ 93 by decide)]; omega))⟩) ?_
  refine V.nI (fun I1 eI1 => ?_)
  refine V.rv (by decide +kernel) ?_
  refine ⟨rfl, congrArg (fun w => MM N w J) ?_⟩
  subst eI1
  unfold opU
  simp only [ma_ne _ _ (show (52 : Nat) ≠ 91 by decide), ma_ne _ _ (show (52 : Nat) ≠ 92 by decide), ma_ne _ _ (show (92 : Nat) ≠ 91 by decide)]
theorem m_tell {N : Nat} {I : MI} {J : MJ} {q : Int} (h : 0 ≤ I 52 56 ∧ I 52 56 < 60) : CT 184 [aR 52, aI q] (MM N I J) (QV N J (tlM I q)) := by
  refine CT.ofV (n := 2) (ls := [some (aR 52), some (aI q)]) rfl rfl rfl ?_
  refine V.blk [(0, .aload 0, 1), (1, .getfield 10056, 3), (4, .bipush 60, 2), (6, .if_icmp .ne 10, 3)] (ps := []) (z' := (brc .ne (I 52 56) 60 10 9, [some (aR 52), some (aI q)], [], MM N I J)) (by decide +kernel) rfl trivial ?_
  refine V.ne (fun bh1 => ?_) (fun bh2 => ?_)
  · skip
    refine V.blk [(10, .aload 0, 1), (11, .getfield 10055, 3), (14, .aload 0, 1), (15, .getfield 10056, 3), (18, .iload 1, 1), (19, .iastore, 1), (20, .aload 0, 1), (21, .dup, 1), (22, .getfield 10056, 3), (25, .bipush 1, 1), (26, .iadd, 1), (27, .putfield 10056, 3)] (ps := [0 ≤ (I 52 56) ∧ (I 52 56) < 60, inR (((ma I 93 (ma (I 93) ((I 52 56).toNat) q)) 52 56) + 1)]) (z' := (30, [some (aR 52), some (aI q)], [], MM N (ma (ma I 93 (ma (I 93) ((I 52 56).toNat) q)) 52 (ma ((ma I 93 (ma (I 93) ((I 52 56).toNat) q)) 52) 56 (((ma I 93 (ma (I 93) ((I 52 56).toNat) q)) 52 56) + 1))) J)) (by decide +kernel) rfl (show (0 ≤ (I 52 56) ∧ (I 52 56) < 60) ∧ (inR (((ma I 93 (ma (I 93) ((I 52 56).toNat) q)) 52 56) + 1)) from ⟨(by first | omega | (simp only [ma_ne _ _ (show (52 : Nat) ≠ 91 by decide), ma_ne _ _ (show (52 : Nat) ≠ 92 by decide), ma_ne _ _ (show (52 : Nat) ≠ 93 by decide)]; omega)), (by unfold inR; first | omega | (simp only [ma_ne _ _ (show (52 : Nat) ≠ 91 by decide), ma_ne _ _ (show (52 : Nat) ≠ 92 by decide), ma_ne _ _ (show (52 : Nat) ≠ 93 by decide)]; omega))⟩) ?_
    refine V.nI (fun I3 eI3 => ?_)
    refine V.rv (by decide +kernel) ?_
    refine ⟨rfl, congrArg (fun w => MM N w J) ?_⟩
    subst eI3
    unfold tlM
    simp only [ma_ne _ _ (show (52 : Nat) ≠ 93 by decide)]
  · skip
    exfalso
    omega
theorem l_tp3 {N : Nat} {I : MI} {J : MJ} {K : MI} {L : MJ} {cp : Nat → Bool} {v : SV} {pe : Nat} {c : Nat → Int} {T0 : List Int} {n w s p m q S6 s2 r : Nat} {C : Int} (hM : RMm K L cp v pe c I J) (hm : K 10 9 = m) (hp : p < 64) (hs : s < 320) (hS6 : S6 < 320) (hq : q < m) (hb : spB K cp S6 q = true) (hC : 1 ≤ C ∧ C ≤ 320) (hn : n < 60) (hI : I 52 56 = (n : Int) ∧ I 52 54 = (w : Int)) (hval : bhX K c pe q p = C - 1) (hlow : ∀ e : Nat, e < q → spB K cp S6 e = true → C - 1 < bhX K c pe e p) (e4 : K 4 p = 3) (hnx : K 19 q * 8 + K 6 p = (s2 : Int)) (er : K 7 (kS K s2) = (r : Int)) (hfi : Fi K L cp v pe c s2 r) (hwm : w + mz K cp v pe c s2 r < 20545) (hR : RsP K L cp v pe c T0 I n w ((q : Int) :: tale K cp v pe c s2 r)) : ∀ (k x : Nat) (w8 w9 w10 : Option AV), m + 1 ≤ k + x → x ≤ q → V 185 (51, [some (aR 52), some (aI (s : Int)), some (aI (p : Int)), some (aI (pe : Int)), some (aI C), some (aI 1), some (aI (S6 : Int)), some (aI (sr (spB K cp S6) x m)), w8, w9, w10], [], MM N I J) (fun rv M' => rv = none ∧ ∃ I' w', M' = MM N I' J ∧ RsP K L cp v pe c T0 I' (n + 1) w' [] ∧ (∀ i, i ≠ 52 → i ≠ 91 → i ≠ 92 → i ≠ 93 → I' i = I i) ∧ (∀ k, k ≠ 54 → k ≠ 56 → I' 52 k = I 52 k)) := by
  intro k
  induction k with
  | zero => intro x w8 w9 w10 h1 h2; exfalso; omega
  | succ k ih =>
    intro x w8 w9 w10 h1 h2
    obtain ⟨hRP, hH, h89, h83, hz0⟩ := id hM
    have hP := hH.1.2.2.2.2.2.2.2.2.1
    have hT0 := hH.1.2.2.2.2.2.2.1
    have hkd := hH.1.1.2.2
    have hm4 := hH.1.2.2.2.2.1
    have h40 := hH.1.1.2.1
    have hsc := sr_c (spB K cp S6) (show x ≤ m by omega)
    have hcp := hRP.2.2.1
    have hw20 : w < 20545 := by omega
    obtain ⟨r54, r55, r56, -⟩ := hH.1.2.2.2.2.2.2.2.1.1 p hp
    have rr := hH.1.2.1.rt.1 p hp
    have x56 := r56 (by omega) (by omega)
    have hs2d := hfi.dom hRP hz0
    have hs2 := hfi.1
    refine V.blk [(51, .iload 7, 2), (53, .ifCond .lt 250, 3)] (ps := []) (z' := (brc .lt (sr (spB K cp S6) x m) 0 250 56, [some (aR 52), some (aI (s : Int)), some (aI (p : Int)), some (aI (pe : Int)), some (aI C), some (aI 1), some (aI (S6 : Int)), some (aI (sr (spB K cp S6) x m)), w8, w9, w10], [], MM N I J)) (by decide +kernel) rfl trivial ?_
    refine V.lt (fun bh1 => ?_) (fun bh2 => ?_)
    · skip
      exfalso
      rcases hsc with ⟨-, w⟩ | ⟨e, -, -, w, -⟩
      · have := w q h2 hq
        rw [hb] at this
        cases this
      · omega
    · skip
      try simp only [b2_cast, b2_ncast, Classical.not_not, lcm_lt, lcm_ge, lcm_gt, lcm_le, lcm_eq, b2_0, b2_n0, b2_e1, b2_e0, Bool.not_eq_false, Bool.not_eq_true, decide_eq_true_eq, decide_eq_false_iff_not, Classical.not_not] at bh2
      obtain ⟨e, y1, y2, y3, y4, y5⟩ : ∃ e, x ≤ e ∧ e < m ∧ sr (spB K cp S6) x m = (e : Int) ∧ spB K cp S6 e = true ∧ ∀ r, x ≤ r → r < e → spB K cp S6 r = false := by
        rcases hsc with ⟨w, -⟩ | w
        · exfalso; omega
        · exact w
      rw [y3]
      have heq : e ≤ q := by
        by_cases h : e ≤ q
        · exact h
        · have := y5 q h2 (by omega)
          rw [hb] at this
          cases this
      clear hsc
      obtain ⟨g1, g2, g3, g4, g5, g6⟩ := hP.2 e (by omega)
      have hWe := hH.1.2.2.2.1 e (by omega)
      obtain ⟨w1, w2, w3, w4, w5, w6, w7, w8', w9', w10'⟩ := hWe
      have hqs := spB_t.mp y4
      have hnxe : I 88 e = sr (spB K cp S6) (e + 1) m := by
        have := hH.2.2.2 e (Nat.zero_le _) (by omega) hqs.1
        rw [this, show (K 17 e).toNat = S6 by omega, show (K 10 9).toNat = m by omega]
      have htl : toldOf (K 13 e) = -1 ↔ ¬ (100 ≤ K 13 e ∧ K 13 e < 1000) := by
        unfold toldOf
        split <;> omega
      have hlowe := fun h => hlow e h y4
      refine V.blk [(56, .iload 5, 2), (58, .ifCond .eq 94, 3)] (ps := []) (z' := (brc .eq 1 0 94 61, [some (aR 52), some (aI (s : Int)), some (aI (p : Int)), some (aI (pe : Int)), some (aI C), some (aI 1), some (aI (S6 : Int)), some (aI (e : Int)), w8, w9, w10], [], MM N I J)) (by decide +kernel) rfl trivial ?_
      refine V.eq (fun hz => absurd hz (by decide)) (fun _ => ?_)
      refine V.blk [(61, .aload 0, 1), (62, .getfield 10009, 3), (65, .iload 7, 2), (67, .iaload, 1), (68, .bipush 100, 2), (70, .if_icmp .lt 90, 3)] (ps := [0 ≤ (e : Int) ∧ (e : Int) < 420]) (z' := (brc .lt (I 61 e) 100 90 73, [some (aR 52), some (aI (s : Int)), some (aI (p : Int)), some (aI (pe : Int)), some (aI C), some (aI 1), some (aI (S6 : Int)), some (aI (e : Int)), w8, w9, w10], [], MM N I J)) (by decide +kernel) rfl (show (0 ≤ (e : Int) ∧ (e : Int) < 420) from (by omega)) ?_
      refine V.lt (fun bh3 => ?_) (fun bh4 => ?_)
      · skip
        try simp only [b2_cast, b2_ncast, Classical.not_not, lcm_lt, lcm_ge, lcm_gt, lcm_le, lcm_eq, b2_0, b2_n0, b2_e1, b2_e0, Bool.not_eq_false, Bool.not_eq_true, decide_eq_true_eq, decide_eq_false_iff_not, Classical.not_not] at bh3
        refine V.blk [(90, .bipush 0, 1), (91, .goto 106, 3), (106, .istore 8, 2), (108, .iload 8, 2), (110, .ifCond .ne 116, 3)] (ps := []) (z' := (brc .ne 0 0 116 113, [some (aR 52), some (aI (s : Int)), some (aI (p : Int)), some (aI (pe : Int)), some (aI C), some (aI 1), some (aI (S6 : Int)), some (aI (e : Int)), some (aI 0), w9, w10], [], MM N I J)) (by decide +kernel) rfl trivial ?_
        refine V.ne (fun hz => absurd hz (by decide)) (fun _ => ?_)
        refine V.blk [(113, .goto 238, 3), (238, .aload 0, 1), (239, .getfield 10049, 3), (242, .iload 7, 2), (244, .iaload, 1), (245, .istore 7, 2), (247, .goto 51, 3)] (ps := [0 ≤ (e : Int) ∧ (e : Int) < 420]) (z' := (51, [some (aR 52), some (aI (s : Int)), some (aI (p : Int)), some (aI (pe : Int)), some (aI C), some (aI 1), some (aI (S6 : Int)), some (aI (I 88 e)), some (aI 0), w9, w10], [], MM N I J)) (by decide +kernel) rfl (show (0 ≤ (e : Int) ∧ (e : Int) < 420) from (by omega)) ?_
        have hne : e ≠ q := by
          intro h
          subst h
          first
            | omega
            | (rw [htl.mpr (by omega)] at w10'
               omega)
        rw [hnxe]
        exact ih (e + 1) _ _ _ (by omega) (by omega)
      · skip
        try simp only [b2_cast, b2_ncast, Classical.not_not, lcm_lt, lcm_ge, lcm_gt, lcm_le, lcm_eq, b2_0, b2_n0, b2_e1, b2_e0, Bool.not_eq_false, Bool.not_eq_true, decide_eq_true_eq, decide_eq_false_iff_not, Classical.not_not] at bh4
        refine V.blk [(73, .aload 0, 1), (74, .getfield 10009, 3), (77, .iload 7, 2), (79, .iaload, 1), (80, .bipush 1000, 3), (83, .if_icmp .ge 90, 3)] (ps := [0 ≤ (e : Int) ∧ (e : Int) < 420]) (z' := (brc .ge (I 61 e) 1000 90 86, [some (aR 52), some (aI (s : Int)), some (aI (p : Int)), some (aI (pe : Int)), some (aI C), some (aI 1), some (aI (S6 : Int)), some (aI (e : Int)), w8, w9, w10], [], MM N I J)) (by decide +kernel) rfl (show (0 ≤ (e : Int) ∧ (e : Int) < 420) from (by omega)) ?_
        refine V.ge (fun bh5 => ?_) (fun bh6 => ?_)
        · skip
          try simp only [b2_cast, b2_ncast, Classical.not_not, lcm_lt, lcm_ge, lcm_gt, lcm_le, lcm_eq, b2_0, b2_n0, b2_e1, b2_e0, Bool.not_eq_false, Bool.not_eq_true, decide_eq_true_eq, decide_eq_false_iff_not, Classical.not_not] at bh5
          refine V.blk [(90, .bipush 0, 1), (91, .goto 106, 3), (106, .istore 8, 2), (108, .iload 8, 2), (110, .ifCond .ne 116, 3)] (ps := []) (z' := (brc .ne 0 0 116 113, [some (aR 52), some (aI (s : Int)), some (aI (p : Int)), some (aI (pe : Int)), some (aI C), some (aI 1), some (aI (S6 : Int)), some (aI (e : Int)), some (aI 0), w9, w10], [], MM N I J)) (by decide +kernel) rfl trivial ?_
          refine V.ne (fun hz => absurd hz (by decide)) (fun _ => ?_)
          refine V.blk [(113, .goto 238, 3), (238, .aload 0, 1), (239, .getfield 10049, 3), (242, .iload 7, 2), (244, .iaload, 1), (245, .istore 7, 2), (247, .goto 51, 3)] (ps := [0 ≤ (e : Int) ∧ (e : Int) < 420]) (z' := (51, [some (aR 52), some (aI (s : Int)), some (aI (p : Int)), some (aI (pe : Int)), some (aI C), some (aI 1), some (aI (S6 : Int)), some (aI (I 88 e)), some (aI 0), w9, w10], [], MM N I J)) (by decide +kernel) rfl (show (0 ≤ (e : Int) ∧ (e : Int) < 420) from (by omega)) ?_
          have hne : e ≠ q := by
            intro h
            subst h
            first
              | omega
              | (rw [htl.mpr (by omega)] at w10'
                 omega)
          rw [hnxe]
          exact ih (e + 1) _ _ _ (by omega) (by omega)
        · skip
          try simp only [b2_cast, b2_ncast, Classical.not_not, lcm_lt, lcm_ge, lcm_gt, lcm_le, lcm_eq, b2_0, b2_n0, b2_e1, b2_e0, Bool.not_eq_false, Bool.not_eq_true, decide_eq_true_eq, decide_eq_false_iff_not, Classical.not_not] at bh6
          refine V.blk [(86, .bipush 1, 1), (87, .goto 106, 3), (106, .istore 8, 2), (108, .iload 8, 2), (110, .ifCond .ne 116, 3)] (ps := []) (z' := (brc .ne 1 0 116 113, [some (aR 52), some (aI (s : Int)), some (aI (p : Int)), some (aI (pe : Int)), some (aI C), some (aI 1), some (aI (S6 : Int)), some (aI (e : Int)), some (aI 1), w9, w10], [], MM N I J)) (by decide +kernel) rfl trivial ?_
          refine V.ne (fun _ => ?_) (fun hz => absurd hz (by decide))
          refine V.blk [(116, .iload 5, 2), (118, .ifCond .eq 144, 3)] (ps := []) (z' := (brc .eq 1 0 144 121, [some (aR 52), some (aI (s : Int)), some (aI (p : Int)), some (aI (pe : Int)), some (aI C), some (aI 1), some (aI (S6 : Int)), some (aI (e : Int)), some (aI 1), w9, w10], [], MM N I J)) (by decide +kernel) rfl trivial ?_
          refine V.eq (fun hz => absurd hz (by decide)) (fun _ => ?_)
          refine V.blk [(121, .bipush 8, 2), (123, .aload 0, 1), (124, .getfield 10009, 3), (127, .iload 7, 2), (129, .iaload, 1), (130, .bipush 100, 2), (132, .isub, 1), (133, .imul, 1), (134, .aload 0, 1), (135, .getfield 10004, 3), (138, .iload 2, 1), (139, .iaload, 1), (140, .iadd, 1), (141, .goto 171, 3)] (ps := [0 ≤ (e : Int) ∧ (e : Int) < 420, inR ((I 61 e) - 100), inR (8 * ((I 61 e) - 100)), 0 ≤ (p : Int) ∧ (p : Int) < 64, inR ((8 * ((I 61 e) - 100)) + (I 56 p))]) (z' := (171, [some (aR 52), some (aI (s : Int)), some (aI (p : Int)), some (aI (pe : Int)), some (aI C), some (aI 1), some (aI (S6 : Int)), some (aI (e : Int)), some (aI 1), w9, w10], [aI ((8 * ((I 61 e) - 100)) + (I 56 p))], MM N I J)) (by decide +kernel) rfl (show (0 ≤ (e : Int) ∧ (e : Int) < 420) ∧ (inR ((I 61 e) - 100)) ∧ (inR (8 * ((I 61 e) - 100))) ∧ (0 ≤ (p : Int) ∧ (p : Int) < 64) ∧ (inR ((8 * ((I 61 e) - 100)) + (I 56 p))) from ⟨(by omega), (by unfold inR; omega), (by unfold inR; omega), (by omega), (by unfold inR; omega)⟩) ?_
          have hu19 : K 19 e = K 13 e - 100 := by
            rw [w10']
            unfold toldOf
            rw [if_pos (by omega)]
          have hu5 : K 13 e - 100 < K 1 1 := by rcases w5 with w | w | w <;> omega
          have hSe : (K 19 e).toNat * 8 + (K 6 p).toNat < 320 := by omega
          have h8e := h89 _ hSe
          have hce := hcp _ hSe
          have hbe : bhX K c pe e p = c ((K 19 e).toNat * 8 + (K 6 p).toNat) := by
            unfold bhX bhT
            rw [if_pos e4, if_neg (by omega)]
          rw [show 8 * (I 61 e - 100) + I 56 p = (((K 19 e).toNat * 8 + (K 6 p).toNat : Nat) : Int) by omega]
          refine V.blk [(171, .istore 9, 2), (173, .iload 9, 2), (175, .ifCond .lt 190, 3)] (ps := []) (z' := (brc .lt (((K 19 e).toNat * 8 + (K 6 p).toNat : Nat) : Int) 0 190 178, [some (aR 52), some (aI (s : Int)), some (aI (p : Int)), some (aI (pe : Int)), some (aI C), some (aI 1), some (aI (S6 : Int)), some (aI (e : Int)), some (aI 1), some (aI (((K 19 e).toNat * 8 + (K 6 p).toNat : Nat) : Int)), w10], [], MM N I J)) (by decide +kernel) rfl trivial ?_
          refine V.lt (fun bh7 => ?_) (fun bh8 => ?_)
          · skip
            exfalso
            omega
          · skip
            try simp only [b2_cast, b2_ncast, Classical.not_not, lcm_lt, lcm_ge, lcm_gt, lcm_le, lcm_eq, b2_0, b2_n0, b2_e1, b2_e0, Bool.not_eq_false, Bool.not_eq_true, decide_eq_true_eq, decide_eq_false_iff_not, Classical.not_not] at bh8
            refine V.blk [(178, .bipush 1, 1), (179, .aload 0, 1), (180, .getfield 10050, 3), (183, .iload 9, 2), (185, .iaload, 1), (186, .iadd, 1), (187, .goto 197, 3), (197, .istore 10, 2), (199, .iload 10, 2), (201, .iload 4, 2), (203, .if_icmp .eq 209, 3)] (ps := [0 ≤ (((K 19 e).toNat * 8 + (K 6 p).toNat : Nat) : Int) ∧ (((K 19 e).toNat * 8 + (K 6 p).toNat : Nat) : Int) < 320, inR (1 + (I 89 ((K 19 e).toNat * 8 + (K 6 p).toNat)))]) (z' := (brc .eq (1 + (I 89 ((K 19 e).toNat * 8 + (K 6 p).toNat))) C 209 206, [some (aR 52), some (aI (s : Int)), some (aI (p : Int)), some (aI (pe : Int)), some (aI C), some (aI 1), some (aI (S6 : Int)), some (aI (e : Int)), some (aI 1), some (aI (((K 19 e).toNat * 8 + (K 6 p).toNat : Nat) : Int)), some (aI (1 + (I 89 ((K 19 e).toNat * 8 + (K 6 p).toNat))))], [], MM N I J)) (by decide +kernel) rfl (show (0 ≤ (((K 19 e).toNat * 8 + (K 6 p).toNat : Nat) : Int) ∧ (((K 19 e).toNat * 8 + (K 6 p).toNat : Nat) : Int) < 320) ∧ (inR (1 + (I 89 ((K 19 e).toNat * 8 + (K 6 p).toNat)))) from ⟨(by omega), (by unfold inR; omega)⟩) ?_
            refine V.eq (fun bh9 => ?_) (fun bh10 => ?_)
            · skip
              try simp only [b2_cast, b2_ncast, Classical.not_not, lcm_lt, lcm_ge, lcm_gt, lcm_le, lcm_eq, b2_0, b2_n0, b2_e1, b2_e0, Bool.not_eq_false, Bool.not_eq_true, decide_eq_true_eq, decide_eq_false_iff_not, Classical.not_not] at bh9
              have hqe : e = q := by
                by_cases h : e < q
                · exfalso
                  have := hlowe h
                  omega
                · omega
              subst hqe
              rw [show (K 19 e).toNat * 8 + (K 6 p).toNat = s2 by omega]
              refine V.blk [(209, .aload 0, 1), (210, .iload 7, 2)] (ps := []) (z' := (212, [some (aR 52), some (aI (s : Int)), some (aI (p : Int)), some (aI (pe : Int)), some (aI C), some (aI 1), some (aI (S6 : Int)), some (aI (e : Int)), some (aI 1), some (aI (s2 : Int)), some (aI (1 + (I 89 (s2))))], [aI (e : Int), aR 52], MM N I J)) (by decide +kernel) rfl trivial ?_
              refine V.cv (c := 184) (na := 2) (o := 10) (a := 52) [aI (e : Int)] [] (by decide +kernel) rfl rfl rfl rfl rfl ((m_tell (by omega)).mono (fun rv M1 q => ?_))
              obtain ⟨rfl, rfl⟩ := q
              show V 185 (215, [some (aR 52), some (aI (s : Int)), some (aI (p : Int)), some (aI (pe : Int)), some (aI C), some (aI 1), some (aI (S6 : Int)), some (aI (e : Int)), some (aI 1), some (aI (s2 : Int)), some (aI (1 + (I 89 (s2))))], [], MM N ((tlM I (e : Int))) J) _
              refine V.blk [(215, .iload 9, 2), (217, .ifCond .lt 237, 3)] (ps := []) (z' := (brc .lt (s2 : Int) 0 237 220, [some (aR 52), some (aI (s : Int)), some (aI (p : Int)), some (aI (pe : Int)), some (aI C), some (aI 1), some (aI (S6 : Int)), some (aI (e : Int)), some (aI 1), some (aI (s2 : Int)), some (aI (1 + (I 89 (s2))))], [], MM N ((tlM I (e : Int))) J)) (by decide +kernel) rfl trivial ?_
              refine V.nI (fun I11 eI11 => ?_)
              refine V.lt (fun bh12 => ?_) (fun bh13 => ?_)
              · skip
                exfalso
                omega
              · skip
                try simp only [b2_cast, b2_ncast, Classical.not_not, lcm_lt, lcm_ge, lcm_gt, lcm_le, lcm_eq, b2_0, b2_n0, b2_e1, b2_e0, Bool.not_eq_false, Bool.not_eq_true, decide_eq_true_eq, decide_eq_false_iff_not, Classical.not_not] at bh13
                obtain ⟨t1, t2, t3, t4⟩ := tlM_f I (e : Int)
                rw [← eI11] at t1 t2 t3 t4
                have hT3 : RTh K I11 := by unfold RTh; rw [t2 1 (by decide), t1 53 (by decide) (by decide)]; exact hT0
                have hks3 := kS_lt hkd (s := s2) (by omega)
                have h583 : I11 58 (kS K s2) = (r : Int) := by rw [t1 58 (by decide) (by decide)]; exact (hH.1.2.2.2.2.2.2.2.1.2 _ hks3).trans er
                have h543 : I11 52 54 = (w : Int) := by rw [t2 54 (by decide)]; exact hI.2
                refine V.blk [(220, .aload 0, 1), (221, .iload 9, 2), (223, .aload 0, 1), (224, .getfield 10006, 3), (227, .aload 0, 1), (228, .iload 9, 2)] (ps := []) (z' := (230, [some (aR 52), some (aI (s : Int)), some (aI (p : Int)), some (aI (pe : Int)), some (aI C), some (aI 1), some (aI (S6 : Int)), some (aI (e : Int)), some (aI 1), some (aI (s2 : Int)), some (aI (1 + (I 89 (s2))))], [aI (s2 : Int), aR 52, aR 58, aI (s2 : Int), aR 52], MM N I11 J)) (by decide +kernel) rfl trivial ?_
                refine V.cv (c := 168) (na := 2) (o := 10) (a := 52) [aI (s2 : Int)] [aR 58, aI (s2 : Int), aR 52] (by decide +kernel) rfl rfl rfl rfl rfl (V.pr (m_nodeOf (K := K) hT3 hkd (by omega) (by omega)) ?_)
                show V 185 (233, [some (aR 52), some (aI (s : Int)), some (aI (p : Int)), some (aI (pe : Int)), some (aI C), some (aI 1), some (aI (S6 : Int)), some (aI (e : Int)), some (aI 1), some (aI (s2 : Int)), some (aI (1 + (I 89 (s2))))], [aI ((kS K s2 : Nat) : Int), aR 58, aI (s2 : Int), aR 52], MM N I11 J) _
                refine V.blk [(233, .iaload, 1)] (ps := [0 ≤ ((kS K s2 : Nat) : Int) ∧ ((kS K s2 : Nat) : Int) < 48]) (z' := (234, [some (aR 52), some (aI (s : Int)), some (aI (p : Int)), some (aI (pe : Int)), some (aI C), some (aI 1), some (aI (S6 : Int)), some (aI (e : Int)), some (aI 1), some (aI (s2 : Int)), some (aI (1 + (I 89 (s2))))], [aI (I11 58 (kS K s2)), aI (s2 : Int), aR 52], MM N I11 J)) (by decide +kernel) rfl (show (0 ≤ ((kS K s2 : Nat) : Int) ∧ ((kS K s2 : Nat) : Int) < 48) from (by omega)) ?_
                rw [h583]
                refine V.cv (c := 183) (na := 3) (o := 10) (a := 52) [aI (r : Int), aI (s2 : Int)] [] (by decide +kernel) rfl rfl rfl rfl rfl ((m_opens (by omega)).mono (fun rv M1 q => ?_))
                obtain ⟨rfl, rfl⟩ := q
                show V 185 (237, [some (aR 52), some (aI (s : Int)), some (aI (p : Int)), some (aI (pe : Int)), some (aI C), some (aI 1), some (aI (S6 : Int)), some (aI (e : Int)), some (aI 1), some (aI (s2 : Int)), some (aI (1 + (I 89 (s2))))], [], MM N ((opU I11 (s2 : Int) (r : Int))) J) _
                refine V.nI (fun I14 eI14 => ?_)
                refine V.rv (by decide +kernel) ?_
                obtain ⟨z1, z2, z3, z4, z5⟩ := opU_f (tlM I (e : Int)) (s2 : Int) (r : Int)
                obtain ⟨t1, t2, t3, t4⟩ := tlM_f I (e : Int)
                have hR2 := (hR.tell hn).opens (X := []) hfi (by omega)
                subst_vars
                refine ⟨rfl, _, w + 1, rfl, hR2, fun i a b c d => ?_, fun k a b => ?_⟩
                · rw [z1 i a b c, t1 i a d]
                · rw [z2 k a, t2 k b]
            · skip
              try simp only [b2_cast, b2_ncast, Classical.not_not, lcm_lt, lcm_ge, lcm_gt, lcm_le, lcm_eq, b2_0, b2_n0, b2_e1, b2_e0, Bool.not_eq_false, Bool.not_eq_true, decide_eq_true_eq, decide_eq_false_iff_not, Classical.not_not] at bh10
              refine V.blk [(206, .goto 238, 3), (238, .aload 0, 1), (239, .getfield 10049, 3), (242, .iload 7, 2), (244, .iaload, 1), (245, .istore 7, 2), (247, .goto 51, 3)] (ps := [0 ≤ (e : Int) ∧ (e : Int) < 420]) (z' := (51, [some (aR 52), some (aI (s : Int)), some (aI (p : Int)), some (aI (pe : Int)), some (aI C), some (aI 1), some (aI (S6 : Int)), some (aI (I 88 e)), some (aI 1), some (aI (((K 19 e).toNat * 8 + (K 6 p).toNat : Nat) : Int)), some (aI (1 + (I 89 ((K 19 e).toNat * 8 + (K 6 p).toNat))))], [], MM N I J)) (by decide +kernel) rfl (show (0 ≤ (e : Int) ∧ (e : Int) < 420) from (by omega)) ?_
              have hne : e ≠ q := by
                intro h
                subst h
                first
                  | omega
                  | (rw [htl.mpr (by omega)] at w10'
                     omega)
              rw [hnxe]
              exact ih (e + 1) _ _ _ (by omega) (by omega)
theorem l_tp0 {N : Nat} {I : MI} {J : MJ} {K : MI} {L : MJ} {cp : Nat → Bool} {v : SV} {pe : Nat} {c : Nat → Int} {T0 : List Int} {n w s p m q S6 : Nat} {C : Int} (hM : RMm K L cp v pe c I J) (hm : K 10 9 = m) (hp : p < 64) (hs : s < 320) (hS6 : S6 < 320) (hq : q < m) (hb : spB K cp S6 q = true) (hC : 1 ≤ C ∧ C ≤ 320) (hn : n < 60) (hI : I 52 56 = (n : Int) ∧ I 52 54 = (w : Int)) (hval : bhX K c pe q p = C - 1) (hlow : ∀ e : Nat, e < q → spB K cp S6 e = true → C - 1 < bhX K c pe e p) (e4 : K 4 p = 0 ∨ K 4 p = 1) (hwb : w < 20545) (hend : TpE K L cp v pe c T0 I n w q) : ∀ (k x : Nat) (w8 w9 w10 : Option AV), m + 1 ≤ k + x → x ≤ q → V 185 (51, [some (aR 52), some (aI (s : Int)), some (aI (p : Int)), some (aI (pe : Int)), some (aI C), some (aI 0), some (aI (S6 : Int)), some (aI (sr (spB K cp S6) x m)), w8, w9, w10], [], MM N I J) (fun rv M' => rv = none ∧ ∃ I' w', M' = MM N I' J ∧ RsP K L cp v pe c T0 I' (n + 1) w' [] ∧ (∀ i, i ≠ 52 → i ≠ 91 → i ≠ 92 → i ≠ 93 → I' i = I i) ∧ (∀ k, k ≠ 54 → k ≠ 56 → I' 52 k = I 52 k)) := by
  intro k
  induction k with
  | zero => intro x w8 w9 w10 h1 h2; exfalso; omega
  | succ k ih =>
    intro x w8 w9 w10 h1 h2
    obtain ⟨hRP, hH, h89, h83, hz0⟩ := id hM
    have hP := hH.1.2.2.2.2.2.2.2.2.1
    have hT0 := hH.1.2.2.2.2.2.2.1
    have hkd := hH.1.1.2.2
    have hm4 := hH.1.2.2.2.2.1
    have h40 := hH.1.1.2.1
    have hsc := sr_c (spB K cp S6) (show x ≤ m by omega)
    have hcp := hRP.2.2.1
    obtain ⟨r54, r55, r56, -⟩ := hH.1.2.2.2.2.2.2.2.1.1 p hp
    have rr := hH.1.2.1.rt.1 p hp
    have hcI : CPos (I 89) := fun s hs => by rw [h89 s hs]; exact hcp s hs
    refine V.blk [(51, .iload 7, 2), (53, .ifCond .lt 250, 3)] (ps := []) (z' := (brc .lt (sr (spB K cp S6) x m) 0 250 56, [some (aR 52), some (aI (s : Int)), some (aI (p : Int)), some (aI (pe : Int)), some (aI C), some (aI 0), some (aI (S6 : Int)), some (aI (sr (spB K cp S6) x m)), w8, w9, w10], [], MM N I J)) (by decide +kernel) rfl trivial ?_
    refine V.lt (fun bh1 => ?_) (fun bh2 => ?_)
    · skip
      exfalso
      rcases hsc with ⟨-, w⟩ | ⟨e, -, -, w, -⟩
      · have := w q h2 hq
        rw [hb] at this
        cases this
      · omega
    · skip
      try simp only [b2_cast, b2_ncast, Classical.not_not, lcm_lt, lcm_ge, lcm_gt, lcm_le, lcm_eq, b2_0, b2_n0, b2_e1, b2_e0, Bool.not_eq_false, Bool.not_eq_true, decide_eq_true_eq, decide_eq_false_iff_not, Classical.not_not] at bh2
      obtain ⟨e, y1, y2, y3, y4, y5⟩ : ∃ e, x ≤ e ∧ e < m ∧ sr (spB K cp S6) x m = (e : Int) ∧ spB K cp S6 e = true ∧ ∀ r, x ≤ r → r < e → spB K cp S6 r = false := by
        rcases hsc with ⟨w, -⟩ | w
        · exfalso; omega
        · exact w
      rw [y3]
      have heq : e ≤ q := by
        by_cases h : e ≤ q
        · exact h
        · have := y5 q h2 (by omega)
          rw [hb] at this
          cases this
      clear hsc
      obtain ⟨g1, g2, g3, g4, g5, g6⟩ := hP.2 e (by omega)
      have hWe := hH.1.2.2.2.1 e (by omega)
      obtain ⟨w1, w2, w3, w4, w5, w6, w7, w8', w9', w10'⟩ := hWe
      have hqs := spB_t.mp y4
      have hnxe : I 88 e = sr (spB K cp S6) (e + 1) m := by
        have := hH.2.2.2 e (Nat.zero_le _) (by omega) hqs.1
        rw [this, show (K 17 e).toNat = S6 by omega, show (K 10 9).toNat = m by omega]
      have htl : toldOf (K 13 e) = -1 ↔ ¬ (100 ≤ K 13 e ∧ K 13 e < 1000) := by
        unfold toldOf
        split <;> omega
      have hlowe := fun h => hlow e h y4
      have hbM : bhX K c pe e p = bhM K c pe (decide (K 4 p = 1)) e := by
        unfold bhX
        rw [if_neg (by omega)]
      have hclu : 1000 ≤ K 13 e → K 18 e = (K 13 e - 1000) / 10 * 8 + (K 13 e - 1000) % 10 ∧ (K 13 e - 1000) / 10 < K 1 1 ∧ (K 13 e - 1000) % 10 < 8 := fun h => by
        refine ⟨?_, by rcases w5 with w | w | w <;> omega, by rcases w5 with w | w | w <;> omega⟩
        rw [w9']
        unfold clubOf
        rw [if_pos h]
      have hncl : ¬ 1000 ≤ K 13 e → K 18 e = -1 := fun h => by
        rw [w9']
        unfold clubOf
        rw [if_neg h]
      refine V.blk [(56, .iload 5, 2), (58, .ifCond .eq 94, 3)] (ps := []) (z' := (brc .eq 0 0 94 61, [some (aR 52), some (aI (s : Int)), some (aI (p : Int)), some (aI (pe : Int)), some (aI C), some (aI 0), some (aI (S6 : Int)), some (aI (e : Int)), w8, w9, w10], [], MM N I J)) (by decide +kernel) rfl trivial ?_
      refine V.eq (fun _ => ?_) (fun hz => absurd hz (by decide))
      refine V.blk [(94, .aload 0, 1), (95, .iload 7, 2), (97, .aload 0, 1), (98, .getfield 10002, 3), (101, .iload 2, 1), (102, .iaload, 1)] (ps := [0 ≤ (p : Int) ∧ (p : Int) < 64]) (z' := (103, [some (aR 52), some (aI (s : Int)), some (aI (p : Int)), some (aI (pe : Int)), some (aI C), some (aI 0), some (aI (S6 : Int)), some (aI (e : Int)), w8, w9, w10], [aI (I 54 p), aI (e : Int), aR 52], MM N I J)) (by decide +kernel) rfl (show (0 ≤ (p : Int) ∧ (p : Int) < 64) from (by omega)) ?_
      have eu : I 54 p = b2 (decide (K 4 p = 1)) := by
        rw [r54]
        rcases e4 with e4 | e4 <;> rw [e4] <;> rfl
      rw [eu]
      refine V.cv (c := 164) (na := 3) (o := 10) (a := 52) [aI (b2 (decide (K 4 p = 1))), aI (e : Int)] [] (by decide +kernel) rfl rfl rfl rfl rfl (V.pr (m_isOf (K := K) (by omega) (by omega) hP) ?_)
      show V 185 (106, [some (aR 52), some (aI (s : Int)), some (aI (p : Int)), some (aI (pe : Int)), some (aI C), some (aI 0), some (aI (S6 : Int)), some (aI (e : Int)), w8, w9, w10], [aI (b2 (decide (decide (K 14 e ≠ 0) = decide (K 4 p = 1))))], MM N I J) _
      refine V.blk [(106, .istore 8, 2), (108, .iload 8, 2), (110, .ifCond .ne 116, 3)] (ps := []) (z' := (brc .ne (b2 (decide (decide (K 14 e ≠ 0) = decide (K 4 p = 1)))) 0 116 113, [some (aR 52), some (aI (s : Int)), some (aI (p : Int)), some (aI (pe : Int)), some (aI C), some (aI 0), some (aI (S6 : Int)), some (aI (e : Int)), some (aI (b2 (decide (decide (K 14 e ≠ 0) = decide (K 4 p = 1))))), w9, w10], [], MM N I J)) (by decide +kernel) rfl trivial ?_
      refine V.ne (fun bh3 => ?_) (fun bh4 => ?_)
      · skip
        try simp only [b2_cast, b2_ncast, Classical.not_not, lcm_lt, lcm_ge, lcm_gt, lcm_le, lcm_eq, b2_0, b2_n0, b2_e1, b2_e0, Bool.not_eq_false, Bool.not_eq_true, decide_eq_true_eq, decide_eq_false_iff_not, Classical.not_not] at bh3
        have hio : decide (K 14 e ≠ 0) = decide (K 4 p = 1) := by first | assumption | simp_all
        refine V.blk [(116, .iload 5, 2), (118, .ifCond .eq 144, 3)] (ps := []) (z' := (brc .eq 0 0 144 121, [some (aR 52), some (aI (s : Int)), some (aI (p : Int)), some (aI (pe : Int)), some (aI C), some (aI 0), some (aI (S6 : Int)), some (aI (e : Int)), some (aI (b2 (decide (decide (K 14 e ≠ 0) = decide (K 4 p = 1))))), w9, w10], [], MM N I J)) (by decide +kernel) rfl trivial ?_
        refine V.eq (fun _ => ?_) (fun hz => absurd hz (by decide))
        refine V.blk [(144, .aload 0, 1), (145, .getfield 10009, 3), (148, .iload 7, 2), (150, .iaload, 1)] (ps := [0 ≤ (e : Int) ∧ (e : Int) < 420]) (z' := (151, [some (aR 52), some (aI (s : Int)), some (aI (p : Int)), some (aI (pe : Int)), some (aI C), some (aI 0), some (aI (S6 : Int)), some (aI (e : Int)), some (aI (b2 (decide (decide (K 14 e ≠ 0) = decide (K 4 p = 1))))), w9, w10], [aI (I 61 e)], MM N I J)) (by decide +kernel) rfl (show (0 ≤ (e : Int) ∧ (e : Int) < 420) from (by omega)) ?_
        refine V.cs (c := 122) (na := 1) [aI (I 61 e)] [] (by decide +kernel) rfl rfl (V.pr (m_X10_isClub) ?_)
        show V 185 (154, [some (aR 52), some (aI (s : Int)), some (aI (p : Int)), some (aI (pe : Int)), some (aI C), some (aI 0), some (aI (S6 : Int)), some (aI (e : Int)), some (aI (b2 (decide (decide (K 14 e ≠ 0) = decide (K 4 p = 1))))), w9, w10], [aI (b2 (decide (1000 ≤ (I 61 e))))], MM N I J) _
        refine V.blk [(154, .ifCond .eq 170, 3)] (ps := []) (z' := (brc .eq (b2 (decide (1000 ≤ (I 61 e)))) 0 170 157, [some (aR 52), some (aI (s : Int)), some (aI (p : Int)), some (aI (pe : Int)), some (aI C), some (aI 0), some (aI (S6 : Int)), some (aI (e : Int)), some (aI (b2 (decide (decide (K 14 e ≠ 0) = decide (K 4 p = 1))))), w9, w10], [], MM N I J)) (by decide +kernel) rfl trivial ?_
        refine V.eq (fun bh5 => ?_) (fun bh6 => ?_)
        · skip
          try simp only [b2_cast, b2_ncast, Classical.not_not, lcm_lt, lcm_ge, lcm_gt, lcm_le, lcm_eq, b2_0, b2_n0, b2_e1, b2_e0, Bool.not_eq_false, Bool.not_eq_true, decide_eq_true_eq, decide_eq_false_iff_not, Classical.not_not] at bh5
          refine V.blk [(170, .bipush (-1), 1)] (ps := []) (z' := (171, [some (aR 52), some (aI (s : Int)), some (aI (p : Int)), some (aI (pe : Int)), some (aI C), some (aI 0), some (aI (S6 : Int)), some (aI (e : Int)), some (aI (b2 (decide (decide (K 14 e ≠ 0) = decide (K 4 p = 1))))), w9, w10], [aI (-1)], MM N I J)) (by decide +kernel) rfl trivial ?_
          have hno := hncl (by omega)
          have hbe : bhX K c pe e p = if K 13 e = (pe : Int) then 0 else 1000000 := by
            rw [hbM]
            unfold bhM
            rw [if_pos hio, if_neg (by omega)]
          have hcbe : cbM K (I 89) pe e = if K 13 e = (pe : Int) then 1 else 1000000 := by
            unfold cbM
            rw [if_neg (by omega)]
          refine V.blk [(171, .istore 9, 2), (173, .iload 9, 2), (175, .ifCond .lt 190, 3)] (ps := []) (z' := (brc .lt (-1) 0 190 178, [some (aR 52), some (aI (s : Int)), some (aI (p : Int)), some (aI (pe : Int)), some (aI C), some (aI 0), some (aI (S6 : Int)), some (aI (e : Int)), some (aI (b2 (decide (decide (K 14 e ≠ 0) = decide (K 4 p = 1))))), some (aI (-1)), w10], [], MM N I J)) (by decide +kernel) rfl trivial ?_
          refine V.lt (fun _ => ?_) (fun hz => absurd hz (by decide))
          refine V.blk [(190, .aload 0, 1), (191, .iload 7, 2), (193, .iload 3, 1)] (ps := []) (z' := (194, [some (aR 52), some (aI (s : Int)), some (aI (p : Int)), some (aI (pe : Int)), some (aI C), some (aI 0), some (aI (S6 : Int)), some (aI (e : Int)), some (aI (b2 (decide (decide (K 14 e ≠ 0) = decide (K 4 p = 1))))), some (aI (-1)), w10], [aI (pe : Int), aI (e : Int), aR 52], MM N I J)) (by decide +kernel) rfl trivial ?_
          refine V.cv (c := 178) (na := 3) (o := 10) (a := 52) [aI (pe : Int), aI (e : Int)] [] (by decide +kernel) rfl rfl rfl rfl rfl (V.pr (m_costBy (K := K) (by omega) (by omega) hP (hH.1.2.2.2.1 e (by omega)) h40 hcI) ?_)
          show V 185 (197, [some (aR 52), some (aI (s : Int)), some (aI (p : Int)), some (aI (pe : Int)), some (aI C), some (aI 0), some (aI (S6 : Int)), some (aI (e : Int)), some (aI (b2 (decide (decide (K 14 e ≠ 0) = decide (K 4 p = 1))))), some (aI (-1)), w10], [aI (cbM K (I 89) pe e)], MM N I J) _
          refine V.blk [(197, .istore 10, 2), (199, .iload 10, 2), (201, .iload 4, 2), (203, .if_icmp .eq 209, 3)] (ps := []) (z' := (brc .eq (cbM K (I 89) pe e) C 209 206, [some (aR 52), some (aI (s : Int)), some (aI (p : Int)), some (aI (pe : Int)), some (aI C), some (aI 0), some (aI (S6 : Int)), some (aI (e : Int)), some (aI (b2 (decide (decide (K 14 e ≠ 0) = decide (K 4 p = 1))))), some (aI (-1)), some (aI (cbM K (I 89) pe e))], [], MM N I J)) (by decide +kernel) rfl trivial ?_
          refine V.eq (fun bh7 => ?_) (fun bh8 => ?_)
          · skip
            try simp only [b2_cast, b2_ncast, Classical.not_not, lcm_lt, lcm_ge, lcm_gt, lcm_le, lcm_eq, b2_0, b2_n0, b2_e1, b2_e0, Bool.not_eq_false, Bool.not_eq_true, decide_eq_true_eq, decide_eq_false_iff_not, Classical.not_not] at bh7
            have hqe : e = q := by
              by_cases h : e < q
              · exfalso
                have := hlowe h
                by_cases g : K 13 e = (pe : Int)
                · rw [if_pos g] at hbe hcbe
                  omega
                · rw [if_neg g] at hbe hcbe
                  omega
              · omega
            subst hqe
            have hR : RsP K L cp v pe c T0 I n w [(e : Int)] := by
              rcases hend with ⟨-, h⟩ | ⟨s2, r, h, -⟩
              · exact h
              · exfalso; omega
            refine V.blk [(209, .aload 0, 1), (210, .iload 7, 2)] (ps := []) (z' := (212, [some (aR 52), some (aI (s : Int)), some (aI (p : Int)), some (aI (pe : Int)), some (aI C), some (aI 0), some (aI (S6 : Int)), some (aI (e : Int)), some (aI (b2 (decide (decide (K 14 e ≠ 0) = decide (K 4 p = 1))))), some (aI (-1)), some (aI (cbM K (I 89) pe e))], [aI (e : Int), aR 52], MM N I J)) (by decide +kernel) rfl trivial ?_
            refine V.cv (c := 184) (na := 2) (o := 10) (a := 52) [aI (e : Int)] [] (by decide +kernel) rfl rfl rfl rfl rfl ((m_tell (by omega)).mono (fun rv M1 q => ?_))
            obtain ⟨rfl, rfl⟩ := q
            show V 185 (215, [some (aR 52), some (aI (s : Int)), some (aI (p : Int)), some (aI (pe : Int)), some (aI C), some (aI 0), some (aI (S6 : Int)), some (aI (e : Int)), some (aI (b2 (decide (decide (K 14 e ≠ 0) = decide (K 4 p = 1))))), some (aI (-1)), some (aI (cbM K (I 89) pe e))], [], MM N ((tlM I (e : Int))) J) _
            refine V.blk [(215, .iload 9, 2), (217, .ifCond .lt 237, 3)] (ps := []) (z' := (brc .lt (-1) 0 237 220, [some (aR 52), some (aI (s : Int)), some (aI (p : Int)), some (aI (pe : Int)), some (aI C), some (aI 0), some (aI (S6 : Int)), some (aI (e : Int)), some (aI (b2 (decide (decide (K 14 e ≠ 0) = decide (K 4 p = 1))))), some (aI (-1)), some (aI (cbM K (I 89) pe e))], [], MM N ((tlM I (e : Int))) J)) (by decide +kernel) rfl trivial ?_
            refine V.nI (fun I9 eI9 => ?_)
            refine V.lt (fun _ => ?_) (fun hz => absurd hz (by decide))
            refine V.rv (by decide +kernel) ?_
            obtain ⟨t1, t2, t3, t4⟩ := tlM_f I (e : Int)
            have hR2 := hR.tell hn
            subst_vars
            exact ⟨rfl, _, w, rfl, hR2, fun i a b c d => t1 i a d, fun k a b => t2 k b⟩
          · skip
            try simp only [b2_cast, b2_ncast, Classical.not_not, lcm_lt, lcm_ge, lcm_gt, lcm_le, lcm_eq, b2_0, b2_n0, b2_e1, b2_e0, Bool.not_eq_false, Bool.not_eq_true, decide_eq_true_eq, decide_eq_false_iff_not, Classical.not_not] at bh8
            refine V.blk [(206, .goto 238, 3), (238, .aload 0, 1), (239, .getfield 10049, 3), (242, .iload 7, 2), (244, .iaload, 1), (245, .istore 7, 2), (247, .goto 51, 3)] (ps := [0 ≤ (e : Int) ∧ (e : Int) < 420]) (z' := (51, [some (aR 52), some (aI (s : Int)), some (aI (p : Int)), some (aI (pe : Int)), some (aI C), some (aI 0), some (aI (S6 : Int)), some (aI (I 88 e)), some (aI (b2 (decide (decide (K 14 e ≠ 0) = decide (K 4 p = 1))))), some (aI (-1)), some (aI (cbM K (I 89) pe e))], [], MM N I J)) (by decide +kernel) rfl (show (0 ≤ (e : Int) ∧ (e : Int) < 420) from (by omega)) ?_
            have hne : e ≠ q := by
              intro h
              subst h
              by_cases g : K 13 e = (pe : Int)
              · rw [if_pos g] at hbe hcbe
                omega
              · rw [if_neg g] at hbe hcbe
                omega
            rw [hnxe]
            exact ih (e + 1) _ _ _ (by omega) (by omega)
        · skip
          try simp only [b2_cast, b2_ncast, Classical.not_not, lcm_lt, lcm_ge, lcm_gt, lcm_le, lcm_eq, b2_0, b2_n0, b2_e1, b2_e0, Bool.not_eq_false, Bool.not_eq_true, decide_eq_true_eq, decide_eq_false_iff_not, Classical.not_not] at bh6
          refine V.blk [(157, .aload 0, 1), (158, .getfield 10009, 3), (161, .iload 7, 2), (163, .iaload, 1)] (ps := [0 ≤ (e : Int) ∧ (e : Int) < 420]) (z' := (164, [some (aR 52), some (aI (s : Int)), some (aI (p : Int)), some (aI (pe : Int)), some (aI C), some (aI 0), some (aI (S6 : Int)), some (aI (e : Int)), some (aI (b2 (decide (decide (K 14 e ≠ 0) = decide (K 4 p = 1))))), w9, w10], [aI (I 61 e)], MM N I J)) (by decide +kernel) rfl (show (0 ≤ (e : Int) ∧ (e : Int) < 420) from (by omega)) ?_
          refine V.cs (c := 123) (na := 1) [aI (I 61 e)] [] (by decide +kernel) rfl rfl (V.pr (m_X10_clubCell (by have := hclu (by omega); omega)) ?_)
          show V 185 (167, [some (aR 52), some (aI (s : Int)), some (aI (p : Int)), some (aI (pe : Int)), some (aI C), some (aI 0), some (aI (S6 : Int)), some (aI (e : Int)), some (aI (b2 (decide (decide (K 14 e ≠ 0) = decide (K 4 p = 1))))), w9, w10], [aI ((I 61 e - 1000) / 10 * 8 + (I 61 e - 1000) % 10)], MM N I J) _
          refine V.blk [(167, .goto 171, 3)] (ps := []) (z' := (171, [some (aR 52), some (aI (s : Int)), some (aI (p : Int)), some (aI (pe : Int)), some (aI C), some (aI 0), some (aI (S6 : Int)), some (aI (e : Int)), some (aI (b2 (decide (decide (K 14 e ≠ 0) = decide (K 4 p = 1))))), w9, w10], [aI ((I 61 e - 1000) / 10 * 8 + (I 61 e - 1000) % 10)], MM N I J)) (by decide +kernel) rfl trivial ?_
          obtain ⟨hcl1, hcl2, hcl3⟩ := hclu (by omega)
          have hSe : (K 18 e).toNat < 320 := by omega
          have h8e := h89 _ hSe
          have hce := hcp _ hSe
          have hbe : bhX K c pe e p = c (K 18 e).toNat := by
            rw [hbM]
            unfold bhM
            rw [if_pos hio, if_pos (by omega)]
          rw [show (I 61 e - 1000) / 10 * 8 + (I 61 e - 1000) % 10 = (((K 18 e).toNat : Nat) : Int) by omega]
          refine V.blk [(171, .istore 9, 2), (173, .iload 9, 2), (175, .ifCond .lt 190, 3)] (ps := []) (z' := (brc .lt (((K 18 e).toNat : Nat) : Int) 0 190 178, [some (aR 52), some (aI (s : Int)), some (aI (p : Int)), some (aI (pe : Int)), some (aI C), some (aI 0), some (aI (S6 : Int)), some (aI (e : Int)), some (aI (b2 (decide (decide (K 14 e ≠ 0) = decide (K 4 p = 1))))), some (aI (((K 18 e).toNat : Nat) : Int)), w10], [], MM N I J)) (by decide +kernel) rfl trivial ?_
          refine V.lt (fun bh10 => ?_) (fun bh11 => ?_)
          · skip
            exfalso
            omega
          · skip
            try simp only [b2_cast, b2_ncast, Classical.not_not, lcm_lt, lcm_ge, lcm_gt, lcm_le, lcm_eq, b2_0, b2_n0, b2_e1, b2_e0, Bool.not_eq_false, Bool.not_eq_true, decide_eq_true_eq, decide_eq_false_iff_not, Classical.not_not] at bh11
            refine V.blk [(178, .bipush 1, 1), (179, .aload 0, 1), (180, .getfield 10050, 3), (183, .iload 9, 2), (185, .iaload, 1), (186, .iadd, 1), (187, .goto 197, 3), (197, .istore 10, 2), (199, .iload 10, 2), (201, .iload 4, 2), (203, .if_icmp .eq 209, 3)] (ps := [0 ≤ (((K 18 e).toNat : Nat) : Int) ∧ (((K 18 e).toNat : Nat) : Int) < 320, inR (1 + (I 89 ((K 18 e).toNat)))]) (z' := (brc .eq (1 + (I 89 ((K 18 e).toNat))) C 209 206, [some (aR 52), some (aI (s : Int)), some (aI (p : Int)), some (aI (pe : Int)), some (aI C), some (aI 0), some (aI (S6 : Int)), some (aI (e : Int)), some (aI (b2 (decide (decide (K 14 e ≠ 0) = decide (K 4 p = 1))))), some (aI (((K 18 e).toNat : Nat) : Int)), some (aI (1 + (I 89 ((K 18 e).toNat))))], [], MM N I J)) (by decide +kernel) rfl (show (0 ≤ (((K 18 e).toNat : Nat) : Int) ∧ (((K 18 e).toNat : Nat) : Int) < 320) ∧ (inR (1 + (I 89 ((K 18 e).toNat)))) from ⟨(by omega), (by unfold inR; omega)⟩) ?_
            refine V.eq (fun bh12 => ?_) (fun bh13 => ?_)
            · skip
              try simp only [b2_cast, b2_ncast, Classical.not_not, lcm_lt, lcm_ge, lcm_gt, lcm_le, lcm_eq, b2_0, b2_n0, b2_e1, b2_e0, Bool.not_eq_false, Bool.not_eq_true, decide_eq_true_eq, decide_eq_false_iff_not, Classical.not_not] at bh12
              have hqe : e = q := by
                by_cases h : e < q
                · exfalso
                  have := hlowe h
                  omega
                · omega
              subst hqe
              obtain ⟨s2, r, hnx, er, hr64, hfi, hwm, hR⟩ : ∃ s2 r : Nat, K 18 e = (s2 : Int) ∧ K 7 (kS K s2) = (r : Int) ∧ r < 64 ∧ Fi K L cp v pe c s2 r ∧ w + mz K cp v pe c s2 r < 20545 ∧ RsP K L cp v pe c T0 I n w ((e : Int) :: tale K cp v pe c s2 r) := by
                rcases hend with ⟨h, -⟩ | h
                · exfalso; omega
                · exact h
              have hs2d := hfi.dom hRP hz0
              have hs2 := hfi.1
              rw [show (K 18 e).toNat = s2 by omega]
              refine V.blk [(209, .aload 0, 1), (210, .iload 7, 2)] (ps := []) (z' := (212, [some (aR 52), some (aI (s : Int)), some (aI (p : Int)), some (aI (pe : Int)), some (aI C), some (aI 0), some (aI (S6 : Int)), some (aI (e : Int)), some (aI (b2 (decide (decide (K 14 e ≠ 0) = decide (K 4 p = 1))))), some (aI (s2 : Int)), some (aI (1 + (I 89 (s2))))], [aI (e : Int), aR 52], MM N I J)) (by decide +kernel) rfl trivial ?_
              refine V.cv (c := 184) (na := 2) (o := 10) (a := 52) [aI (e : Int)] [] (by decide +kernel) rfl rfl rfl rfl rfl ((m_tell (by omega)).mono (fun rv M1 q => ?_))
              obtain ⟨rfl, rfl⟩ := q
              show V 185 (215, [some (aR 52), some (aI (s : Int)), some (aI (p : Int)), some (aI (pe : Int)), some (aI C), some (aI 0), some (aI (S6 : Int)), some (aI (e : Int)), some (aI (b2 (decide (decide (K 14 e ≠ 0) = decide (K 4 p = 1))))), some (aI (s2 : Int)), some (aI (1 + (I 89 (s2))))], [], MM N ((tlM I (e : Int))) J) _
              refine V.blk [(215, .iload 9, 2), (217, .ifCond .lt 237, 3)] (ps := []) (z' := (brc .lt (s2 : Int) 0 237 220, [some (aR 52), some (aI (s : Int)), some (aI (p : Int)), some (aI (pe : Int)), some (aI C), some (aI 0), some (aI (S6 : Int)), some (aI (e : Int)), some (aI (b2 (decide (decide (K 14 e ≠ 0) = decide (K 4 p = 1))))), some (aI (s2 : Int)), some (aI (1 + (I 89 (s2))))], [], MM N ((tlM I (e : Int))) J)) (by decide +kernel) rfl trivial ?_
              refine V.nI (fun I14 eI14 => ?_)
              refine V.lt (fun bh15 => ?_) (fun bh16 => ?_)
              · skip
                exfalso
                omega
              · skip
                try simp only [b2_cast, b2_ncast, Classical.not_not, lcm_lt, lcm_ge, lcm_gt, lcm_le, lcm_eq, b2_0, b2_n0, b2_e1, b2_e0, Bool.not_eq_false, Bool.not_eq_true, decide_eq_true_eq, decide_eq_false_iff_not, Classical.not_not] at bh16
                obtain ⟨t1, t2, t3, t4⟩ := tlM_f I (e : Int)
                rw [← eI14] at t1 t2 t3 t4
                have hT3 : RTh K I14 := by unfold RTh; rw [t2 1 (by decide), t1 53 (by decide) (by decide)]; exact hT0
                have hks3 := kS_lt hkd (s := s2) (by omega)
                have h583 : I14 58 (kS K s2) = (r : Int) := by rw [t1 58 (by decide) (by decide)]; exact (hH.1.2.2.2.2.2.2.2.1.2 _ hks3).trans er
                have h543 : I14 52 54 = (w : Int) := by rw [t2 54 (by decide)]; exact hI.2
                refine V.blk [(220, .aload 0, 1), (221, .iload 9, 2), (223, .aload 0, 1), (224, .getfield 10006, 3), (227, .aload 0, 1), (228, .iload 9, 2)] (ps := []) (z' := (230, [some (aR 52), some (aI (s : Int)), some (aI (p : Int)), some (aI (pe : Int)), some (aI C), some (aI 0), some (aI (S6 : Int)), some (aI (e : Int)), some (aI (b2 (decide (decide (K 14 e ≠ 0) = decide (K 4 p = 1))))), some (aI (s2 : Int)), some (aI (1 + (I 89 (s2))))], [aI (s2 : Int), aR 52, aR 58, aI (s2 : Int), aR 52], MM N I14 J)) (by decide +kernel) rfl trivial ?_
                refine V.cv (c := 168) (na := 2) (o := 10) (a := 52) [aI (s2 : Int)] [aR 58, aI (s2 : Int), aR 52] (by decide +kernel) rfl rfl rfl rfl rfl (V.pr (m_nodeOf (K := K) hT3 hkd (by omega) (by omega)) ?_)
                show V 185 (233, [some (aR 52), some (aI (s : Int)), some (aI (p : Int)), some (aI (pe : Int)), some (aI C), some (aI 0), some (aI (S6 : Int)), some (aI (e : Int)), some (aI (b2 (decide (decide (K 14 e ≠ 0) = decide (K 4 p = 1))))), some (aI (s2 : Int)), some (aI (1 + (I 89 (s2))))], [aI ((kS K s2 : Nat) : Int), aR 58, aI (s2 : Int), aR 52], MM N I14 J) _
                refine V.blk [(233, .iaload, 1)] (ps := [0 ≤ ((kS K s2 : Nat) : Int) ∧ ((kS K s2 : Nat) : Int) < 48]) (z' := (234, [some (aR 52), some (aI (s : Int)), some (aI (p : Int)), some (aI (pe : Int)), some (aI C), some (aI 0), some (aI (S6 : Int)), some (aI (e : Int)), some (aI (b2 (decide (decide (K 14 e ≠ 0) = decide (K 4 p = 1))))), some (aI (s2 : Int)), some (aI (1 + (I 89 (s2))))], [aI (I14 58 (kS K s2)), aI (s2 : Int), aR 52], MM N I14 J)) (by decide +kernel) rfl (show (0 ≤ ((kS K s2 : Nat) : Int) ∧ ((kS K s2 : Nat) : Int) < 48) from (by omega)) ?_
                rw [h583]
                refine V.cv (c := 183) (na := 3) (o := 10) (a := 52) [aI (r : Int), aI (s2 : Int)] [] (by decide +kernel) rfl rfl rfl rfl rfl ((m_opens (by omega)).mono (fun rv M1 q => ?_))
                obtain ⟨rfl, rfl⟩ := q
                show V 185 (237, [some (aR 52), some (aI (s : Int)), some (aI (p : Int)), some (aI (pe : Int)), some (aI C), some (aI 0), some (aI (S6 : Int)), some (aI (e : Int)), some (aI (b2 (decide (decide (K 14 e ≠ 0) = decide (K 4 p = 1))))), some (aI (s2 : Int)), some (aI (1 + (I 89 (s2))))], [], MM N ((opU I14 (s2 : Int) (r : Int))) J) _
                refine V.nI (fun I17 eI17 => ?_)
                refine V.rv (by decide +kernel) ?_
                obtain ⟨z1, z2, z3, z4, z5⟩ := opU_f (tlM I (e : Int)) (s2 : Int) (r : Int)
                obtain ⟨t1, t2, t3, t4⟩ := tlM_f I (e : Int)
                have hR2 := (hR.tell hn).opens (X := []) hfi (by omega)
                subst_vars
                refine ⟨rfl, _, w + 1, rfl, hR2, fun i a b c d => ?_, fun k a b => ?_⟩
                · rw [z1 i a b c, t1 i a d]
                · rw [z2 k a, t2 k b]
            · skip
              try simp only [b2_cast, b2_ncast, Classical.not_not, lcm_lt, lcm_ge, lcm_gt, lcm_le, lcm_eq, b2_0, b2_n0, b2_e1, b2_e0, Bool.not_eq_false, Bool.not_eq_true, decide_eq_true_eq, decide_eq_false_iff_not, Classical.not_not] at bh13
              refine V.blk [(206, .goto 238, 3), (238, .aload 0, 1), (239, .getfield 10049, 3), (242, .iload 7, 2), (244, .iaload, 1), (245, .istore 7, 2), (247, .goto 51, 3)] (ps := [0 ≤ (e : Int) ∧ (e : Int) < 420]) (z' := (51, [some (aR 52), some (aI (s : Int)), some (aI (p : Int)), some (aI (pe : Int)), some (aI C), some (aI 0), some (aI (S6 : Int)), some (aI (I 88 e)), some (aI (b2 (decide (decide (K 14 e ≠ 0) = decide (K 4 p = 1))))), some (aI (((K 18 e).toNat : Nat) : Int)), some (aI (1 + (I 89 ((K 18 e).toNat))))], [], MM N I J)) (by decide +kernel) rfl (show (0 ≤ (e : Int) ∧ (e : Int) < 420) from (by omega)) ?_
              have hne : e ≠ q := by
                intro h
                subst h
                omega
              rw [hnxe]
              exact ih (e + 1) _ _ _ (by omega) (by omega)
      · skip
        try simp only [b2_cast, b2_ncast, Classical.not_not, lcm_lt, lcm_ge, lcm_gt, lcm_le, lcm_eq, b2_0, b2_n0, b2_e1, b2_e0, Bool.not_eq_false, Bool.not_eq_true, decide_eq_true_eq, decide_eq_false_iff_not, Classical.not_not] at bh4
        refine V.blk [(113, .goto 238, 3), (238, .aload 0, 1), (239, .getfield 10049, 3), (242, .iload 7, 2), (244, .iaload, 1), (245, .istore 7, 2), (247, .goto 51, 3)] (ps := [0 ≤ (e : Int) ∧ (e : Int) < 420]) (z' := (51, [some (aR 52), some (aI (s : Int)), some (aI (p : Int)), some (aI (pe : Int)), some (aI C), some (aI 0), some (aI (S6 : Int)), some (aI (I 88 e)), some (aI (b2 (decide (decide (K 14 e ≠ 0) = decide (K 4 p = 1))))), w9, w10], [], MM N I J)) (by decide +kernel) rfl (show (0 ≤ (e : Int) ∧ (e : Int) < 420) from (by omega)) ?_
        have hio : ¬ decide (K 14 e ≠ 0) = decide (K 4 p = 1) := by first | assumption | simp_all
        have hbe : bhX K c pe e p = 1000000 := by
          rw [hbM]
          unfold bhM
          rw [if_neg hio]
        have hne : e ≠ q := by
          intro h
          subst h
          omega
        rw [hnxe]
        exact ih (e + 1) _ _ _ (by omega) (by omega)
theorem m_tellPair {N : Nat} {I : MI} {J : MJ} {K : MI} {L : MJ} {cp : Nat → Bool} {v : SV} {pe : Nat} {c : Nat → Int} {T0 : List Int} {n w s p : Nat} (hM : RMm K L cp v pe c I J) (hn : n < 60) (hf : Fi K L cp v pe c s p) (h2 : K 4 p ≠ 2) (h46 : ¬ (4 ≤ K 4 p ∧ K 4 p ≤ 6)) (hwm : w + mz K cp v pe c s p < 20545) (hR : RsP K L cp v pe c T0 I n w (tale K cp v pe c s p)) : CT 185 [aR 52, aI (s : Int), aI (p : Int), aI (pe : Int), aI (pr K cp v c pe s p)] (MM N I J) (fun rv M' => rv = none ∧ ∃ I' w', M' = MM N I' J ∧ RsP K L cp v pe c T0 I' (n + 1) w' [] ∧ (∀ i, i ≠ 52 → i ≠ 91 → i ≠ 92 → i ≠ 93 → I' i = I i) ∧ (∀ k, k ≠ 54 → k ≠ 56 → I' 52 k = I 52 k)) := by
  obtain ⟨hRP, hH, h89, h83, hz0⟩ := id hM
  obtain ⟨m, hm⟩ : ∃ m : Nat, K 10 9 = m := ⟨(K 10 9).toNat, by have := hH.1.2.2.2.2.1; omega⟩
  obtain ⟨r54, r55, r56, -⟩ := hH.1.2.2.2.2.2.2.2.1.1 p hf.2.1
  have rr := hH.1.2.1.rt.1 p hf.2.1
  obtain ⟨hk, q, q1, q2, q3, q4, q5, q6⟩ := hf.leaf hRP h2 h46
  replace q6 : LfE K L cp v pe c s p q := q6
  have hin := hf.in_ hRP
  have hs := hf.1
  have hp := hf.2.1
  have hm2 : (K 10 9).toNat = m := by omega
  have hwb : w < 20545 := by omega
  have hI : I 52 56 = (n : Int) ∧ I 52 54 = (w : Int) := ⟨hR.1, hR.2.2.1⟩
  refine CT.ofV (n := 11) (ls := [some (aR 52), some (aI (s : Int)), some (aI (p : Int)), some (aI (pe : Int)), some (aI (pr K cp v c pe s p)), none, none, none, none, none, none]) rfl rfl rfl ?_
  refine V.blk [(0, .aload 0, 1), (1, .getfield 10002, 3), (4, .iload 2, 1), (5, .iaload, 1), (6, .bipush 3, 1), (7, .if_icmp .ne 14, 3)] (ps := [0 ≤ (p : Int) ∧ (p : Int) < 64]) (z' := (brc .ne (I 54 p) 3 14 10, [some (aR 52), some (aI (s : Int)), some (aI (p : Int)), some (aI (pe : Int)), some (aI (pr K cp v c pe s p)), none, none, none, none, none, none], [], MM N I J)) (by decide +kernel) rfl (show (0 ≤ (p : Int) ∧ (p : Int) < 64) from (by omega)) ?_
  refine V.ne (fun bh1 => ?_) (fun bh2 => ?_)
  · skip
    try simp only [b2_cast, b2_ncast, Classical.not_not, lcm_lt, lcm_ge, lcm_gt, lcm_le, lcm_eq, b2_0, b2_n0, b2_e1, b2_e0, Bool.not_eq_false, Bool.not_eq_true, decide_eq_true_eq, decide_eq_false_iff_not, Classical.not_not] at bh1
    refine V.blk [(14, .bipush 0, 1), (15, .istore 5, 2), (17, .iload 5, 2), (19, .ifCond .eq 39, 3)] (ps := []) (z' := (brc .eq 0 0 39 22, [some (aR 52), some (aI (s : Int)), some (aI (p : Int)), some (aI (pe : Int)), some (aI (pr K cp v c pe s p)), some (aI 0), none, none, none, none, none], [], MM N I J)) (by decide +kernel) rfl trivial ?_
    refine V.eq (fun _ => ?_) (fun hz => absurd hz (by decide))
    refine V.blk [(39, .iload 1, 1)] (ps := []) (z' := (40, [some (aR 52), some (aI (s : Int)), some (aI (p : Int)), some (aI (pe : Int)), some (aI (pr K cp v c pe s p)), some (aI 0), none, none, none, none, none], [aI (s : Int)], MM N I J)) (by decide +kernel) rfl trivial ?_
    have e3 : K 4 p ≠ 3 := by omega
    have hfs : fsp K s p = s := by unfold fsp; rw [if_neg e3]
    rw [hfs] at q3 q5
    refine V.blk [(40, .istore 6, 2), (42, .aload 0, 1), (43, .getfield 10048, 3), (46, .iload 6, 2), (48, .iaload, 1), (49, .istore 7, 2)] (ps := [0 ≤ (s : Int) ∧ (s : Int) < 320]) (z' := (51, [some (aR 52), some (aI (s : Int)), some (aI (p : Int)), some (aI (pe : Int)), some (aI (pr K cp v c pe s p)), some (aI 0), some (aI (s : Int)), some (aI (I 87 s)), none, none, none], [], MM N I J)) (by decide +kernel) rfl (show (0 ≤ (s : Int) ∧ (s : Int) < 320) from (by omega)) ?_
    rw [hH.2.2.1 _ hs, hm2]
    refine l_tp0 (T0 := T0) (C := pr K cp v c pe s p) (n := n) (w := w) hM hm hp hs hs (by omega) q3 hin hn hI q4 q5 (by omega) hwb ?_ (m + 1) 0 _ _ _ (by omega) (by omega)
    have hn18 : nxC K q p = K 18 q := by unfold nxC; rw [if_neg e3]
    rcases q6 with ⟨a1, a2, a3, a4⟩ | ⟨s2, r, a1, a2, a3, a4, a5, a6, a7⟩
    · left
      refine ⟨by omega, ?_⟩
      rw [← tale_end (cp := cp) (v := v) (pe := pe) (c := c) h2 h46 q2 a1]
      exact hR
    · right
      refine ⟨s2, r, by omega, a4, a2, a5, ?_, ?_⟩
      · unfold mz at hwm ⊢
        omega
      · rw [← tale_next hRP h2 h46 q2 a3 a4 a5]
        exact hR
  · skip
    try simp only [b2_cast, b2_ncast, Classical.not_not, lcm_lt, lcm_ge, lcm_gt, lcm_le, lcm_eq, b2_0, b2_n0, b2_e1, b2_e0, Bool.not_eq_false, Bool.not_eq_true, decide_eq_true_eq, decide_eq_false_iff_not, Classical.not_not] at bh2
    refine V.blk [(10, .bipush 1, 1), (11, .goto 15, 3), (15, .istore 5, 2), (17, .iload 5, 2), (19, .ifCond .eq 39, 3)] (ps := []) (z' := (brc .eq 1 0 39 22, [some (aR 52), some (aI (s : Int)), some (aI (p : Int)), some (aI (pe : Int)), some (aI (pr K cp v c pe s p)), some (aI 1), none, none, none, none, none], [], MM N I J)) (by decide +kernel) rfl trivial ?_
    refine V.eq (fun hz => absurd hz (by decide)) (fun _ => ?_)
    refine V.blk [(22, .iload 1, 1), (23, .bipush 8, 2), (25, .idiv, 1), (26, .bipush 8, 2), (28, .imul, 1), (29, .aload 0, 1), (30, .getfield 10003, 3), (33, .iload 2, 1), (34, .iaload, 1), (35, .iadd, 1), (36, .goto 40, 3)] (ps := [0 ≤ (s : Int) ∧ 0 < 8, inR (((s / 8 : Nat) : Int) * 8), 0 ≤ (p : Int) ∧ (p : Int) < 64, inR ((((s / 8) * 8 : Nat) : Int) + (I 55 p))]) (z' := (40, [some (aR 52), some (aI (s : Int)), some (aI (p : Int)), some (aI (pe : Int)), some (aI (pr K cp v c pe s p)), some (aI 1), none, none, none, none, none], [aI ((((s / 8) * 8 : Nat) : Int) + (I 55 p))], MM N I J)) (by decide +kernel) rfl (show (0 ≤ (s : Int) ∧ 0 < 8) ∧ (inR (((s / 8 : Nat) : Int) * 8)) ∧ (0 ≤ (p : Int) ∧ (p : Int) < 64) ∧ (inR ((((s / 8) * 8 : Nat) : Int) + (I 55 p))) from ⟨(by omega), (by unfold inR; omega), (by omega), (by unfold inR; omega)⟩) ?_
    have e3 : K 4 p = 3 := by omega
    have x55 := r55 (by omega) (by omega)
    have hfs : fsp K s p = s / 8 * 8 + (K 5 p).toNat := by unfold fsp; rw [if_pos e3]
    have hS6 : s / 8 * 8 + (K 5 p).toNat < 320 := by omega
    rw [hfs] at q3 q5
    rw [show ((s / 8 * 8 : Nat) : Int) + I 55 p = ((s / 8 * 8 + (K 5 p).toNat : Nat) : Int) by omega]
    refine V.blk [(40, .istore 6, 2), (42, .aload 0, 1), (43, .getfield 10048, 3), (46, .iload 6, 2), (48, .iaload, 1), (49, .istore 7, 2)] (ps := [0 ≤ ((s / 8 * 8 + (K 5 p).toNat : Nat) : Int) ∧ ((s / 8 * 8 + (K 5 p).toNat : Nat) : Int) < 320]) (z' := (51, [some (aR 52), some (aI (s : Int)), some (aI (p : Int)), some (aI (pe : Int)), some (aI (pr K cp v c pe s p)), some (aI 1), some (aI ((s / 8 * 8 + (K 5 p).toNat : Nat) : Int)), some (aI (I 87 (s / 8 * 8 + (K 5 p).toNat))), none, none, none], [], MM N I J)) (by decide +kernel) rfl (show (0 ≤ ((s / 8 * 8 + (K 5 p).toNat : Nat) : Int) ∧ ((s / 8 * 8 + (K 5 p).toNat : Nat) : Int) < 320) from (by omega)) ?_
    obtain ⟨s2, r, a1, a2, a3, a4, a5, a6, a7⟩ : ∃ s' r : Nat, s' < 320 ∧ r < 64 ∧ nxC K q p = (s' : Int) ∧ K 7 (kS K s') = (r : Int) ∧ Fi K L cp v pe c s' r ∧ pr K cp v c pe s' r = pr K cp v c pe s p - 1 ∧ c s' = pr K cp v c pe s p - 1 := by
      rcases q6 with ⟨-, h, -⟩ | h
      · exact absurd e3 h
      · exact h
    have htl := tale_next hRP h2 h46 q2 a3 a4 a5
    have hnx : K 19 q * 8 + K 6 p = (s2 : Int) := by
      unfold nxC at a3
      rw [if_pos e3] at a3
      exact a3
    rw [hH.2.2.1 _ hS6, hm2]
    refine l_tp3 (T0 := T0) (C := pr K cp v c pe s p) (n := n) (w := w) hM hm hp hs hS6 (by omega) q3 hin hn hI q4 q5 e3 hnx a4 a5 ?_ ?_ (m + 1) 0 _ _ _ (by omega) (by omega)
    · unfold mz at hwm ⊢
      omega
    · rw [← htl]
      exact hR
