/-! ===== the reference: reasons, one place ===== -/
def opU (I : MI) (a b : Int) : MI := ma (ma (ma I 91 (ma (I 91) (I 52 54).toNat a)) 92 (ma (I 92) (I 52 54).toNat b)) 52 (ma (I 52) 54 (I 52 54 + 1))
def tlM (I : MI) (q : Int) : MI := ma (ma I 93 (ma (I 93) (I 52 56).toNat q)) 52 (ma (I 52) 56 (I 52 56 + 1))
theorem opU_f (I : MI) (a b : Int) : (∀ i, i ≠ 52 → i ≠ 91 → i ≠ 92 → opU I a b i = I i) ∧ (∀ k, k ≠ 54 → opU I a b 52 k = I 52 k) ∧ opU I a b 52 54 = I 52 54 + 1 ∧ opU I a b 91 = ma (I 91) (I 52 54).toNat a ∧ opU I a b 92 = ma (I 92) (I 52 54).toNat b := by
  unfold opU
  refine ⟨fun i x y z => ?_, fun k x => ?_, ?_, ?_, ?_⟩
  · rw [ma_ne _ _ x, ma_ne _ _ z, ma_ne _ _ y]
  · rw [ma_self, ma_ne _ _ x]
  · rw [ma_self, ma_self]
  · rw [ma_ne _ _ (by decide), ma_ne _ _ (by decide), ma_self]
  · rw [ma_ne _ _ (by decide), ma_self]
theorem tlM_f (I : MI) (q : Int) : (∀ i, i ≠ 52 → i ≠ 93 → tlM I q i = I i) ∧ (∀ k, k ≠ 56 → tlM I q 52 k = I 52 k) ∧ tlM I q 52 56 = I 52 56 + 1 ∧ tlM I q 93 = ma (I 93) (I 52 56).toNat q := by
  unfold tlM
  refine ⟨fun i x y => ?_, fun k x => ?_, ?_, ?_⟩
  · rw [ma_ne _ _ x, ma_ne _ _ y]
  · rw [ma_self, ma_ne _ _ x]
  · rw [ma_self, ma_self]
  · rw [ma_ne _ _ (by decide), ma_self]
/-- what is known where the reference tells a reason -/
def RMm (K : MI) (L : MJ) (cp : Nat → Bool) (v : SV) (pe : Nat) (c : Nat → Int) (I : MI) (J : MJ) : Prop := RP K L cp v pe c ∧ SH K L cp I ∧ (∀ s, s < 320 → I 89 s = c s) ∧ (∀ s, s < 320 → J 83 s = v s) ∧ ∀ s : Nat, s < 320 → K 1 1 * 8 ≤ (s : Int) → v s = Int64.ofInt 0
/-- told so far, X to come first, and what waits -/
def RsP (K : MI) (L : MJ) (cp : Nat → Bool) (v : SV) (pe : Nat) (c : Nat → Int) (T0 : List Int) (I : MI) (n w : Nat) (X : List Int) : Prop :=
  I 52 56 = (n : Int) ∧ n ≤ 60 ∧ I 52 54 = (w : Int) ∧ (∀ i, i < w → ∃ a b : Nat, I 91 i = (a : Int) ∧ I 92 i = (b : Int) ∧ Fi K L cp v pe c a b ∧ i + mz K cp v pe c a b < 20545) ∧ lsA (I 93) n ++ (X ++ flW (tale K cp v pe c) (I 91) (I 92) w) = T0
section RSP
variable {K : MI} {L : MJ} {cp : Nat → Bool} {v : SV} {pe : Nat} {c : Nat → Int} {T0 : List Int} {I I' : MI} {n w : Nat} {X : List Int}
theorem RMm.keep {J J' : MJ} (h : RMm K L cp v pe c I J) (e : ∀ i, (i ≤ 76 ∨ i = 87 ∨ i = 88 ∨ i = 89) → i ≠ 52 → I' i = I i) (f : ∀ k, k ≠ 54 → k ≠ 56 → I' 52 k = I 52 k) (ej : J' 83 = J 83) : RMm K L cp v pe c I' J' := by
  obtain ⟨h1, ⟨h2, h3, h4⟩, h5, h6, h7⟩ := h
  refine ⟨h1, ⟨?_, h3, ?_⟩, fun s hs => ?_, fun s hs => ?_, h7⟩
  · obtain ⟨a, b, d, dd, ff, g, k1, k2, k3, k4⟩ := h2
    refine ⟨a, b, d, dd, ff, g, ?_, ?_, ?_, ?_⟩
    · unfold RTh; rw [f 1 (by decide) (by decide), e 53 (by omega) (by decide)]; exact k1
    · unfold RRu; rw [e 54 (by omega) (by decide), e 55 (by omega) (by decide), e 56 (by omega) (by decide), e 57 (by omega) (by decide), e 58 (by omega) (by decide)]; exact k2
    · unfold RPr; rw [f 13 (by decide) (by decide), e 59 (by omega) (by decide), e 60 (by omega) (by decide), e 61 (by omega) (by decide), e 62 (by omega) (by decide), e 63 (by omega) (by decide), e 64 (by omega) (by decide)]; exact k3
    · unfold RDr; rw [f 29 (by decide) (by decide), f 30 (by decide) (by decide), e 68 (by omega) (by decide), e 69 (by omega) (by decide), e 70 (by omega) (by decide), e 71 (by omega) (by decide), e 72 (by omega) (by decide), e 73 (by omega) (by decide), e 74 (by omega) (by decide), e 75 (by omega) (by decide), e 76 (by omega) (by decide)]; exact k4
  · unfold ChR; rw [e 87 (by omega) (by decide), e 88 (by omega) (by decide)]; exact h4
  · rw [e 89 (by omega) (by decide)]; exact h5 s hs
  · rw [ej]; exact h6 s hs
theorem RsP.same (h : RsP K L cp v pe c T0 I n w X) (e56 : I' 52 56 = I 52 56) (e54 : I' 52 54 = I 52 54) (e91 : I' 91 = I 91) (e92 : I' 92 = I 92) (e93 : I' 93 = I 93) : RsP K L cp v pe c T0 I' n w X := by
  unfold RsP at h ⊢
  rw [e56, e54, e91, e92, e93]
  exact h
theorem RsP.tell {q : Int} (h : RsP K L cp v pe c T0 I n w (q :: X)) (hn : n < 60) : RsP K L cp v pe c T0 (tlM I q) (n + 1) w X := by
  obtain ⟨h1, h2, h3, h4, h5⟩ := h
  obtain ⟨t1, t2, t3, t4⟩ := tlM_f I q
  refine ⟨by rw [t3, h1]; omega, by omega, by rw [t2 54 (by decide)]; exact h3, ?_, ?_⟩
  · rw [t1 91 (by decide) (by decide), t1 92 (by decide) (by decide)]
    exact h4
  · rw [t1 91 (by decide) (by decide), t1 92 (by decide) (by decide), t4, h1, show (n : Int).toNat = n by omega, lsA_put, ← h5]
    simp
theorem RsP.opens {a b : Nat} (h : RsP K L cp v pe c T0 I n w (X ++ tale K cp v pe c a b)) (hf : Fi K L cp v pe c a b) (hm : w + mz K cp v pe c a b < 20545) : RsP K L cp v pe c T0 (opU I a b) n (w + 1) X := by
  obtain ⟨h1, h2, h3, h4, h5⟩ := h
  obtain ⟨t1, t2, t3, t4, t5⟩ := opU_f I a b
  refine ⟨by rw [t2 56 (by decide)]; exact h1, h2, by rw [t3, h3]; omega, fun i hi => ?_, ?_⟩
  · rw [t4, t5, h3, show (w : Int).toNat = w by omega]
    by_cases e : i = w
    · rw [e, ma_self, ma_self]
      exact ⟨a, b, rfl, rfl, hf, hm⟩
    · rw [ma_ne _ _ e, ma_ne _ _ e]
      exact h4 i (by omega)
  · rw [t4, t5, h3, show (w : Int).toNat = w by omega, t1 93 (by decide) (by decide) (by decide)]
    have e1 : flW (tale K cp v pe c) (ma (I 91) w a) (ma (I 92) w b) (w + 1) = tale K cp v pe c a b ++ flW (tale K cp v pe c) (I 91) (I 92) w := by
      show tale K cp v pe c (ma (I 91) w (a : Int) w).toNat (ma (I 92) w (b : Int) w).toNat ++ flW (tale K cp v pe c) (ma (I 91) w a) (ma (I 92) w b) w = _
      rw [ma_self, ma_self, flW_congr w (fun i hi => ⟨ma_ne _ _ (by omega), ma_ne _ _ (by omega)⟩)]
      rfl
    rw [e1, ← h5, List.append_assoc]
theorem Fi.dom {s p : Nat} (h : RP K L cp v pe c) (hf : Fi K L cp v pe c s p) (hz : ∀ s : Nat, s < 320 → K 1 1 * 8 ≤ (s : Int) → v s = Int64.ofInt 0) : (s : Int) < K 1 1 * 8 := by
  obtain ⟨hS, hpe, c1, c2, c3⟩ := h
  obtain ⟨f1, -, -, -, f7⟩ := hf
  by_cases e : (s : Int) < K 1 1 * 8
  · exact e
  · have e2 := c3 s f1
    rw [hz s f1 (by omega), if_neg (by rw [tb_0]; decide)] at e2
    omega
end RSP
theorem m_opens {N : Nat} {I : MI} {J : MJ} {a b : Int} (h : 0 ≤ I 52 54 ∧ I 52 54 < 20800) : CT 183 [aR 52, aI a, aI b] (MM N I J) (QV N J (opU I a b)) := by
  refine CT.ofV (n := 3) (ls := [some (aR 52), some (aI a), some (aI b)]) rfl rfl rfl ?_
  refine V.blk [(0, .aload 0, 1), (1, .getfield 10052, 3), (4, .aload 0, 1), (5, .getfield 10054, 3), (8, .iload 1, 1), (9, .iastore, 1), (10, .aload 0, 1), (11, .getfield 10053, 3), (14, .aload 0, 1), (15, .getfield 10054, 3), (18, .iload 2, 1), (19, .iastore, 1), (20, .aload 0, 1), (21, .dup, 1), (22, .getfield 10054, 3), (25, .bipush 1, 1), (26, .iadd, 1), (27, .putfield 10054, 3)] (ps := [0 ≤ (I 52 54) ∧ (I 52 54) < 20800, 0 ≤ ((ma I 91 (ma (I 91) ((I 52 54).toNat) a)) 52 54) ∧ ((ma I 91 (ma (I 91) ((I 52 54).toNat) a)) 52 54) < 20800, inR (((ma (ma I 91 (ma (I 91) ((I 52 54).toNat) a)) 92 (ma ((ma I 91 (ma (I 91) ((I 52 54).toNat) a)) 92) (((ma I 91 (ma (I 91) ((I 52 54).toNat) a)) 52 54).toNat) b)) 52 54) + 1)]) (z' := (30, [some (aR 52), some (aI a), some (aI b)], [], MM N (ma (ma (ma I 91 (ma (I 91) ((I 52 54).toNat) a)) 92 (ma ((ma I 91 (ma (I 91) ((I 52 54).toNat) a)) 92) (((ma I 91 (ma (I 91) ((I 52 54).toNat) a)) 52 54).toNat) b)) 52 (ma ((ma (ma I 91 (ma (I 91) ((I 52 54).toNat) a)) 92 (ma ((ma I 91 (ma (I 91) ((I 52 54).toNat) a)) 92) (((ma I 91 (ma (I 91) ((I 52 54).toNat) a)) 52 54).toNat) b)) 52) 54 (((ma (ma I 91 (ma (I 91) ((I 52 54).toNat) a)) 92 (ma ((ma I 91 (ma (I 91) ((I 52 54).toNat) a)) 92) (((ma I 91 (ma (I 91) ((I 52 54).toNat) a)) 52 54).toNat) b)) 52 54) + 1))) J)) (by decide +kernel) rfl (show (0 ≤ (I 52 54) ∧ (I 52 54) < 20800) ∧ (0 ≤ ((ma I 91 (ma (I 91) ((I 52 54).toNat) a)) 52 54) ∧ ((ma I 91 (ma (I 91) ((I 52 54).toNat) a)) 52 54) < 20800) ∧ (inR (((ma (ma I 91 (ma (I 91) ((I 52 54).toNat) a)) 92 (ma ((ma I 91 (ma (I 91) ((I 52 54).toNat) a)) 92) (((ma I 91 (ma (I 91) ((I 52 54).toNat) a)) 52 54).toNat) b)) 52 54) + 1)) from ⟨(by first | omega | (simp only [ma_ne _ _ (show (52 : Nat) ≠ 91 by decide), ma_ne _ _ (show (52 : Nat) ≠ 92 by decide), ma_ne _ _ (show (52 : Nat) ≠ 93 by decide)]; omega)), (by first | omega | (simp only [ma_ne _ _ (show (52 : Nat) ≠ 91 by decide), ma_ne _ _ (show (52 : Nat) ≠ 92 by decide), ma_ne _ _ (show (52 : Nat) ≠ 93 by decide)]; omega)), (by unfold inR; first | omega | (simp only [ma_ne _ _ (show (52 : Nat) ≠ 91 by decide), ma_ne _ _ (show (52 : Nat) ≠ 92 by decide), ma_ne _ _ (show (52 : Nat) ≠ 93 by decide)]; omega))⟩) ?_
  refine V.nI (fun I1 eI1 => ?_)
  refine V.rv (by decide +kernel) ?_
  refine ⟨rfl, congrArg (fun w => MM N w J) ?_⟩
  subst eI1
  unfold opU
  simp only [ma_ne _ _ (show (52 : Nat) ≠ 91 by decide), ma_ne _ _ (show (52 : Nat) ≠ 92 by decide), ma_ne _ _ (show (92 : Nat) ≠ 91 by decide)]
theorem m_tell {N : Nat} {I : MI} {J : MJ} {q : Int} (h : 0 ≤ I 52 56 ∧ I 52 56 < 60) : CT 184 [aR 52, aI q] (MM N I J) (QV N J (tlM I q)) := by
  refine CT.ofV (n := 2) (ls := [some (aR 52), some (aI q)]) rfl rfl rfl ?_
  refine V.blk [(0, .aload 0, 1), (1, .getfield 10056, 3), (4, .bipush 60, 2), (6, .if_icmp .ne 10, 3)] (ps := []) (z' := (brc .ne (I 52 56) 60 10 9, [some (aR 52), some (aI q)], [], MM N I J)) (by decide +kernel) rfl trivial ?_
  refine V.ne (fun bh1 => ?_) (fun bh2 => ?_)
  · skip
    refine V.blk [(10, .aload 0, 1), (11, .getfield 10055, 3), (14, .aload 0, 1), (15, .getfield 10056, 3), (18, .iload 1, 1), (19, .iastore, 1), (20, .aload 0, 1), (21, .dup, 1), (22, .getfield 10056, 3), (25, .bipush 1, 1), (26, .iadd, 1), (27, .putfield 10056, 3)] (ps := [0 ≤ (I 52 56) ∧ (I 52 56) < 60, inR (((ma I 93 (ma (I 93) ((I 52 56).toNat) q)) 52 56) + 1)]) (z' := (30, [some (aR 52), some (aI q)], [], MM N (ma (ma I 93 (ma (I 93) ((I 52 56).toNat) q)) 52 (ma ((ma I 93 (ma (I 93) ((I 52 56).toNat) q)) 52) 56 (((ma I 93 (ma (I 93) ((I 52 56).toNat) q)) 52 56) + 1))) J)) (by decide +kernel) rfl (show (0 ≤ (I 52 56) ∧ (I 52 56) < 60) ∧ (inR (((ma I 93 (ma (I 93) ((I 52 56).toNat) q)) 52 56) + 1)) from ⟨(by first | omega | (simp only [ma_ne _ _ (show (52 : Nat) ≠ 91 by decide), ma_ne _ _ (show (52 : Nat) ≠ 92 by decide), ma_ne _ _ (show (52 : Nat) ≠ 93 by decide)]; omega)), (by unfold inR; first | omega | (simp only [ma_ne _ _ (show (52 : Nat) ≠ 91 by decide), ma_ne _ _ (show (52 : Nat) ≠ 92 by decide), ma_ne _ _ (show (52 : Nat) ≠ 93 by decide)]; omega))⟩) ?_
    refine V.nI (fun I3 eI3 => ?_)
    refine V.rv (by decide +kernel) ?_
    refine ⟨rfl, congrArg (fun w => MM N w J) ?_⟩
    subst eI3
    unfold tlM
    simp only [ma_ne _ _ (show (52 : Nat) ≠ 93 by decide)]
  · skip
    exfalso
    omega
theorem l_tp3 {N : Nat} {I : MI} {J : MJ} {K : MI} {L : MJ} {cp : Nat → Bool} {v : SV} {pe : Nat} {c : Nat → Int} {T0 : List Int} {n w s p m q S6 s2 r : Nat} {C : Int} (hM : RMm K L cp v pe c I J) (hm : K 10 9 = m) (hp : p < 64) (hs : s < 320) (hS6 : S6 < 320) (hq : q < m) (hb : spB K cp S6 q = true) (hC : 1 ≤ C ∧ C ≤ 320) (hn : n < 60) (hI : I 52 56 = (n : Int) ∧ I 52 54 = (w : Int)) (hval : bhX K c pe q p = C - 1) (hlow : ∀ e : Nat, e < q → spB K cp S6 e = true → C - 1 < bhX K c pe e p) (e4 : K 4 p = 3) (hnx : K 19 q * 8 + K 6 p = (s2 : Int)) (er : K 7 (kS K s2) = (r : Int)) (hfi : Fi K L cp v pe c s2 r) (hwm : w + mz K cp v pe c s2 r < 20545) (hR : RsP K L cp v pe c T0 I n w ((q : Int) :: tale K cp v pe c s2 r)) : ∀ (k x : Nat) (w8 w9 w10 : Option AV), m + 1 ≤ k + x → x ≤ q → V 185 (51, [some (aR 52), some (aI (s : Int)), some (aI (p : Int)), some (aI (pe : Int)), some (aI C), some (aI 1), some (aI (S6 : Int)), some (aI (sr (spB K cp S6) x m)), w8, w9, w10], [], MM N I J) (fun rv M' => rv = none ∧ ∃ I' w', M' = MM N I' J ∧ RsP K L cp v pe c T0 I' (n + 1) w' [] ∧ (∀ i, i ≠ 52 → i ≠ 91 → i ≠ 92 → i ≠ 93 → I' i = I i) ∧ (∀ k, k ≠ 54 → k ≠ 56 → I' 52 k = I 52 k)) := by
  intro k
  induction k with
  | zero => intro x w8 w9 w10 h1 h2; exfalso; omega
  | succ k ih =>
    intro x w8 w9 w10 h1 h2
    obtain ⟨hRP, hH, h89, h83, hz0⟩ := id hM
    have hP := hH.1.2.2.2.2.2.2.2.2.1
    have hT0 := hH.1.2.2.2.2.2.2.1
    have hkd := hH.1.1.2.2
    have hm4 := hH.1.2.2.2.2.1
    have h40 := hH.1.1.2.1
    have hsc := sr_c (spB K cp S6) (show x ≤ m by omega)
    have hcp := hRP.2.2.1
    have hw20 : w < 20545 := by omega
    obtain ⟨r54, r55, r56, -⟩ := hH.1.2.2.2.2.2.2.2.1.1 p hp
    have rr := hH.1.2.1.rt.1 p hp
    have x56 := r56 (by omega) (by omega)
    have hs2d := hfi.dom hRP hz0
    have hs2 := hfi.1
    refine V.blk [(51, .iload 7, 2), (53, .ifCond .lt 250, 3)] (ps := []) (z' := (brc .lt (sr (spB K cp S6) x m) 0 250 56, [some (aR 52), some (aI (s : Int)), some (aI (p : Int)), some (aI (pe : Int)), some (aI C), some (aI 1), some (aI (S6 : Int)), some (aI (sr (spB K cp S6) x m)), w8, w9, w10], [], MM N I J)) (by decide +kernel) rfl trivial ?_
    refine V.lt (fun bh1 => ?_) (fun bh2 => ?_)
    · skip
      exfalso
      rcases hsc with ⟨-, w⟩ | ⟨e, -, -, w, -⟩
      · have := w q h2 hq
        rw [hb] at this
        cases this
      · omega
    · skip
      try simp only [b2_cast, b2_ncast, Classical.not_not, lcm_lt, lcm_ge, lcm_gt, lcm_le, lcm_eq, b2_0, b2_n0, b2_e1, b2_e0, Bool.not_eq_false, Bool.not_eq_true, decide_eq_true_eq, decide_eq_false_iff_not, Classical.not_not] at bh2
      obtain ⟨e, y1, y2, y3, y4, y5⟩ : ∃ e, x ≤ e ∧ e < m ∧ sr (spB K cp S6) x m = (e : Int) ∧ spB K cp S6 e = true ∧ ∀ r, x ≤ r → r < e → spB K cp S6 r = false := by
        rcases hsc with ⟨w, -⟩ | w
        · exfalso; omega
        · exact w
      rw [y3]
      have heq : e ≤ q := by
        by_cases h : e ≤ q
        · exact h
        · have := y5 q h2 (by omega)
          rw [hb] at this
          cases this
      clear hsc
      obtain ⟨g1, g2, g3, g4, g5, g6⟩ := hP.2 e (by omega)
      have hWe := hH.1.2.2.2.1 e (by omega)
      obtain ⟨w1, w2, w3, w4, w5, w6, w7, w8', w9', w10'⟩ := hWe
      have hqs := spB_t.mp y4
      have hnxe : I 88 e = sr (spB K cp S6) (e + 1) m := by
        have := hH.2.2.2 e (Nat.zero_le _) (by omega) hqs.1
        rw [this, show (K 17 e).toNat = S6 by omega, show (K 10 9).toNat = m by omega]
      have htl : toldOf (K 13 e) = -1 ↔ ¬ (100 ≤ K 13 e ∧ K 13 e < 1000) := by
        unfold toldOf
        split <;> omega
      have hlowe := fun h => hlow e h y4
      refine V.blk [(56, .iload 5, 2), (58, .ifCond .eq 94, 3)] (ps := []) (z' := (brc .eq 1 0 94 61, [some (aR 52), some (aI (s : Int)), some (aI (p : Int)), some (aI (pe : Int)), some (aI C), some (aI 1), some (aI (S6 : Int)), some (aI (e : Int)), w8, w9, w10], [], MM N I J)) (by decide +kernel) rfl trivial ?_
      refine V.eq (fun hz => absurd hz (by decide)) (fun _ => ?_)
      refine V.blk [(61, .aload 0, 1), (62, .getfield 10009, 3), (65, .iload 7, 2), (67, .iaload, 1), (68, .bipush 100, 2), (70, .if_icmp .lt 90, 3)] (ps := [0 ≤ (e : Int) ∧ (e : Int) < 420]) (z' := (brc .lt (I 61 e) 100 90 73, [some (aR 52), some (aI (s : Int)), some (aI (p : Int)), some (aI (pe : Int)), some (aI C), some (aI 1), some (aI (S6 : Int)), some (aI (e : Int)), w8, w9, w10], [], MM N I J)) (by decide +kernel) rfl (show (0 ≤ (e : Int) ∧ (e : Int) < 420) from (by omega)) ?_
      refine V.lt (fun bh3 => ?_) (fun bh4 => ?_)
      · skip
        try simp only [b2_cast, b2_ncast, Classical.not_not, lcm_lt, lcm_ge, lcm_gt, lcm_le, lcm_eq, b2_0, b2_n0, b2_e1, b2_e0, Bool.not_eq_false, Bool.not_eq_true, decide_eq_true_eq, decide_eq_false_iff_not, Classical.not_not] at bh3
        refine V.blk [(90, .bipush 0, 1), (91, .goto 106, 3), (106, .istore 8, 2), (108, .iload 8, 2), (110, .ifCond .ne 116, 3)] (ps := []) (z' := (brc .ne 0 0 116 113, [some (aR 52), some (aI (s : Int)), some (aI (p : Int)), some (aI (pe : Int)), some (aI C), some (aI 1), some (aI (S6 : Int)), some (aI (e : Int)), some (aI 0), w9, w10], [], MM N I J)) (by decide +kernel) rfl trivial ?_
        refine V.ne (fun hz => absurd hz (by decide)) (fun _ => ?_)
        refine V.blk [(113, .goto 238, 3), (238, .aload 0, 1), (239, .getfield 10049, 3), (242, .iload 7, 2), (244, .iaload, 1), (245, .istore 7, 2), (247, .goto 51, 3)] (ps := [0 ≤ (e : Int) ∧ (e : Int) < 420]) (z' := (51, [some (aR 52), some (aI (s : Int)), some (aI (p : Int)), some (aI (pe : Int)), some (aI C), some (aI 1), some (aI (S6 : Int)), some (aI (I 88 e)), some (aI 0), w9, w10], [], MM N I J)) (by decide +kernel) rfl (show (0 ≤ (e : Int) ∧ (e : Int) < 420) from (by omega)) ?_
        have hne : e ≠ q := by
          intro h
          subst h
          first
            | omega
            | (rw [htl.mpr (by omega)] at w10'
               omega)
        rw [hnxe]
        exact ih (e + 1) _ _ _ (by omega) (by omega)
      · skip
        try simp only [b2_cast, b2_ncast, Classical.not_not, lcm_lt, lcm_ge, lcm_gt, lcm_le, lcm_eq, b2_0, b2_n0, b2_e1, b2_e0, Bool.not_eq_false, Bool.not_eq_true, decide_eq_true_eq, decide_eq_false_iff_not, Classical.not_not] at bh4
        refine V.blk [(73, .aload 0, 1), (74, .getfield 10009, 3), (77, .iload 7, 2), (79, .iaload, 1), (80, .bipush 1000, 3), (83, .if_icmp .ge 90, 3)] (ps := [0 ≤ (e : Int) ∧ (e : Int) < 420]) (z' := (brc .ge (I 61 e) 1000 90 86, [some (aR 52), some (aI (s : Int)), some (aI (p : Int)), some (aI (pe : Int)), some (aI C), some (aI 1), some (aI (S6 : Int)), some (aI (e : Int)), w8, w9, w10], [], MM N I J)) (by decide +kernel) rfl (show (0 ≤ (e : Int) ∧ (e : Int) < 420) from (by omega)) ?_
        refine V.ge (fun bh5 => ?_) (fun bh6 => ?_)
        · skip
          try simp only [b2_cast, b2_ncast, Classical.not_not, lcm_lt, lcm_ge, lcm_gt, lcm_le, lcm_eq, b2_0, b2_n0, b2_e1, b2_e0, Bool.not_eq_false, Bool.not_eq_true, decide_eq_true_eq, decide_eq_false_iff_not, Classical.not_not] at bh5
          refine V.blk [(90, .bipush 0, 1), (91, .goto 106, 3), (106, .istore 8, 2), (108, .iload 8, 2), (110, .ifCond .ne 116, 3)] (ps := []) (z' := (brc .ne 0 0 116 113, [some (aR 52), some (aI (s : Int)), some (aI (p : Int)), some (aI (pe : Int)), some (aI C), some (aI 1), some (aI (S6 : Int)), some (aI (e : Int)), some (aI 0), w9, w10], [], MM N I J)) (by decide +kernel) rfl trivial ?_
          refine V.ne (fun hz => absurd hz (by decide)) (fun _ => ?_)
          refine V.blk [(113, .goto 238, 3), (238, .aload 0, 1), (239, .getfield 10049, 3), (242, .iload 7, 2), (244, .iaload, 1), (245, .istore 7, 2), (247, .goto 51, 3)] (ps := [0 ≤ (e : Int) ∧ (e : Int) < 420]) (z' := (51, [some (aR 52), some (aI (s : Int)), some (aI (p : Int)), some (aI (pe : Int)), some (aI C), some (aI 1), some (aI (S6 : Int)), some (aI (I 88 e)), some (aI 0), w9, w10], [], MM N I J)) (by decide +kernel) rfl (show (0 ≤ (e : Int) ∧ (e : Int) < 420) from (by omega)) ?_
          have hne : e ≠ q := by
            intro h
            subst h
            first
              | omega
              | (rw [htl.mpr (by omega)] at w10'
                 omega)
          rw [hnxe]
          exact ih (e + 1) _ _ _ (by omega) (by omega)
        · skip
          try simp only [b2_cast, b2_ncast, Classical.not_not, lcm_lt, lcm_ge, lcm_gt, lcm_le, lcm_eq, b2_0, b2_n0, b2_e1, b2_e0, Bool.not_eq_false, Bool.not_eq_true, decide_eq_true_eq, decide_eq_false_iff_not, Classical.not_not] at bh6
          refine V.blk [(86, .bipush 1, 1), (87, .goto 106, 3), (106, .istore 8, 2), (108, .iload 8, 2), (110, .ifCond .ne 116, 3)] (ps := []) (z' := (brc .ne 1 0 116 113, [some (aR 52), some (aI (s : Int)), some (aI (p : Int)), some (aI (pe : Int)), some (aI C), some (aI 1), some (aI (S6 : Int)), some (aI (e : Int)), some (aI 1), w9, w10], [], MM N I J)) (by decide +kernel) rfl trivial ?_
          refine V.ne (fun _ => ?_) (fun hz => absurd hz (by decide))
          refine V.blk [(116, .iload 5, 2), (118, .ifCond .eq 144, 3)] (ps := []) (z' := (brc .eq 1 0 144 121, [some (aR 52), some (aI (s : Int)), some (aI (p : Int)), some (aI (pe : Int)), some (aI C), some (aI 1), some (aI (S6 : Int)), some (aI (e : Int)), some (aI 1), w9, w10], [], MM N I J)) (by decide +kernel) rfl trivial ?_
          refine V.eq (fun hz => absurd hz (by decide)) (fun _ => ?_)
          refine V.blk [(121, .bipush 8, 2), (123, .aload 0, 1), (124, .getfield 10009, 3), (127, .iload 7, 2), (129, .iaload, 1), (130, .bipush 100, 2), (132, .isub, 1), (133, .imul, 1), (134, .aload 0, 1), (135, .getfield 10004, 3), (138, .iload 2, 1), (139, .iaload, 1), (140, .iadd, 1), (141, .goto 171, 3)] (ps := [0 ≤ (e : Int) ∧ (e : Int) < 420, inR ((I 61 e) - 100), inR (8 * ((I 61 e) - 100)), 0 ≤ (p : Int) ∧ (p : Int) < 64, inR ((8 * ((I 61 e) - 100)) + (I 56 p))]) (z' := (171, [some (aR 52), some (aI (s : Int)), some (aI (p : Int)), some (aI (pe : Int)), some (aI C), some (aI 1), some (aI (S6 : Int)), some (aI (e : Int)), some (aI 1), w9, w10], [aI ((8 * ((I 61 e) - 100)) + (I 56 p))], MM N I J)) (by decide +kernel) rfl (show (0 ≤ (e : Int) ∧ (e : Int) < 420) ∧ (inR ((I 61 e) - 100)) ∧ (inR (8 * ((I 61 e) - 100))) ∧ (0 ≤ (p : Int) ∧ (p : Int) < 64) ∧ (inR ((8 * ((I 61 e) - 100)) + (I 56 p))) from ⟨(by omega), (by unfold inR; omega), (by unfold inR; omega), (by omega), (by unfold inR; omega)⟩) ?_
          have hu19 : K 19 e = K 13 e - 100 := by
            rw [w10']
            unfold toldOf
            rw [if_pos (by omega)]
          have hu5 : K 13 e - 100 < K 1 1 := by rcases w5 with w | w | w <;> omega
          have hSe : (K 19 e).toNat * 8 + (K 6 p).toNat < 320 := by omega
          have h8e := h89 _ hSe
          have hce := hcp _ hSe
          have hbe : bhX K c pe e p = c ((K 19 e).toNat * 8 + (K 6 p).toNat) := by
            unfold bhX bhT
            rw [if_pos e4, if_neg (by omega)]
          rw [show 8 * (I 61 e - 100) + I 56 p = (((K 19 e).toNat * 8 + (K 6 p).toNat : Nat) : Int) by omega]
          refine V.blk [(171, .istore 9, 2), (173, .iload 9, 2), (175, .ifCond .lt 190, 3)] (ps := []) (z' := (brc .lt (((K 19 e).toNat * 8 + (K 6 p).toNat : Nat) : Int) 0 190 178, [some (aR 52), some (aI (s : Int)), some (aI (p : Int)), some (aI (pe : Int)), some (aI C), some (aI 1), some (aI (S6 : Int)), some (aI (e : Int)), some (aI 1), some (aI (((K 19 e).toNat * 8 + (K 6 p).toNat : Nat) : Int)), w10], [], MM N I J)) (by decide +kernel) rfl trivial ?_
          refine V.lt (fun bh7 => ?_) (fun bh8 => ?_)
          · skip
            exfalso
            omega
          · skip
            try simp only [b2_cast, b2_ncast, Classical.not_not, lcm_lt, lcm_ge, lcm_gt, lcm_le, lcm_eq, b2_0, b2_n0, b2_e1, b2_e0, Bool.not_eq_false, Bool.not_eq_true, decide_eq_true_eq, decide_eq_false_iff_not, Classical.not_not] at bh8
            refine V.blk [(178, .bipush 1, 1), (179, .aload 0, 1), (180, .getfield 10050, 3), (183, .iload 9, 2), (185, .iaload, 1), (186, .iadd, 1), (187, .goto 197, 3), (197, .istore 10, 2), (199, .iload 10, 2), (201, .iload 4, 2), (203, .if_icmp .eq 209, 3)] (ps := [0 ≤ (((K 19 e).toNat * 8 + (K 6 p).toNat : Nat) : Int) ∧ (((K 19 e).toNat * 8 + (K 6 p).toNat : Nat) : Int) < 320, inR (1 + (I 89 ((K 19 e).toNat * 8 + (K 6 p).toNat)))]) (z' := (brc .eq (1 + (I 89 ((K 19 e).toNat * 8 + (K 6 p).toNat))) C 209 206, [some (aR 52), some (aI (s : Int)), some (aI (p : Int)), some (aI (pe : Int)), some (aI C), some (aI 1), some (aI (S6 : Int)), some (aI (e : Int)), some (aI 1), some (aI (((K 19 e).toNat * 8 + (K 6 p).toNat : Nat) : Int)), some (aI (1 + (I 89 ((K 19 e).toNat * 8 + (K 6 p).toNat))))], [], MM N I J)) (by decide +kernel) rfl (show (0 ≤ (((K 19 e).toNat * 8 + (K 6 p).toNat : Nat) : Int) ∧ (((K 19 e).toNat * 8 + (K 6 p).toNat : Nat) : Int) < 320) ∧ (inR (1 + (I 89 ((K 19 e).toNat * 8 + (K 6 p).toNat)))) from ⟨(by omega), (by unfold inR; omega)⟩) ?_
            refine V.eq (fun bh9 => ?_) (fun bh10 => ?_)
            · skip
              try simp only [b2_cast, b2_ncast, Classical.not_not, lcm_lt, lcm_ge, lcm_gt, lcm_le, lcm_eq, b2_0, b2_n0, b2_e1, b2_e0, Bool.not_eq_false, Bool.not_eq_true, decide_eq_true_eq, decide_eq_false_iff_not, Classical.not_not] at bh9
              have hqe : e = q := by
                by_cases h : e < q
                · exfalso
                  have := hlowe h
                  omega
                · omega
              subst hqe
              rw [show (K 19 e).toNat * 8 + (K 6 p).toNat = s2 by omega]
              refine V.blk [(209, .aload 0, 1), (210, .iload 7, 2)] (ps := []) (z' := (212, [some (aR 52), some (aI (s : Int)), some (aI (p : Int)), some (aI (pe : Int)), some (aI C), some (aI 1), some (aI (S6 : Int)), some (aI (e : Int)), some (aI 1), some (aI (s2 : Int)), some (aI (1 + (I 89 (s2))))], [aI (e : Int), aR 52], MM N I J)) (by decide +kernel) rfl trivial ?_
              refine V.cv (c := 184) (na := 2) (o := 10) (a := 52) [aI (e : Int)] [] (by decide +kernel) rfl rfl rfl rfl rfl ((m_tell (by omega)).mono (fun rv M1 q => ?_))
              obtain ⟨rfl, rfl⟩ := q
              show V 185 (215, [some (aR 52), some (aI (s : Int)), some (aI (p : Int)), some (aI (pe : Int)), some (aI C), some (aI 1), some (aI (S6 : Int)), some (aI (e : Int)), some (aI 1), some (aI (s2 : Int)), some (aI (1 + (I 89 (s2))))], [], MM N ((tlM I (e : Int))) J) _
              refine V.blk [(215, .iload 9, 2), (217, .ifCond .lt 237, 3)] (ps := []) (z' := (brc .lt (s2 : Int) 0 237 220, [some (aR 52), some (aI (s : Int)), some (aI (p : Int)), some (aI (pe : Int)), some (aI C), some (aI 1), some (aI (S6 : Int)), some (aI (e : Int)), some (aI 1), some (aI (s2 : Int)), some (aI (1 + (I 89 (s2))))], [], MM N ((tlM I (e : Int))) J)) (by decide +kernel) rfl trivial ?_
              refine V.nI (fun I11 eI11 => ?_)
              refine V.lt (fun bh12 => ?_) (fun bh13 => ?_)
              · skip
                exfalso
                omega
              · skip
                try simp only [b2_cast, b2_ncast, Classical.not_not, lcm_lt, lcm_ge, lcm_gt, lcm_le, lcm_eq, b2_0, b2_n0, b2_e1, b2_e0, Bool.not_eq_false, Bool.not_eq_true, decide_eq_true_eq, decide_eq_false_iff_not, Classical.not_not] at bh13
                obtain ⟨t1, t2, t3, t4⟩ := tlM_f I (e : Int)
                rw [← eI11] at t1 t2 t3 t4
                have hT3 : RTh K I11 := by unfold RTh; rw [t2 1 (by decide), t1 53 (by decide) (by decide)]; exact hT0
                have hks3 := kS_lt hkd (s := s2) (by omega)
                have h583 : I11 58 (kS K s2) = (r : Int) := by rw [t1 58 (by decide) (by decide)]; exact (hH.1.2.2.2.2.2.2.2.1.2 _ hks3).trans er
                have h543 : I11 52 54 = (w : Int) := by rw [t2 54 (by decide)]; exact hI.2
                refine V.blk [(220, .aload 0, 1), (221, .iload 9, 2), (223, .aload 0, 1), (224, .getfield 10006, 3), (227, .aload 0, 1), (228, .iload 9, 2)] (ps := []) (z' := (230, [some (aR 52), some (aI (s : Int)), some (aI (p : Int)), some (aI (pe : Int)), some (aI C), some (aI 1), some (aI (S6 : Int)), some (aI (e : Int)), some (aI 1), some (aI (s2 : Int)), some (aI (1 + (I 89 (s2))))], [aI (s2 : Int), aR 52, aR 58, aI (s2 : Int), aR 52], MM N I11 J)) (by decide +kernel) rfl trivial ?_
                refine V.cv (c := 168) (na := 2) (o := 10) (a := 52) [aI (s2 : Int)] [aR 58, aI (s2 : Int), aR 52] (by decide +kernel) rfl rfl rfl rfl rfl (V.pr (m_nodeOf (K := K) hT3 hkd (by omega) (by omega)) ?_)
                show V 185 (233, [some (aR 52), some (aI (s : Int)), some (aI (p : Int)), some (aI (pe : Int)), some (aI C), some (aI 1), some (aI (S6 : Int)), some (aI (e : Int)), some (aI 1), some (aI (s2 : Int)), some (aI (1 + (I 89 (s2))))], [aI ((kS K s2 : Nat) : Int), aR 58, aI (s2 : Int), aR 52], MM N I11 J) _
                refine V.blk [(233, .iaload, 1)] (ps := [0 ≤ ((kS K s2 : Nat) : Int) ∧ ((kS K s2 : Nat) : Int) < 48]) (z' := (234, [some (aR 52), some (aI (s : Int)), some (aI (p : Int)), some (aI (pe : Int)), some (aI C), some (aI 1), some (aI (S6 : Int)), some (aI (e : Int)), some (aI 1), some (aI (s2 : Int)), some (aI (1 + (I 89 (s2))))], [aI (I11 58 (kS K s2)), aI (s2 : Int), aR 52], MM N I11 J)) (by decide +kernel) rfl (show (0 ≤ ((kS K s2 : Nat) : Int) ∧ ((kS K s2 : Nat) : Int) < 48) from (by omega)) ?_
                rw [h583]
                refine V.cv (c := 183) (na := 3) (o := 10) (a := 52) [aI (r : Int), aI (s2 : Int)] [] (by decide +kernel) rfl rfl rfl rfl rfl ((m_opens (by omega)).mono (fun rv M1 q => ?_))
                obtain ⟨rfl, rfl⟩ := q
                show V 185 (237, [some (aR 52), some (aI (s : Int)), some (aI (p : Int)), some (aI (pe : Int)), some (aI C), some (aI 1), some (aI (S6 : Int)), some (aI (e : Int)), some (aI 1), some (aI (s2 : Int)), some (aI (1 + (I 89 (s2))))], [], MM N ((opU I11 (s2 : Int) (r : Int))) J) _
                refine V.nI (fun I14 eI14 => ?_)
                refine V.rv (by decide +kernel) ?_
                obtain ⟨z1, z2, z3, z4, z5⟩ := opU_f (tlM I (e : Int)) (s2 : Int) (r : Int)
                obtain ⟨t1, t2, t3, t4⟩ := tlM_f I (e : Int)
                have hR2 := (hR.tell hn).opens (X := []) hfi (by omega)
                subst_vars
                refine ⟨rfl, _, w + 1, rfl, hR2, fun i a b c d => ?_, fun k a b => ?_⟩
                · rw [z1 i a b c, t1 i a d]
                · rw [z2 k a, t2 k b]
            · skip
              try simp only [b2_cast, b2_ncast, Classical.not_not, lcm_lt, lcm_ge, lcm_gt, lcm_le, lcm_eq, b2_0, b2_n0, b2_e1, b2_e0, Bool.not_eq_false, Bool.not_eq_true, decide_eq_true_eq, decide_eq_false_iff_not, Classical.not_not] at bh10
              refine V.blk [(206, .goto 238, 3), (238, .aload 0, 1), (239, .getfield 10049, 3), (242, .iload 7, 2), (244, .iaload, 1), (245, .istore 7, 2), (247, .goto 51, 3)] (ps := [0 ≤ (e : Int) ∧ (e : Int) < 420]) (z' := (51, [some (aR 52), some (aI (s : Int)), some (aI (p : Int)), some (aI (pe : Int)), some (aI C), some (aI 1), some (aI (S6 : Int)), some (aI (I 88 e)), some (aI 1), some (aI (((K 19 e).toNat * 8 + (K 6 p).toNat : Nat) : Int)), some (aI (1 + (I 89 ((K 19 e).toNat * 8 + (K 6 p).toNat))))], [], MM N I J)) (by decide +kernel) rfl (show (0 ≤ (e : Int) ∧ (e : Int) < 420) from (by omega)) ?_
              have hne : e ≠ q := by
                intro h
                subst h
                first
                  | omega
                  | (rw [htl.mpr (by omega)] at w10'
                     omega)
              rw [hnxe]
              exact ih (e + 1) _ _ _ (by omega) (by omega)
