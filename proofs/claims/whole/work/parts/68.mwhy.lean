/-! ===== the reference: why ===== -/
section RSQ
variable {K : MI} {L : MJ} {cp : Nat → Bool} {v : SV} {pe : Nat} {c : Nat → Int} {T0 : List Int} {I I' : MI} {n w : Nat} {X : List Int}
theorem RsP.pop (h : RsP K L cp v pe c T0 I n (w + 1) []) (e54 : I' 52 54 = (w : Int)) (e56 : I' 52 56 = I 52 56) (e91 : I' 91 = I 91) (e92 : I' 92 = I 92) (e93 : I' 93 = I 93) : ∃ s p : Nat, I 91 w = (s : Int) ∧ I 92 w = (p : Int) ∧ Fi K L cp v pe c s p ∧ w + mz K cp v pe c s p < 20545 ∧ RsP K L cp v pe c T0 I' n w (tale K cp v pe c s p) := by
  obtain ⟨h1, h2, h3, h4, h5⟩ := h
  obtain ⟨a, b, b1, b2, b3, b4⟩ := h4 w (by omega)
  refine ⟨a, b, b1, b2, b3, b4, by rw [e56]; exact h1, h2, e54, fun i hi => ?_, ?_⟩
  · rw [e91, e92]; exact h4 i (by omega)
  · rw [e91, e92, e93, ← h5]
    show _ = _ ++ ([] ++ (tale K cp v pe c (I 91 w).toNat (I 92 w).toNat ++ flW (tale K cp v pe c) (I 91) (I 92) w))
    rw [b1, b2]
    rfl
theorem opU_top {a b : Int} (h : I 52 54 = (w : Int)) : opU I a b 91 w = a ∧ opU I a b 92 w = b := by
  obtain ⟨t1, t2, t3, t4, t5⟩ := opU_f I a b
  rw [t4, t5, h, show (w : Int).toNat = w by omega, ma_self, ma_self]
  exact ⟨rfl, rfl⟩
end RSQ
def GoF (I I' : MI) : Prop := (∀ i, i ≠ 52 → i ≠ 80 → i ≠ 81 → i ≠ 90 → i ≠ 91 → i ≠ 92 → i ≠ 93 → I' i = I i) ∧ (∀ k, k ≠ 54 → k ≠ 56 → I' 52 k = I 52 k)
def GoD (K : MI) (cp : Nat → Bool) (v : SV) (pe : Nat) (c : Nat → Int) (n w0 : Nat) (I : MI) (n' w' : Nat) (I' : MI) : Prop := n' = n + 1 ∨ (n' = n ∧ ∃ a b : Nat, 0 < w' ∧ I' 91 (w' - 1) = (a : Int) ∧ I' 92 (w' - 1) = (b : Int) ∧ mz K cp v pe c a b < mz K cp v pe c (I 91 w0).toNat (I 92 w0).toNat)
theorem m_goesOn {N : Nat} {I : MI} {J : MJ} {K : MI} {L : MJ} {cp : Nat → Bool} {v : SV} {pe : Nat} {c : Nat → Int} {T0 : List Int} {n w : Nat} (hM : RMm K L cp v pe c I J) (hR : RsP K L cp v pe c T0 I n (w + 1) []) (hn : n < 60) : CT 186 [aR 52, aI (pe : Int)] (MM N I J) (fun rv M' => rv = none ∧ ∃ I' J' n' w', M' = MM N I' J' ∧ RMm K L cp v pe c I' J' ∧ RsP K L cp v pe c T0 I' n' w' [] ∧ GoF I I' ∧ (∀ i, i ≠ 85 → J' i = J i) ∧ GoD K cp v pe c n w I n' w' I') := by
  obtain ⟨hRP, hH, h89, h83, hz0⟩ := id hM
  have h40 := hH.1.1.2.1
  have hkd := hH.1.1.2.2
  have e54 : I 52 54 = ((w + 1 : Nat) : Int) := hR.2.2.1
  have hcp := hRP.2.2.1
  have hwb : w < 20545 := by
    obtain ⟨ta, tb1, -, -, -, h⟩ := hR.2.2.2.1 w (by omega)
    omega
  refine CT.ofV (n := 7) (ls := [some (aR 52), some (aI (pe : Int)), none, none, none, none, none]) rfl rfl rfl ?_
  refine V.blk [(0, .aload 0, 1), (1, .dup, 1), (2, .getfield 10054, 3), (5, .bipush 1, 1), (6, .isub, 1), (7, .putfield 10054, 3)] (ps := [inR ((I 52 54) - 1)]) (z' := (10, [some (aR 52), some (aI (pe : Int)), none, none, none, none, none], [], MM N (ma I 52 (ma (I 52) 54 ((I 52 54) - 1))) J)) (by decide +kernel) rfl (show (inR ((I 52 54) - 1)) from (by unfold inR; first | omega | (simp [ma]; omega))) ?_
  refine V.nI (fun I1 eI1 => ?_)
  have i0 : ∀ i, i ≠ 52 → I1 i = I i := fun i a => by rw [eI1, ma_ne _ _ a]
  have i52 : ∀ k, k ≠ 54 → I1 52 k = I 52 k := fun k a => by rw [eI1, ma_self, ma_ne _ _ a]
  have i54 : I1 52 54 = (w : Int) := by rw [eI1, ma_self, ma_self, e54]; omega
  clear eI1
  obtain ⟨s, p, s1, s2, hf, hwm, hR1⟩ := hR.pop i54 (i52 56 (by decide)) (i0 91 (by decide)) (i0 92 (by decide)) (i0 93 (by decide))
  have hs := hf.1
  have hp := hf.2.1
  have hsd := hf.dom hRP hz0
  obtain ⟨r, hr, er, har⟩ := hf.2.2.1
  have hM1 : RMm K L cp v pe c I1 J := hM.keep (fun i a b => i0 i b) (fun k a b => i52 k a) rfl
  have hc1 : CPos (I1 89) := fun s hs => by rw [hM1.2.2.1 s hs]; exact hcp s hs
  refine V.blk [(10, .aload 0, 1), (11, .getfield 10052, 3), (14, .aload 0, 1), (15, .getfield 10054, 3), (18, .iaload, 1)] (ps := [0 ≤ (I1 52 54) ∧ (I1 52 54) < 20800]) (z' := (19, [some (aR 52), some (aI (pe : Int)), none, none, none, none, none], [aI (I1 91 ((I1 52 54).toNat))], MM N I1 J)) (by decide +kernel) rfl (show (0 ≤ (I1 52 54) ∧ (I1 52 54) < 20800) from (by first | omega | (simp [ma]; omega))) ?_
  rw [show I1 91 (I1 52 54).toNat = (s : Int) by rw [i54, i0 91 (by decide)]; exact s1]
  refine V.blk [(19, .istore 2, 1), (20, .aload 0, 1), (21, .getfield 10053, 3), (24, .aload 0, 1), (25, .getfield 10054, 3), (28, .iaload, 1)] (ps := [0 ≤ (I1 52 54) ∧ (I1 52 54) < 20800]) (z' := (29, [some (aR 52), some (aI (pe : Int)), some (aI (s : Int)), none, none, none, none], [aI (I1 92 ((I1 52 54).toNat))], MM N I1 J)) (by decide +kernel) rfl (show (0 ≤ (I1 52 54) ∧ (I1 52 54) < 20800) from (by first | omega | (simp [ma]; omega))) ?_
  rw [show I1 92 (I1 52 54).toNat = (p : Int) by rw [i54, i0 92 (by decide)]; exact s2]
  refine V.blk [(29, .istore 3, 1), (30, .aload 0, 1), (31, .iload 2, 1), (32, .iload 1, 1)] (ps := []) (z' := (33, [some (aR 52), some (aI (pe : Int)), some (aI (s : Int)), some (aI (p : Int)), none, none, none], [aI (pe : Int), aI (s : Int), aR 52], MM N I1 J)) (by decide +kernel) rfl trivial ?_
  refine V.cv (c := 181) (na := 3) (o := 10) (a := 52) [aI (pe : Int), aI (s : Int)] [] (by decide +kernel) rfl rfl rfl rfl rfl ((m_costAt (cp := cp) hM1.2.1 hsd er hr hRP.2.1 hc1).mono (fun rv M1 q => ?_))
  obtain ⟨IC, JC, rfl, rfl, a1, a2, a3, -⟩ := q
  have hMC : RMm K L cp v pe c IC JC := hM1.keep (fun i a b => a1 i (by omega) (by omega) (by omega)) (fun k a b => by rw [a1 52 (by decide) (by decide) (by decide)]) (a2 83 (by decide))
  have c52 : IC 52 = I1 52 := a1 52 (by decide) (by decide) (by decide)
  have hRC : RsP K L cp v pe c T0 IC n w (tale K cp v pe c s p) := hR1.same (by rw [c52]) (by rw [c52]) (a1 91 (by decide) (by decide) (by decide)) (a1 92 (by decide) (by decide) (by decide)) (a1 93 (by decide) (by decide) (by decide))
  have hpr : ∀ q, q < 64 → askd L r q = true → IC 90 q = pr K cp v c pe s q := fun q hq ha => by
    rw [a3 q hq ha]
    exact pr_congr hRP.1 (fun s hs => h83 s hs) (fun s hs => hM1.2.2.1 s hs) hs q hq
  obtain ⟨r54, r55, r56, -⟩ := (show EdH K L IC from hMC.2.1.1).2.2.2.2.2.2.2.1.1 p hp
  have rr := hH.1.2.1.rt.1 p hp
  have ll := hH.1.2.1.rt.2.1 p hp
  have hin := hf.in_ hRP
  have C54 : IC 52 54 = (w : Int) := by rw [c52]; exact i54
  have hTC := (show EdH K L IC from hMC.2.1.1).2.2.2.2.2.2.1
  have hGF : GoF I IC := ⟨fun i b c d e f g h => (a1 i c d e).trans (i0 i b), fun k a b => by rw [c52]; exact i52 k a⟩
  have hmt : mz K cp v pe c (I 91 w).toNat (I 92 w).toNat = mz K cp v pe c s p := by rw [s1, s2]; rfl
  clear hR1 hM1 hR
  show V 186 (36, [some (aR 52), some (aI (pe : Int)), some (aI (s : Int)), some (aI (p : Int)), none, none, none], [aI (prT K cp (J 83) (I1 89) pe s)], MM N IC JC) _
  refine V.blk [(36, .istore 4, 2), (38, .aload 0, 1), (39, .getfield 10003, 3), (42, .iload 3, 1), (43, .iaload, 1), (44, .istore 5, 2), (46, .aload 0, 1), (47, .getfield 10004, 3), (50, .iload 3, 1), (51, .iaload, 1), (52, .istore 6, 2), (54, .aload 0, 1), (55, .getfield 10002, 3), (58, .iload 3, 1), (59, .iaload, 1), (60, .tableswitch 191 2 6 #[96, 191, 132, 164, 181], 36)] (ps := [0 ≤ (p : Int) ∧ (p : Int) < 64, 0 ≤ (p : Int) ∧ (p : Int) < 64, 0 ≤ (p : Int) ∧ (p : Int) < 64]) (z' := (tsw 191 2 6 [96, 191, 132, 164, 181] (IC 54 p), [some (aR 52), some (aI (pe : Int)), some (aI (s : Int)), some (aI (p : Int)), some (aI (prT K cp (J 83) (I1 89) pe s)), some (aI (IC 55 p)), some (aI (IC 56 p))], [], MM N IC JC)) (by decide +kernel) rfl (show (0 ≤ (p : Int) ∧ (p : Int) < 64) ∧ (0 ≤ (p : Int) ∧ (p : Int) < 64) ∧ (0 ≤ (p : Int) ∧ (p : Int) < 64) from ⟨(by first | omega | (simp [ma]; omega)), (by first | omega | (simp [ma]; omega)), (by first | omega | (simp [ma]; omega))⟩) ?_
  refine V.ts (fun k t2 hlt hle => ?_) (by decide) (fun bh3 => ?_)
  · match k, t2, hlt with
    | 0, t2, _ =>
      show V 186 (96, [some (aR 52), some (aI (pe : Int)), some (aI (s : Int)), some (aI (p : Int)), some (aI (prT K cp (J 83) (I1 89) pe s)), some (aI (IC 55 p)), some (aI (IC 56 p))], [], MM N IC JC) _
      have e4 : K 4 p = 2 := by have := t2; omega
      have x55 := r55 (by omega) (by omega)
      obtain ⟨r2, b1, b2, b3, b4, b5, b6⟩ := hf.also hRP e4
      have hta := tale_also hRP e4 b3 b4
      have hb4d := b4.dom hRP hz0
      have hks2 := kS_lt hkd (s := s / 8 * 8 + (K 5 p).toNat) b2
      refine V.blk [(96, .aload 0, 1), (97, .iload 2, 1), (98, .bipush 8, 2), (100, .idiv, 1), (101, .bipush 8, 2), (103, .imul, 1), (104, .iload 5, 2), (106, .iadd, 1)] (ps := [0 ≤ (s : Int) ∧ 0 < 8, inR (((s / 8 : Nat) : Int) * 8), inR ((((s / 8) * 8 : Nat) : Int) + (IC 55 p))]) (z' := (107, [some (aR 52), some (aI (pe : Int)), some (aI (s : Int)), some (aI (p : Int)), some (aI (prT K cp (J 83) (I1 89) pe s)), some (aI (IC 55 p)), some (aI (IC 56 p))], [aI ((((s / 8) * 8 : Nat) : Int) + (IC 55 p)), aR 52], MM N IC JC)) (by decide +kernel) rfl (show (0 ≤ (s : Int) ∧ 0 < 8) ∧ (inR (((s / 8 : Nat) : Int) * 8)) ∧ (inR ((((s / 8) * 8 : Nat) : Int) + (IC 55 p))) from ⟨(by first | omega | (simp [ma]; omega)), (by unfold inR; first | omega | (simp [ma]; omega)), (by unfold inR; first | omega | (simp [ma]; omega))⟩) ?_
      rw [show ((s / 8 * 8 : Nat) : Int) + IC 55 p = ((s / 8 * 8 + (K 5 p).toNat : Nat) : Int) by omega]
      refine V.blk [(107, .aload 0, 1), (108, .getfield 10006, 3), (111, .aload 0, 1), (112, .iload 2, 1), (113, .bipush 8, 2), (115, .idiv, 1), (116, .bipush 8, 2), (118, .imul, 1), (119, .iload 5, 2), (121, .iadd, 1)] (ps := [0 ≤ (s : Int) ∧ 0 < 8, inR (((s / 8 : Nat) : Int) * 8), inR ((((s / 8) * 8 : Nat) : Int) + (IC 55 p))]) (z' := (122, [some (aR 52), some (aI (pe : Int)), some (aI (s : Int)), some (aI (p : Int)), some (aI (prT K cp (J 83) (I1 89) pe s)), some (aI (IC 55 p)), some (aI (IC 56 p))], [aI ((((s / 8) * 8 : Nat) : Int) + (IC 55 p)), aR 52, aR 58, aI ((s / 8 * 8 + (K 5 p).toNat : Nat) : Int), aR 52], MM N IC JC)) (by decide +kernel) rfl (show (0 ≤ (s : Int) ∧ 0 < 8) ∧ (inR (((s / 8 : Nat) : Int) * 8)) ∧ (inR ((((s / 8) * 8 : Nat) : Int) + (IC 55 p))) from ⟨(by first | omega | (simp [ma]; omega)), (by unfold inR; first | omega | (simp [ma]; omega)), (by unfold inR; first | omega | (simp [ma]; omega))⟩) ?_
      rw [show ((s / 8 * 8 : Nat) : Int) + IC 55 p = ((s / 8 * 8 + (K 5 p).toNat : Nat) : Int) by omega]
      refine V.cv (c := 168) (na := 2) (o := 10) (a := 52) [aI ((s / 8 * 8 + (K 5 p).toNat : Nat) : Int)] [aR 58, aI ((s / 8 * 8 + (K 5 p).toNat : Nat) : Int), aR 52] (by decide +kernel) rfl rfl rfl rfl rfl (V.pr (m_nodeOf (K := K) hTC hkd (by omega) (by omega)) ?_)
      show V 186 (125, [some (aR 52), some (aI (pe : Int)), some (aI (s : Int)), some (aI (p : Int)), some (aI (prT K cp (J 83) (I1 89) pe s)), some (aI (IC 55 p)), some (aI (IC 56 p))], [aI ((kS K (s / 8 * 8 + (K 5 p).toNat) : Nat) : Int), aR 58, aI ((s / 8 * 8 + (K 5 p).toNat : Nat) : Int), aR 52], MM N IC JC) _
      refine V.blk [(125, .iaload, 1)] (ps := [0 ≤ ((kS K (s / 8 * 8 + (K 5 p).toNat) : Nat) : Int) ∧ ((kS K (s / 8 * 8 + (K 5 p).toNat) : Nat) : Int) < 48]) (z' := (126, [some (aR 52), some (aI (pe : Int)), some (aI (s : Int)), some (aI (p : Int)), some (aI (prT K cp (J 83) (I1 89) pe s)), some (aI (IC 55 p)), some (aI (IC 56 p))], [aI (IC 58 (kS K (s / 8 * 8 + (K 5 p).toNat))), aI ((s / 8 * 8 + (K 5 p).toNat : Nat) : Int), aR 52], MM N IC JC)) (by decide +kernel) rfl (show (0 ≤ ((kS K (s / 8 * 8 + (K 5 p).toNat) : Nat) : Int) ∧ ((kS K (s / 8 * 8 + (K 5 p).toNat) : Nat) : Int) < 48) from (by first | omega | (simp [ma]; omega))) ?_
      have h582 : IC 58 (kS K (s / 8 * 8 + (K 5 p).toNat)) = (r2 : Int) := ((show EdH K L IC from hMC.2.1.1).2.2.2.2.2.2.2.1.2 _ hks2).trans b3
      rw [h582]
      refine V.cv (c := 183) (na := 3) (o := 10) (a := 52) [aI (r2 : Int), aI ((s / 8 * 8 + (K 5 p).toNat : Nat) : Int)] [] (by decide +kernel) rfl rfl rfl rfl rfl ((m_opens (by omega)).mono (fun rv M1 q => ?_))
      obtain ⟨rfl, rfl⟩ := q
      show V 186 (129, [some (aR 52), some (aI (pe : Int)), some (aI (s : Int)), some (aI (p : Int)), some (aI (prT K cp (J 83) (I1 89) pe s)), some (aI (IC 55 p)), some (aI (IC 56 p))], [], MM N ((opU IC ((s / 8 * 8 + (K 5 p).toNat : Nat) : Int) (r2 : Int))) JC) _
      refine V.blk [(129, .goto 204, 3)] (ps := []) (z' := (204, [some (aR 52), some (aI (pe : Int)), some (aI (s : Int)), some (aI (p : Int)), some (aI (prT K cp (J 83) (I1 89) pe s)), some (aI (IC 55 p)), some (aI (IC 56 p))], [], MM N ((opU IC ((s / 8 * 8 + (K 5 p).toNat : Nat) : Int) (r2 : Int))) JC)) (by decide +kernel) rfl trivial ?_
      refine V.nI (fun I4 eI4 => ?_)
      refine V.rv (by decide +kernel) ?_
      obtain ⟨z1, z2, z3, z4, z5⟩ := opU_f IC ((s / 8 * 8 + (K 5 p).toNat : Nat) : Int) ((r2 : Nat) : Int)
      rw [← eI4] at z1 z2 z3 z4 z5
      have ht := opU_top (I := IC) (a := ((s / 8 * 8 + (K 5 p).toNat : Nat) : Int)) (b := ((r2 : Nat) : Int)) C54
      rw [← eI4] at ht
      have hR2 := (RsP.opens (X := []) (by rw [hta] at hRC; exact hRC) b4 (by unfold mz at hwm ⊢; omega))
      rw [← eI4] at hR2
      refine ⟨rfl, I4, JC, n, (w + 1), rfl, hMC.keep (fun i a b => z1 i b (by omega) (by omega)) (fun k a b => z2 k a) rfl, hR2, ⟨fun i a b c d e f g => (z1 i a e f).trans (hGF.1 i a b c d e f g), fun k a b => (z2 k a).trans (hGF.2 k a b)⟩, a2, ?_⟩
      exact Or.inr ⟨rfl, s / 8 * 8 + (K 5 p).toNat, r2, by omega, ht.1, ht.2, by rw [hmt]; unfold mz; omega⟩
    | 1, t2, _ =>
      show V 186 (191, [some (aR 52), some (aI (pe : Int)), some (aI (s : Int)), some (aI (p : Int)), some (aI (prT K cp (J 83) (I1 89) pe s)), some (aI (IC 55 p)), some (aI (IC 56 p))], [], MM N IC JC) _
      have e4 : K 4 p = 3 := by have := t2; omega
      refine V.blk [(191, .aload 0, 1), (192, .iload 2, 1), (193, .iload 3, 1), (194, .iload 1, 1), (195, .aload 0, 1), (196, .getfield 10051, 3), (199, .iload 3, 1), (200, .iaload, 1)] (ps := [0 ≤ (p : Int) ∧ (p : Int) < 64]) (z' := (201, [some (aR 52), some (aI (pe : Int)), some (aI (s : Int)), some (aI (p : Int)), some (aI (prT K cp (J 83) (I1 89) pe s)), some (aI (IC 55 p)), some (aI (IC 56 p))], [aI (IC 90 p), aI (pe : Int), aI (p : Int), aI (s : Int), aR 52], MM N IC JC)) (by decide +kernel) rfl (show (0 ≤ (p : Int) ∧ (p : Int) < 64) from (by first | omega | (simp [ma]; omega))) ?_
      rw [hpr p hp har]
      refine V.cv (c := 185) (na := 5) (o := 10) (a := 52) [aI (pr K cp v c pe s p), aI (pe : Int), aI (p : Int), aI (s : Int)] [] (by decide +kernel) rfl rfl rfl rfl rfl ((m_tellPair hMC hn hf (by omega) (by omega) hwm hRC).mono (fun rv M1 q => ?_))
      obtain ⟨rfl, IT, wt, rfl, d1, d2, d3⟩ := q
      show V 186 (204, [some (aR 52), some (aI (pe : Int)), some (aI (s : Int)), some (aI (p : Int)), some (aI (prT K cp (J 83) (I1 89) pe s)), some (aI (IC 55 p)), some (aI (IC 56 p))], [], MM N IT JC) _
      refine V.rv (by decide +kernel) ?_
      refine ⟨rfl, IT, JC, (n + 1), wt, rfl, hMC.keep (fun i a b => d2 i b (by omega) (by omega) (by omega)) (fun k a b => d3 k a b) rfl, d1, ⟨fun i a b c d e f g => (d2 i a e f g).trans (hGF.1 i a b c d e f g), fun k a b => (d3 k a b).trans (hGF.2 k a b)⟩, a2, ?_⟩
      exact Or.inl rfl
    | 2, t2, _ =>
      show V 186 (132, [some (aR 52), some (aI (pe : Int)), some (aI (s : Int)), some (aI (p : Int)), some (aI (prT K cp (J 83) (I1 89) pe s)), some (aI (IC 55 p)), some (aI (IC 56 p))], [], MM N IC JC) _
      have e4 : K 4 p = 4 := by have := t2; omega
      have x55 := r55 (by omega) (by omega)
      have x56 := r56 (by omega) (by omega)
      have lll := ll (by omega) (by omega)
      obtain ⟨-, r2, k1, k2, k3, k4⟩ := hf.kids hRP (by omega) (by omega)
      have err : r2 = r := by omega
      subst err
      have p5 := hpr (K 5 p).toNat (by omega) k3
      have p6 := hpr (K 6 p).toNat (by omega) k4
      have p5i : IC 90 (IC 55 p).toNat = pr K cp v c pe s (K 5 p).toNat := by rw [x55]; exact p5
      have p6i : IC 90 (IC 56 p).toNat = pr K cp v c pe s (K 6 p).toNat := by rw [x56]; exact p6
      obtain ⟨f1, f2⟩ := hf.any hRP e4
      have hta := tale_any hRP hf e4
      refine V.blk [(132, .aload 0, 1), (133, .iload 2, 1), (134, .aload 0, 1), (135, .getfield 10051, 3), (138, .iload 5, 2), (140, .iaload, 1), (141, .aload 0, 1), (142, .getfield 10051, 3), (145, .iload 6, 2), (147, .iaload, 1), (148, .if_icmp .gt 156, 3)] (ps := [0 ≤ (IC 55 p) ∧ (IC 55 p) < 64, 0 ≤ (IC 56 p) ∧ (IC 56 p) < 64]) (z' := (brc .gt (IC 90 ((IC 55 p).toNat)) (IC 90 ((IC 56 p).toNat)) 156 151, [some (aR 52), some (aI (pe : Int)), some (aI (s : Int)), some (aI (p : Int)), some (aI (prT K cp (J 83) (I1 89) pe s)), some (aI (IC 55 p)), some (aI (IC 56 p))], [aI (s : Int), aR 52], MM N IC JC)) (by decide +kernel) rfl (show (0 ≤ (IC 55 p) ∧ (IC 55 p) < 64) ∧ (0 ≤ (IC 56 p) ∧ (IC 56 p) < 64) from ⟨(by first | omega | (simp [ma]; omega)), (by first | omega | (simp [ma]; omega))⟩) ?_
      refine V.gt (fun bh5 => ?_) (fun bh6 => ?_)
      · skip
        try simp only [b2_cast, b2_ncast, Classical.not_not, lcm_lt, lcm_ge, lcm_gt, lcm_le, lcm_eq, b2_0, b2_n0, b2_e1, b2_e0, Bool.not_eq_false, Bool.not_eq_true, decide_eq_true_eq, decide_eq_false_iff_not, Classical.not_not] at bh5
        refine V.blk [(156, .iload 6, 2)] (ps := []) (z' := (158, [some (aR 52), some (aI (pe : Int)), some (aI (s : Int)), some (aI (p : Int)), some (aI (prT K cp (J 83) (I1 89) pe s)), some (aI (IC 55 p)), some (aI (IC 56 p))], [aI (IC 56 p), aI (s : Int), aR 52], MM N IC JC)) (by decide +kernel) rfl trivial ?_
        rw [show IC 56 p = (((K 6 p).toNat : Nat) : Int) by omega]
        refine V.cv (c := 183) (na := 3) (o := 10) (a := 52) [aI (((K 6 p).toNat : Nat) : Int), aI (s : Int)] [] (by decide +kernel) rfl rfl rfl rfl rfl ((m_opens (by omega)).mono (fun rv M1 q => ?_))
        obtain ⟨rfl, rfl⟩ := q
        show V 186 (161, [some (aR 52), some (aI (pe : Int)), some (aI (s : Int)), some (aI (p : Int)), some (aI (prT K cp (J 83) (I1 89) pe s)), some (aI (IC 55 p)), some (aI (((K 6 p).toNat : Nat) : Int))], [], MM N ((opU IC (s : Int) (((K 6 p).toNat : Nat) : Int))) JC) _
        refine V.blk [(161, .goto 204, 3)] (ps := []) (z' := (204, [some (aR 52), some (aI (pe : Int)), some (aI (s : Int)), some (aI (p : Int)), some (aI (prT K cp (J 83) (I1 89) pe s)), some (aI (IC 55 p)), some (aI (((K 6 p).toNat : Nat) : Int))], [], MM N ((opU IC (s : Int) (((K 6 p).toNat : Nat) : Int))) JC)) (by decide +kernel) rfl trivial ?_
        refine V.nI (fun I7 eI7 => ?_)
        refine V.rv (by decide +kernel) ?_
        obtain ⟨z1, z2, z3, z4, z5⟩ := opU_f IC ((s : Nat) : Int) (((K 6 p).toNat : Nat) : Int)
        rw [← eI7] at z1 z2 z3 z4 z5
        have ht := opU_top (I := IC) (a := ((s : Nat) : Int)) (b := (((K 6 p).toNat : Nat) : Int)) C54
        rw [← eI7] at ht
        have hfb : Fi K L cp v pe c s ((K 6 p).toNat) ∧ pr K cp v c pe s ((K 6 p).toNat) = pr K cp v c pe s p ∧ tale K cp v pe c s p = tale K cp v pe c s ((K 6 p).toNat) := by
          first
            | (have w1 := f1 (by omega); rw [if_pos (by omega)] at hta; exact ⟨w1.1, w1.2, hta⟩)
            | (have w1 := f2 (by omega); rw [if_neg (by omega)] at hta; exact ⟨w1.1, w1.2, hta⟩)
        obtain ⟨hfb, hfp, htb⟩ := hfb
        have hR2 := (RsP.opens (X := []) (by rw [htb] at hRC; exact hRC) hfb (by unfold mz at hwm ⊢; omega))
        rw [← eI7] at hR2
        refine ⟨rfl, I7, JC, n, (w + 1), rfl, hMC.keep (fun i a b => z1 i b (by omega) (by omega)) (fun k a b => z2 k a) rfl, hR2, ⟨fun i a b c d e f g => (z1 i a e f).trans (hGF.1 i a b c d e f g), fun k a b => (z2 k a).trans (hGF.2 k a b)⟩, a2, ?_⟩
        exact Or.inr ⟨rfl, s, (K 6 p).toNat, by omega, ht.1, ht.2, by rw [hmt]; unfold mz; omega⟩
      · skip
        try simp only [b2_cast, b2_ncast, Classical.not_not, lcm_lt, lcm_ge, lcm_gt, lcm_le, lcm_eq, b2_0, b2_n0, b2_e1, b2_e0, Bool.not_eq_false, Bool.not_eq_true, decide_eq_true_eq, decide_eq_false_iff_not, Classical.not_not] at bh6
        refine V.blk [(151, .iload 5, 2), (153, .goto 158, 3)] (ps := []) (z' := (158, [some (aR 52), some (aI (pe : Int)), some (aI (s : Int)), some (aI (p : Int)), some (aI (prT K cp (J 83) (I1 89) pe s)), some (aI (IC 55 p)), some (aI (IC 56 p))], [aI (IC 55 p), aI (s : Int), aR 52], MM N IC JC)) (by decide +kernel) rfl trivial ?_
        rw [show IC 55 p = (((K 5 p).toNat : Nat) : Int) by omega]
        refine V.cv (c := 183) (na := 3) (o := 10) (a := 52) [aI (((K 5 p).toNat : Nat) : Int), aI (s : Int)] [] (by decide +kernel) rfl rfl rfl rfl rfl ((m_opens (by omega)).mono (fun rv M1 q => ?_))
        obtain ⟨rfl, rfl⟩ := q
        show V 186 (161, [some (aR 52), some (aI (pe : Int)), some (aI (s : Int)), some (aI (p : Int)), some (aI (prT K cp (J 83) (I1 89) pe s)), some (aI (((K 5 p).toNat : Nat) : Int)), some (aI (IC 56 p))], [], MM N ((opU IC (s : Int) (((K 5 p).toNat : Nat) : Int))) JC) _
        refine V.blk [(161, .goto 204, 3)] (ps := []) (z' := (204, [some (aR 52), some (aI (pe : Int)), some (aI (s : Int)), some (aI (p : Int)), some (aI (prT K cp (J 83) (I1 89) pe s)), some (aI (((K 5 p).toNat : Nat) : Int)), some (aI (IC 56 p))], [], MM N ((opU IC (s : Int) (((K 5 p).toNat : Nat) : Int))) JC)) (by decide +kernel) rfl trivial ?_
        refine V.nI (fun I8 eI8 => ?_)
        refine V.rv (by decide +kernel) ?_
        obtain ⟨z1, z2, z3, z4, z5⟩ := opU_f IC ((s : Nat) : Int) (((K 5 p).toNat : Nat) : Int)
        rw [← eI8] at z1 z2 z3 z4 z5
        have ht := opU_top (I := IC) (a := ((s : Nat) : Int)) (b := (((K 5 p).toNat : Nat) : Int)) C54
        rw [← eI8] at ht
        have hfb : Fi K L cp v pe c s ((K 5 p).toNat) ∧ pr K cp v c pe s ((K 5 p).toNat) = pr K cp v c pe s p ∧ tale K cp v pe c s p = tale K cp v pe c s ((K 5 p).toNat) := by
          first
            | (have w1 := f1 (by omega); rw [if_pos (by omega)] at hta; exact ⟨w1.1, w1.2, hta⟩)
            | (have w1 := f2 (by omega); rw [if_neg (by omega)] at hta; exact ⟨w1.1, w1.2, hta⟩)
        obtain ⟨hfb, hfp, htb⟩ := hfb
        have hR2 := (RsP.opens (X := []) (by rw [htb] at hRC; exact hRC) hfb (by unfold mz at hwm ⊢; omega))
        rw [← eI8] at hR2
        refine ⟨rfl, I8, JC, n, (w + 1), rfl, hMC.keep (fun i a b => z1 i b (by omega) (by omega)) (fun k a b => z2 k a) rfl, hR2, ⟨fun i a b c d e f g => (z1 i a e f).trans (hGF.1 i a b c d e f g), fun k a b => (z2 k a).trans (hGF.2 k a b)⟩, a2, ?_⟩
        exact Or.inr ⟨rfl, s, (K 5 p).toNat, by omega, ht.1, ht.2, by rw [hmt]; unfold mz; omega⟩
    | 3, t2, _ =>
      show V 186 (164, [some (aR 52), some (aI (pe : Int)), some (aI (s : Int)), some (aI (p : Int)), some (aI (prT K cp (J 83) (I1 89) pe s)), some (aI (IC 55 p)), some (aI (IC 56 p))], [], MM N IC JC) _
      have e4 : K 4 p = 5 := by have := t2; omega
      have x55 := r55 (by omega) (by omega)
      have x56 := r56 (by omega) (by omega)
      have lll := ll (by omega) (by omega)
      obtain ⟨-, r2, k1, k2, k3, k4⟩ := hf.kids hRP (by omega) (by omega)
      have err : r2 = r := by omega
      subst err
      have p5 := hpr (K 5 p).toNat (by omega) k3
      have p6 := hpr (K 6 p).toNat (by omega) k4
      have p5i : IC 90 (IC 55 p).toNat = pr K cp v c pe s (K 5 p).toNat := by rw [x55]; exact p5
      have p6i : IC 90 (IC 56 p).toNat = pr K cp v c pe s (K 6 p).toNat := by rw [x56]; exact p6
      obtain ⟨f1, f2, f3, f4⟩ := hf.all hRP e4
      have hta := tale_all hRP hf e4
      refine V.blk [(164, .aload 0, 1), (165, .iload 2, 1), (166, .iload 6, 2)] (ps := []) (z' := (168, [some (aR 52), some (aI (pe : Int)), some (aI (s : Int)), some (aI (p : Int)), some (aI (prT K cp (J 83) (I1 89) pe s)), some (aI (IC 55 p)), some (aI (IC 56 p))], [aI (IC 56 p), aI (s : Int), aR 52], MM N IC JC)) (by decide +kernel) rfl trivial ?_
      rw [show IC 56 p = (((K 6 p).toNat : Nat) : Int) by omega]
      refine V.cv (c := 183) (na := 3) (o := 10) (a := 52) [aI (((K 6 p).toNat : Nat) : Int), aI (s : Int)] [] (by decide +kernel) rfl rfl rfl rfl rfl ((m_opens (by omega)).mono (fun rv M1 q => ?_))
      obtain ⟨rfl, rfl⟩ := q
      show V 186 (171, [some (aR 52), some (aI (pe : Int)), some (aI (s : Int)), some (aI (p : Int)), some (aI (prT K cp (J 83) (I1 89) pe s)), some (aI (IC 55 p)), some (aI (((K 6 p).toNat : Nat) : Int))], [], MM N ((opU IC (s : Int) (((K 6 p).toNat : Nat) : Int))) JC) _
      refine V.blk [(171, .aload 0, 1), (172, .iload 2, 1), (173, .iload 5, 2)] (ps := []) (z' := (175, [some (aR 52), some (aI (pe : Int)), some (aI (s : Int)), some (aI (p : Int)), some (aI (prT K cp (J 83) (I1 89) pe s)), some (aI (IC 55 p)), some (aI (((K 6 p).toNat : Nat) : Int))], [aI (IC 55 p), aI (s : Int), aR 52], MM N ((opU IC (s : Int) (((K 6 p).toNat : Nat) : Int))) JC)) (by decide +kernel) rfl trivial ?_
      refine V.nI (fun I9 eI9 => ?_)
      obtain ⟨u1, u2, u3, u4, u5⟩ := opU_f IC (s : Int) (((K 6 p).toNat : Nat) : Int)
      rw [← eI9] at u1 u2 u3 u4 u5
      rw [show IC 55 p = (((K 5 p).toNat : Nat) : Int) by omega]
      refine V.cv (c := 183) (na := 3) (o := 10) (a := 52) [aI (((K 5 p).toNat : Nat) : Int), aI (s : Int)] [] (by decide +kernel) rfl rfl rfl rfl rfl ((m_opens (by omega)).mono (fun rv M1 q => ?_))
      obtain ⟨rfl, rfl⟩ := q
      show V 186 (178, [some (aR 52), some (aI (pe : Int)), some (aI (s : Int)), some (aI (p : Int)), some (aI (prT K cp (J 83) (I1 89) pe s)), some (aI (((K 5 p).toNat : Nat) : Int)), some (aI (((K 6 p).toNat : Nat) : Int))], [], MM N ((opU I9 (s : Int) (((K 5 p).toNat : Nat) : Int))) JC) _
      refine V.blk [(178, .goto 204, 3)] (ps := []) (z' := (204, [some (aR 52), some (aI (pe : Int)), some (aI (s : Int)), some (aI (p : Int)), some (aI (prT K cp (J 83) (I1 89) pe s)), some (aI (((K 5 p).toNat : Nat) : Int)), some (aI (((K 6 p).toNat : Nat) : Int))], [], MM N ((opU I9 (s : Int) (((K 5 p).toNat : Nat) : Int))) JC)) (by decide +kernel) rfl trivial ?_
      refine V.nI (fun I10 eI10 => ?_)
      refine V.rv (by decide +kernel) ?_
      obtain ⟨z1, z2, z3, z4, z5⟩ := opU_f I9 (s : Int) (((K 5 p).toNat : Nat) : Int)
      rw [← eI10] at z1 z2 z3 z4 z5
      have hw2 : I9 52 54 = ((w + 1 : Nat) : Int) := by rw [u3, C54]; omega
      have hR2 := (RsP.opens (X := tale K cp v pe c s (K 5 p).toNat) (by rw [← hta]; exact hRC) f2 (by unfold mz at hwm ⊢; omega))
      rw [← eI9] at hR2
      have hR3 := hR2.opens (X := []) f1 (by unfold mz at hwm ⊢; omega)
      rw [← eI10] at hR3
      have ht := opU_top (I := I9) (a := (s : Int)) (b := (((K 5 p).toNat : Nat) : Int)) hw2
      rw [← eI10] at ht
      refine ⟨rfl, I10, JC, n, (w + 2), rfl, hMC.keep (fun i a b => (z1 i b (by omega) (by omega)).trans (u1 i b (by omega) (by omega))) (fun k a b => (z2 k a).trans (u2 k a)) rfl, hR3, ⟨fun i a b c d e f g => ((z1 i a e f).trans (u1 i a e f)).trans (hGF.1 i a b c d e f g), fun k a b => ((z2 k a).trans (u2 k a)).trans (hGF.2 k a b)⟩, a2, ?_⟩
      exact Or.inr ⟨rfl, s, (K 5 p).toNat, by omega, ht.1, ht.2, by rw [hmt]; unfold mz; omega⟩
    | 4, t2, _ =>
      show V 186 (181, [some (aR 52), some (aI (pe : Int)), some (aI (s : Int)), some (aI (p : Int)), some (aI (prT K cp (J 83) (I1 89) pe s)), some (aI (IC 55 p)), some (aI (IC 56 p))], [], MM N IC JC) _
      have e4 : K 4 p = 6 := by have := t2; omega
      have x55 := r55 (by omega) (by omega)
      have x56 := r56 (by omega) (by omega)
      have lll := ll (by omega) (by omega)
      obtain ⟨-, r2, k1, k2, k3, k4⟩ := hf.kids hRP (by omega) (by omega)
      have err : r2 = r := by omega
      subst err
      have p5 := hpr (K 5 p).toNat (by omega) k3
      have p6 := hpr (K 6 p).toNat (by omega) k4
      have p5i : IC 90 (IC 55 p).toNat = pr K cp v c pe s (K 5 p).toNat := by rw [x55]; exact p5
      have p6i : IC 90 (IC 56 p).toNat = pr K cp v c pe s (K 6 p).toNat := by rw [x56]; exact p6
      obtain ⟨f1, f2⟩ := hf.less hRP e4
      have hta := tale_less hRP hf e4
      refine V.blk [(181, .aload 0, 1), (182, .iload 2, 1), (183, .iload 5, 2)] (ps := []) (z' := (185, [some (aR 52), some (aI (pe : Int)), some (aI (s : Int)), some (aI (p : Int)), some (aI (prT K cp (J 83) (I1 89) pe s)), some (aI (IC 55 p)), some (aI (IC 56 p))], [aI (IC 55 p), aI (s : Int), aR 52], MM N IC JC)) (by decide +kernel) rfl trivial ?_
      rw [show IC 55 p = (((K 5 p).toNat : Nat) : Int) by omega]
      refine V.cv (c := 183) (na := 3) (o := 10) (a := 52) [aI (((K 5 p).toNat : Nat) : Int), aI (s : Int)] [] (by decide +kernel) rfl rfl rfl rfl rfl ((m_opens (by omega)).mono (fun rv M1 q => ?_))
      obtain ⟨rfl, rfl⟩ := q
      show V 186 (188, [some (aR 52), some (aI (pe : Int)), some (aI (s : Int)), some (aI (p : Int)), some (aI (prT K cp (J 83) (I1 89) pe s)), some (aI (((K 5 p).toNat : Nat) : Int)), some (aI (IC 56 p))], [], MM N ((opU IC (s : Int) (((K 5 p).toNat : Nat) : Int))) JC) _
      refine V.blk [(188, .goto 204, 3)] (ps := []) (z' := (204, [some (aR 52), some (aI (pe : Int)), some (aI (s : Int)), some (aI (p : Int)), some (aI (prT K cp (J 83) (I1 89) pe s)), some (aI (((K 5 p).toNat : Nat) : Int)), some (aI (IC 56 p))], [], MM N ((opU IC (s : Int) (((K 5 p).toNat : Nat) : Int))) JC)) (by decide +kernel) rfl trivial ?_
      refine V.nI (fun I11 eI11 => ?_)
      refine V.rv (by decide +kernel) ?_
      obtain ⟨z1, z2, z3, z4, z5⟩ := opU_f IC ((s : Nat) : Int) (((K 5 p).toNat : Nat) : Int)
      rw [← eI11] at z1 z2 z3 z4 z5
      have ht := opU_top (I := IC) (a := ((s : Nat) : Int)) (b := (((K 5 p).toNat : Nat) : Int)) C54
      rw [← eI11] at ht
      have hR2 := (RsP.opens (X := []) (by rw [hta] at hRC; exact hRC) f1 (by unfold mz at hwm ⊢; omega))
      rw [← eI11] at hR2
      refine ⟨rfl, I11, JC, n, (w + 1), rfl, hMC.keep (fun i a b => z1 i b (by omega) (by omega)) (fun k a b => z2 k a) rfl, hR2, ⟨fun i a b c d e f g => (z1 i a e f).trans (hGF.1 i a b c d e f g), fun k a b => (z2 k a).trans (hGF.2 k a b)⟩, a2, ?_⟩
      exact Or.inr ⟨rfl, s, (K 5 p).toNat, by omega, ht.1, ht.2, by rw [hmt]; unfold mz; omega⟩
    | n + 5, _, hlt => exact absurd hlt (by simp)
  · show V 186 (191, [some (aR 52), some (aI (pe : Int)), some (aI (s : Int)), some (aI (p : Int)), some (aI (prT K cp (J 83) (I1 89) pe s)), some (aI (IC 55 p)), some (aI (IC 56 p))], [], MM N IC JC) _
    have hno : K 4 p ≠ 2 ∧ ¬ (4 ≤ K 4 p ∧ K 4 p ≤ 6) := by have := bh3; omega
    refine V.blk [(191, .aload 0, 1), (192, .iload 2, 1), (193, .iload 3, 1), (194, .iload 1, 1), (195, .aload 0, 1), (196, .getfield 10051, 3), (199, .iload 3, 1), (200, .iaload, 1)] (ps := [0 ≤ (p : Int) ∧ (p : Int) < 64]) (z' := (201, [some (aR 52), some (aI (pe : Int)), some (aI (s : Int)), some (aI (p : Int)), some (aI (prT K cp (J 83) (I1 89) pe s)), some (aI (IC 55 p)), some (aI (IC 56 p))], [aI (IC 90 p), aI (pe : Int), aI (p : Int), aI (s : Int), aR 52], MM N IC JC)) (by decide +kernel) rfl (show (0 ≤ (p : Int) ∧ (p : Int) < 64) from (by first | omega | (simp [ma]; omega))) ?_
    rw [hpr p hp har]
    refine V.cv (c := 185) (na := 5) (o := 10) (a := 52) [aI (pr K cp v c pe s p), aI (pe : Int), aI (p : Int), aI (s : Int)] [] (by decide +kernel) rfl rfl rfl rfl rfl ((m_tellPair hMC hn hf (by omega) (by omega) hwm hRC).mono (fun rv M1 q => ?_))
    obtain ⟨rfl, IT, wt, rfl, d1, d2, d3⟩ := q
    show V 186 (204, [some (aR 52), some (aI (pe : Int)), some (aI (s : Int)), some (aI (p : Int)), some (aI (prT K cp (J 83) (I1 89) pe s)), some (aI (IC 55 p)), some (aI (IC 56 p))], [], MM N IT JC) _
    refine V.rv (by decide +kernel) ?_
    refine ⟨rfl, IT, JC, (n + 1), wt, rfl, hMC.keep (fun i a b => d2 i b (by omega) (by omega) (by omega)) (fun k a b => d3 k a b) rfl, d1, ⟨fun i a b c d e f g => (d2 i a e f g).trans (hGF.1 i a b c d e f g), fun k a b => (d3 k a b).trans (hGF.2 k a b)⟩, a2, ?_⟩
    exact Or.inl rfl
