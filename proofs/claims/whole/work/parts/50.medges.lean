/-! ===== the reference: edges ===== -/
theorem l_want1 {N : Nat} {I : MI} {J : MJ} {K : MI} {L : MJ} {r : Nat} (hr : r < 64) (hE : EdH K L I) : ∀ (k p : Nat) (I' : MI), 66 ≤ k + p → p ≤ 64 → (∀ i, i ≠ 80 → i ≠ 81 → I' i = I i) → (∀ q, q < p → I' 80 q = (if q = r then 1 else 0) ∧ I' 81 q = 0) → V 126 (2, [some (aR 52), some (aI (r : Int)), some (aI (p : Int))], [], MM N I' J) (fun rv M' => rv = none ∧ ∃ I', M' = MM N I' J ∧ (∀ i, i ≠ 80 → i ≠ 81 → I' i = I i) ∧ ∀ q, q < 64 → (I' 80 q ≠ 0 ↔ askd L r q = true) ∧ (I' 81 q ≠ 0 ↔ tb (L 9 r) q = true)) := by
  intro k
  induction k with
  | zero => intro p I' h1 h2; exfalso; omega
  | succ k ih =>
    intro p I' h1 h2 ho hq
    refine V.blk [(2, .iload 2, 1), (3, .bipush 64, 2), (5, .if_icmp .ge 37, 3)] (ps := []) (z' := (brc .ge (p : Int) 64 37 8, [some (aR 52), some (aI (r : Int)), some (aI (p : Int))], [], MM N I' J)) (by decide +kernel) rfl trivial ?_
    refine V.ge (fun bh1 => ?_) (fun bh2 => ?_)
    · skip
      refine V.blk [(37, .iload 1, 1), (38, .istore 2, 1)] (ps := []) (z' := (39, [some (aR 52), some (aI (r : Int)), some (aI (r : Int))], [], MM N I' J)) (by decide +kernel) rfl trivial ?_
      rw [show (r : Int) = ((r + 1 : Nat) : Int) - 1 by omega]
      have hI : WnI K L r (r + 1) I I' := by
        refine ⟨ho, by rw [(hq r (by omega)).1, if_pos rfl]; decide, fun q hq2 => ⟨fun w => ?_, fun w => ?_⟩, fun q a b c d e => ?_⟩
        · rw [(hq q (by omega)).1] at w
          split at w
          · rename_i e
            rw [e]
            exact askd_or.mpr (Or.inl (sv_self hE.2.2.1 hr))
          · exact absurd rfl w
        · exact absurd (hq q (by omega)).2 w
        · exfalso
          have s := sv_lt hE.2.2.1 hE.2.1.rt.2.1 r hr q b
          rw [askd_or] at c
          rcases c with c | c
          · have := s.1 c; omega
          · have := s.2 c; omega
      have g := l_want2 (N := N) (J := J) hr hE (r + 1) I' (Nat.le_refl _) hI
      rw [show (((r + 1 : Nat) : Int) - 1) = (r : Int) by omega] at g ⊢
      exact g
    · skip
      refine V.blk [(8, .aload 0, 1), (9, .getfield 10035, 3), (12, .iload 2, 1), (13, .iload 2, 1), (14, .iload 1, 1), (15, .if_icmp .ne 22, 3)] (ps := []) (z' := (brc .ne (p : Int) (r : Int) 22 18, [some (aR 52), some (aI (r : Int)), some (aI (p : Int))], [aI (p : Int), aR 80], MM N I' J)) (by decide +kernel) rfl trivial ?_
      refine V.ne (fun bh3 => ?_) (fun bh4 => ?_)
      · skip
        refine V.blk [(22, .bipush 0, 1), (23, .bastore, 1), (24, .aload 0, 1), (25, .getfield 10036, 3), (28, .iload 2, 1), (29, .bipush 0, 1), (30, .bastore, 1), (31, .iinc 2 1, 3), (34, .goto 2, 3)] (ps := [0 ≤ (p : Int) ∧ (p : Int) < 64, 0 ≤ 0 ∧ 0 ≤ 1, 0 ≤ (p : Int) ∧ (p : Int) < 64, 0 ≤ 0 ∧ 0 ≤ 1, inR ((p : Int) + 1)]) (z' := (2, [some (aR 52), some (aI (r : Int)), some (aI ((p + 1 : Nat) : Int))], [], MM N (ma (ma I' 80 (ma (I' 80) p 0)) 81 (ma ((ma I' 80 (ma (I' 80) p 0)) 81) p 0)) J)) (by decide +kernel) rfl (show (0 ≤ (p : Int) ∧ (p : Int) < 64) ∧ (0 ≤ 0 ∧ 0 ≤ 1) ∧ (0 ≤ (p : Int) ∧ (p : Int) < 64) ∧ (0 ≤ 0 ∧ 0 ≤ 1) ∧ (inR ((p : Int) + 1)) from ⟨(by omega), (by omega), (by omega), (by omega), (by unfold inR; omega)⟩) ?_
        refine V.nI (fun I5 eI5 => ?_)
        refine ih (p + 1) I5 (by omega) (by omega) (fun i a b => by rw [eI5]; simp only [ma_ne, ne_eq, a, b, not_false_eq_true]; exact ho i a b) (fun q hq2 => ?_)
        rw [eI5]
        simp only [ma_self, ma_ne, ne_eq, reduceCtorEq, not_false_eq_true, Nat.reduceEqDiff]
        by_cases e : q = p
        · subst e
          rw [ma_self, ma_self]
          refine ⟨?_, rfl⟩
          first
            | rw [if_pos (by omega)]
            | rw [if_neg (by omega)]
        · rw [ma_ne _ _ e, ma_ne _ _ e]
          exact hq q (by omega)
      · skip
        refine V.blk [(18, .bipush 1, 1), (19, .goto 23, 3), (23, .bastore, 1), (24, .aload 0, 1), (25, .getfield 10036, 3), (28, .iload 2, 1), (29, .bipush 0, 1), (30, .bastore, 1), (31, .iinc 2 1, 3), (34, .goto 2, 3)] (ps := [0 ≤ (p : Int) ∧ (p : Int) < 64, 0 ≤ 1 ∧ 1 ≤ 1, 0 ≤ (p : Int) ∧ (p : Int) < 64, 0 ≤ 0 ∧ 0 ≤ 1, inR ((p : Int) + 1)]) (z' := (2, [some (aR 52), some (aI (r : Int)), some (aI ((p + 1 : Nat) : Int))], [], MM N (ma (ma I' 80 (ma (I' 80) p 1)) 81 (ma ((ma I' 80 (ma (I' 80) p 1)) 81) p 0)) J)) (by decide +kernel) rfl (show (0 ≤ (p : Int) ∧ (p : Int) < 64) ∧ (0 ≤ 1 ∧ 1 ≤ 1) ∧ (0 ≤ (p : Int) ∧ (p : Int) < 64) ∧ (0 ≤ 0 ∧ 0 ≤ 1) ∧ (inR ((p : Int) + 1)) from ⟨(by omega), (by omega), (by omega), (by omega), (by unfold inR; omega)⟩) ?_
        refine V.nI (fun I6 eI6 => ?_)
        refine ih (p + 1) I6 (by omega) (by omega) (fun i a b => by rw [eI6]; simp only [ma_ne, ne_eq, a, b, not_false_eq_true]; exact ho i a b) (fun q hq2 => ?_)
        rw [eI6]
        simp only [ma_self, ma_ne, ne_eq, reduceCtorEq, not_false_eq_true, Nat.reduceEqDiff]
        by_cases e : q = p
        · subst e
          rw [ma_self, ma_self]
          refine ⟨?_, rfl⟩
          first
            | rw [if_pos (by omega)]
            | rw [if_neg (by omega)]
        · rw [ma_ne _ _ e, ma_ne _ _ e]
          exact hq q (by omega)
theorem m_want {N : Nat} {I : MI} {J : MJ} {K : MI} {L : MJ} {r : Nat} (hr : r < 64) (hE : EdH K L I) : CT 126 [aR 52, aI (r : Int)] (MM N I J) (fun rv M' => rv = none ∧ ∃ I', M' = MM N I' J ∧ (∀ i, i ≠ 80 → i ≠ 81 → I' i = I i) ∧ ∀ q, q < 64 → (I' 80 q ≠ 0 ↔ askd L r q = true) ∧ (I' 81 q ≠ 0 ↔ tb (L 9 r) q = true)) := by
  refine CT.ofV (n := 3) (ls := [some (aR 52), some (aI (r : Int)), none]) rfl rfl rfl ?_
  refine V.blk [(0, .bipush 0, 1), (1, .istore 2, 1)] (ps := []) (z' := (2, [some (aR 52), some (aI (r : Int)), some (aI 0)], [], MM N I J)) (by decide +kernel) rfl trivial ?_
  exact l_want1 hr hE 66 0 I (by omega) (by omega) (fun _ _ _ => rfl) (fun q hq => by omega)
def edU (I : MI) (n m ov : Int) : MI := if ov = 0 then ma I 78 (ma (I 78) (48 * n + m).toNat 1) else ma (ma I 78 (ma (I 78) (48 * n + m).toNat 1)) 79 (ma (I 79) (48 * n + m).toNat 1)
theorem m_edge {N : Nat} {I : MI} {J : MJ} {n m ov : Int} (hn : 0 ≤ n ∧ n < 48) (hm : 0 ≤ m ∧ m < 48) : CT 125 [aR 52, aI n, aI m, aI ov] (MM N I J) (QV N J (edU I n m ov)) := by
  refine CT.ofV (n := 4) (ls := [some (aR 52), some (aI n), some (aI m), some (aI ov)]) rfl rfl rfl ?_
  refine V.blk [(0, .aload 0, 1), (1, .getfield 10033, 3), (4, .bipush 48, 2), (6, .iload 1, 1), (7, .imul, 1), (8, .iload 2, 1), (9, .iadd, 1), (10, .bipush 1, 1), (11, .bastore, 1), (12, .iload 3, 1), (13, .ifCond .eq 28, 3)] (ps := [inR (48 * n), inR ((48 * n) + m), 0 ≤ ((48 * n) + m) ∧ ((48 * n) + m) < 2304, 0 ≤ 1 ∧ 1 ≤ 1]) (z' := (brc .eq ov 0 28 16, [some (aR 52), some (aI n), some (aI m), some (aI ov)], [], MM N (ma I 78 (ma (I 78) (((48 * n) + m).toNat) 1)) J)) (by decide +kernel) rfl (show (inR (48 * n)) ∧ (inR ((48 * n) + m)) ∧ (0 ≤ ((48 * n) + m) ∧ ((48 * n) + m) < 2304) ∧ (0 ≤ 1 ∧ 1 ≤ 1) from ⟨(by unfold inR; omega), (by unfold inR; omega), (by omega), (by omega)⟩) ?_
  refine V.nI (fun I1 eI1 => ?_)
  refine V.eq (fun bh2 => ?_) (fun bh3 => ?_)
  · skip
    refine V.rv (by decide +kernel) ?_
    refine ⟨rfl, congrArg (fun w => MM N w J) ?_⟩
    unfold edU
    first
      | rw [if_pos (by assumption)]
      | rw [if_neg (by assumption)]
    subst_vars
    rfl
  · skip
    refine V.blk [(16, .aload 0, 1), (17, .getfield 10034, 3), (20, .bipush 48, 2), (22, .iload 1, 1), (23, .imul, 1), (24, .iload 2, 1), (25, .iadd, 1), (26, .bipush 1, 1), (27, .bastore, 1)] (ps := [inR (48 * n), inR ((48 * n) + m), 0 ≤ ((48 * n) + m) ∧ ((48 * n) + m) < 2304, 0 ≤ 1 ∧ 1 ≤ 1]) (z' := (28, [some (aR 52), some (aI n), some (aI m), some (aI ov)], [], MM N (ma I1 79 (ma (I1 79) (((48 * n) + m).toNat) 1)) J)) (by decide +kernel) rfl (show (inR (48 * n)) ∧ (inR ((48 * n) + m)) ∧ (0 ≤ ((48 * n) + m) ∧ ((48 * n) + m) < 2304) ∧ (0 ≤ 1 ∧ 1 ≤ 1) from ⟨(by unfold inR; omega), (by unfold inR; omega), (by omega), (by omega)⟩) ?_
    refine V.nI (fun I4 eI4 => ?_)
    refine V.rv (by decide +kernel) ?_
    refine ⟨rfl, congrArg (fun w => MM N w J) ?_⟩
    unfold edU
    first
      | rw [if_pos (by assumption)]
      | rw [if_neg (by assumption)]
    subst_vars
    rfl
/-- the edges of I' are those of I and P's out of knot n; over: if ov -/
def EdR (I : MI) (n : Nat) (P8 P9 : Nat → Prop) (I' : MI) : Prop := ∀ a b, a < 48 → b < 48 → (I' 78 (48 * a + b) ≠ 0 ↔ I 78 (48 * a + b) ≠ 0 ∨ (a = n ∧ P8 b)) ∧ (I' 79 (48 * a + b) ≠ 0 ↔ I 79 (48 * a + b) ≠ 0 ∨ (a = n ∧ P9 b))
theorem edU_ne (I : MI) (n m ov : Int) {i : Nat} (h : i ≠ 78) (g : i ≠ 79) : edU I n m ov i = I i := by
  unfold edU
  split
  · rw [ma_ne _ _ h]
  · rw [ma_ne _ _ g, ma_ne _ _ h]
theorem EdR.one {I : MI} {n m : Nat} {ov : Int} (hn : n < 48) (hm : m < 48) : EdR I n (fun b => b = m) (fun b => ov ≠ 0 ∧ b = m) (edU I n m ov) := by
  intro a b ha hb
  have e : ((48 * a + b = ((48 * (n : Int) + m)).toNat) ↔ (a = n ∧ b = m)) := by omega
  unfold edU
  constructor
  · have : (if ov = 0 then ma I 78 (ma (I 78) (48 * (n : Int) + m).toNat 1) else ma (ma I 78 (ma (I 78) (48 * (n : Int) + m).toNat 1)) 79 (ma (I 79) (48 * (n : Int) + m).toNat 1)) 78 (48 * a + b) = if 48 * a + b = (48 * (n : Int) + m).toNat then 1 else I 78 (48 * a + b) := by
      split
      · rw [ma_self]; rfl
      · rw [ma_ne _ _ (by decide), ma_self]; rfl
    rw [this]
    split
    · rename_i w
      exact ⟨fun _ => Or.inr (e.mp w), fun _ => by decide⟩
    · rename_i w
      exact ⟨fun q => Or.inl q, fun q => q.elim id fun q => absurd (e.mpr q) w⟩
  · by_cases h0 : ov = 0
    · rw [if_pos h0, ma_ne _ _ (by decide)]
      exact ⟨fun q => Or.inl q, fun q => q.elim id fun q => absurd h0 q.2.1⟩
    · rw [if_neg h0, ma_self]
      show (if 48 * a + b = (48 * (n : Int) + m).toNat then 1 else I 79 (48 * a + b)) ≠ 0 ↔ _
      split
      · rename_i w
        exact ⟨fun _ => Or.inr ⟨(e.mp w).1, h0, (e.mp w).2⟩, fun _ => by decide⟩
      · rename_i w
        exact ⟨fun q => Or.inl q, fun q => q.elim id fun q => absurd (e.mpr ⟨q.1, q.2.2⟩) w⟩
theorem EdR.zero {I : MI} {n : Nat} : EdR I n (fun _ => False) (fun _ => False) I := fun a b _ _ => by simp
theorem EdR.trans {I I1 I2 : MI} {n : Nat} {P Q P' Q' R S : Nat → Prop} (h : EdR I n P Q I1) (g : EdR I1 n P' Q' I2) (hr : ∀ b, b < 48 → (R b ↔ P b ∨ P' b)) (hs : ∀ b, b < 48 → (S b ↔ Q b ∨ Q' b)) : EdR I n R S I2 := fun a b ha hb => by
  have h := h a b ha hb
  have g := g a b ha hb
  rw [g.1, g.2, h.1, h.2, hr b hb, hs b hb]
  constructor
  · constructor
    · rintro ((h | h) | h)
      · exact Or.inl h
      · exact Or.inr ⟨h.1, Or.inl h.2⟩
      · exact Or.inr ⟨h.1, Or.inr h.2⟩
    · rintro (h | ⟨h, h2 | h2⟩)
      · exact Or.inl (Or.inl h)
      · exact Or.inl (Or.inr ⟨h, h2⟩)
      · exact Or.inr ⟨h, h2⟩
  · constructor
    · rintro ((h | h) | h)
      · exact Or.inl h
      · exact Or.inr ⟨h.1, Or.inl h.2⟩
      · exact Or.inr ⟨h.1, Or.inr h.2⟩
    · rintro (h | ⟨h, h2 | h2⟩)
      · exact Or.inl (Or.inl h)
      · exact Or.inl (Or.inr ⟨h, h2⟩)
      · exact Or.inr ⟨h, h2⟩
theorem EdR.iff {I I1 : MI} {n : Nat} {P Q R S : Nat → Prop} (h : EdR I n P Q I1) (hr : ∀ b, b < 48 → (R b ↔ P b)) (hs : ∀ b, b < 48 → (S b ↔ Q b)) : EdR I n R S I1 := fun a b ha hb => by
  rw [hr b hb, hs b hb]; exact h a b ha hb
/-- a club that is told of a knot -/
def clU (K : MI) (th rl u : Int) (n i : Nat) : Prop := 1000 ≤ u ∧ kn K (th * 8 + rl) = n ∧ kn K (clubOf u) = i
def cbP (K : MI) (m n i : Nat) : Prop := ∃ p : Nat, p < m ∧ clU K (K 11 p) (K 12 p) (K 13 p) n i
def cbA (K : MI) (m n i : Nat) : Prop := ∃ a : Nat, a < m ∧ K 26 a ≠ -1 ∧ clU K (K 23 a) (K 24 a) (K 25 a) n i
def cbX (K : MI) (wa : Int) (n i : Nat) : Prop := cbP K (K 10 9).toNat n i ∨ (wa ≠ 0 ∧ cbA K (K 22 4).toNat n i)
theorem kn_of {K : MI} {th rl : Int} (h : 0 ≤ rl ∧ rl < 8) (ht : 0 ≤ th) : kn K (th * 8 + rl) = K 2 th.toNat * 8 + rl := by
  unfold kn
  rw [show (th * 8 + rl) / 8 = th by omega, show (th * 8 + rl) % 8 = rl by omega]
theorem m_clubEdge {N : Nat} {I : MI} {J : MJ} {K : MI} {L : MJ} {n : Nat} {th rl u ov : Int} (hn : n < 48) (hE : EdH K L I) (ht : 0 ≤ th ∧ th < K 1 1) (hrl : 0 ≤ rl ∧ rl < 8) (hu : isUsr (K 1 1) u) : CT 128 [aR 52, aI (n : Int), aI th, aI rl, aI u, aI ov] (MM N I J) (fun rv M' => rv = none ∧ ∃ I', M' = MM N I' J ∧ (∀ i, i ≠ 78 → i ≠ 79 → I' i = I i) ∧ EdR I n (fun b => clU K th rl u n b) (fun b => ov ≠ 0 ∧ clU K th rl u n b) I') := by
  have h40 := hE.1
  have hkd := hE.1.2.2 th.toNat (by have := hE.1.2.1; omega)
  have hk53 := hE.2.2.2.2.2.2.1.2 th.toNat (by omega)
  have hkn := kn_of (K := K) hrl ht.1
  have hn40 := hE.1.2.1
  refine CT.ofV (n := 7) (ls := [some (aR 52), some (aI (n : Int)), some (aI th), some (aI rl), some (aI u), some (aI ov), none]) rfl rfl rfl ?_
  refine V.blk [(0, .iload 4, 2)] (ps := []) (z' := (2, [some (aR 52), some (aI (n : Int)), some (aI th), some (aI rl), some (aI u), some (aI ov), none], [aI u], MM N I J)) (by decide +kernel) rfl trivial ?_
  refine V.cs (c := 122) (na := 1) [aI u] [] (by decide +kernel) rfl rfl (V.pr (m_X10_isClub) ?_)
  show V 128 (5, [some (aR 52), some (aI (n : Int)), some (aI th), some (aI rl), some (aI u), some (aI ov), none], [aI (b2 (decide (1000 ≤ u)))], MM N I J) _
  refine V.blk [(5, .ifCond .eq 23, 3)] (ps := []) (z' := (brc .eq (b2 (decide (1000 ≤ u))) 0 23 8, [some (aR 52), some (aI (n : Int)), some (aI th), some (aI rl), some (aI u), some (aI ov), none], [], MM N I J)) (by decide +kernel) rfl trivial ?_
  refine V.eq (fun bh1 => ?_) (fun bh2 => ?_)
  · skip
    try simp only [b2_cast, b2_ncast, Classical.not_not, lcm_lt, lcm_ge, lcm_gt, lcm_le, lcm_eq] at bh1
    refine V.rv (by decide +kernel) ?_
    refine ⟨rfl, I, rfl, fun _ _ _ => rfl, EdR.zero.iff (fun b _ => ?_) (fun b _ => ?_)⟩
    · refine ⟨fun w => ?_, fun w => w.elim⟩
      obtain ⟨w1, w2, w3⟩ := w
      omega
    · refine ⟨fun w => ?_, fun w => w.elim⟩
      obtain ⟨w0, w1, w2, w3⟩ := w
      omega
  · skip
    try simp only [b2_cast, b2_ncast, Classical.not_not, lcm_lt, lcm_ge, lcm_gt, lcm_le, lcm_eq] at bh2
    refine V.blk [(8, .aload 0, 1), (9, .getfield 10000, 3), (12, .iload 2, 1), (13, .iaload, 1), (14, .bipush 8, 2), (16, .imul, 1), (17, .iload 3, 1), (18, .iadd, 1), (19, .iload 1, 1), (20, .if_icmp .eq 24, 3)] (ps := [0 ≤ th ∧ th < 40, inR ((I 53 ((th).toNat)) * 8), inR (((I 53 ((th).toNat)) * 8) + rl)]) (z' := (brc .eq (((I 53 ((th).toNat)) * 8) + rl) (n : Int) 24 23, [some (aR 52), some (aI (n : Int)), some (aI th), some (aI rl), some (aI u), some (aI ov), none], [], MM N I J)) (by decide +kernel) rfl (show (0 ≤ th ∧ th < 40) ∧ (inR ((I 53 ((th).toNat)) * 8)) ∧ (inR (((I 53 ((th).toNat)) * 8) + rl)) from ⟨(by first | omega | (rw [e1, hk532]; omega)), (by unfold inR; first | omega | (rw [e1, hk532]; omega)), (by unfold inR; first | omega | (rw [e1, hk532]; omega))⟩) ?_
    refine V.eq (fun bh3 => ?_) (fun bh4 => ?_)
    · skip
      try simp only [b2_cast, b2_ncast, Classical.not_not, lcm_lt, lcm_ge, lcm_gt, lcm_le, lcm_eq] at bh3
      have hu2 : 1000 ≤ u := by omega
      have hu3 : (u - 1000) / 10 < K 1 1 ∧ (u - 1000) % 10 < 8 ∧ 0 ≤ (u - 1000) / 10 ∧ 0 ≤ (u - 1000) % 10 := by
        rcases hu with w | w | w <;> omega
      have hcl : clubOf u = (u - 1000) / 10 * 8 + (u - 1000) % 10 := by unfold clubOf; rw [if_pos hu2]
      have hkd2 := hE.1.2.2 ((u - 1000) / 10).toNat (by omega)
      have hk532 := hE.2.2.2.2.2.2.1.2 ((u - 1000) / 10).toNat (by omega)
      have hkc := kn_of (K := K) (th := (u - 1000) / 10) (rl := (u - 1000) % 10) (by omega) (by omega)
      rw [← hcl] at hkc
      refine V.blk [(24, .iload 4, 2)] (ps := []) (z' := (26, [some (aR 52), some (aI (n : Int)), some (aI th), some (aI rl), some (aI u), some (aI ov), none], [aI u], MM N I J)) (by decide +kernel) rfl trivial ?_
      refine V.cs (c := 123) (na := 1) [aI u] [] (by decide +kernel) rfl rfl (V.pr (m_X10_clubCell (by omega)) ?_)
      show V 128 (29, [some (aR 52), some (aI (n : Int)), some (aI th), some (aI rl), some (aI u), some (aI ov), none], [aI ((u - 1000) / 10 * 8 + (u - 1000) % 10)], MM N I J) _
      refine V.blk [(29, .istore 6, 2), (31, .aload 0, 1), (32, .iload 1, 1), (33, .aload 0, 1), (34, .getfield 10000, 3), (37, .iload 6, 2), (39, .bipush 8, 2), (41, .idiv, 1)] (ps := [0 ≤ ((u - 1000) / 10 * 8 + (u - 1000) % 10) ∧ 0 < 8]) (z' := (42, [some (aR 52), some (aI (n : Int)), some (aI th), some (aI rl), some (aI u), some (aI ov), some (aI ((u - 1000) / 10 * 8 + (u - 1000) % 10))], [aI (((u - 1000) / 10 * 8 + (u - 1000) % 10) / 8), aR 53, aI (n : Int), aR 52], MM N I J)) (by decide +kernel) rfl (show (0 ≤ ((u - 1000) / 10 * 8 + (u - 1000) % 10) ∧ 0 < 8) from (by first | omega | (rw [e1, hk532]; omega))) ?_
      have e1 : (((u - 1000) / 10 * 8 + (u - 1000) % 10) / 8).toNat = ((u - 1000) / 10).toNat := by omega
      refine V.blk [(42, .iaload, 1), (43, .bipush 8, 2), (45, .imul, 1), (46, .iload 6, 2), (48, .bipush 8, 2), (50, .irem, 1), (51, .iadd, 1), (52, .iload 5, 2)] (ps := [0 ≤ (((u - 1000) / 10 * 8 + (u - 1000) % 10) / 8) ∧ (((u - 1000) / 10 * 8 + (u - 1000) % 10) / 8) < 40, inR ((I 53 ((((u - 1000) / 10 * 8 + (u - 1000) % 10) / 8).toNat)) * 8), 0 ≤ ((u - 1000) / 10 * 8 + (u - 1000) % 10) ∧ 0 < 8, inR (((I 53 ((((u - 1000) / 10 * 8 + (u - 1000) % 10) / 8).toNat)) * 8) + (((u - 1000) / 10 * 8 + (u - 1000) % 10) % 8))]) (z' := (54, [some (aR 52), some (aI (n : Int)), some (aI th), some (aI rl), some (aI u), some (aI ov), some (aI ((u - 1000) / 10 * 8 + (u - 1000) % 10))], [aI ov, aI (((I 53 ((((u - 1000) / 10 * 8 + (u - 1000) % 10) / 8).toNat)) * 8) + (((u - 1000) / 10 * 8 + (u - 1000) % 10) % 8)), aI (n : Int), aR 52], MM N I J)) (by decide +kernel) rfl (show (0 ≤ (((u - 1000) / 10 * 8 + (u - 1000) % 10) / 8) ∧ (((u - 1000) / 10 * 8 + (u - 1000) % 10) / 8) < 40) ∧ (inR ((I 53 ((((u - 1000) / 10 * 8 + (u - 1000) % 10) / 8).toNat)) * 8)) ∧ (0 ≤ ((u - 1000) / 10 * 8 + (u - 1000) % 10) ∧ 0 < 8) ∧ (inR (((I 53 ((((u - 1000) / 10 * 8 + (u - 1000) % 10) / 8).toNat)) * 8) + (((u - 1000) / 10 * 8 + (u - 1000) % 10) % 8))) from ⟨(by first | omega | (rw [e1, hk532]; omega)), (by unfold inR; first | omega | (rw [e1, hk532]; omega)), (by first | omega | (rw [e1, hk532]; omega)), (by unfold inR; first | omega | (rw [e1, hk532]; omega))⟩) ?_
      refine V.cv (c := 125) (na := 4) (o := 10) (a := 52) [aI ov, aI (((I 53 ((((u - 1000) / 10 * 8 + (u - 1000) % 10) / 8).toNat)) * 8) + (((u - 1000) / 10 * 8 + (u - 1000) % 10) % 8)), aI (n : Int)] [] (by decide +kernel) rfl rfl rfl rfl rfl ((m_edge (by omega) (by
        rw [e1, hk532]
        omega)).mono (fun rv M1 q => ?_))
      obtain ⟨rfl, rfl⟩ := q
      show V 128 (57, [some (aR 52), some (aI (n : Int)), some (aI th), some (aI rl), some (aI u), some (aI ov), some (aI ((u - 1000) / 10 * 8 + (u - 1000) % 10))], [], MM N ((edU I (n : Int) (((I 53 ((((u - 1000) / 10 * 8 + (u - 1000) % 10) / 8).toNat)) * 8) + (((u - 1000) / 10 * 8 + (u - 1000) % 10) % 8)) ov)) J) _
      refine V.nI (fun I5 eI5 => ?_)
      refine V.rv (by decide +kernel) ?_
      have eM : I 53 (((u - 1000) / 10 * 8 + (u - 1000) % 10) / 8).toNat * 8 + ((u - 1000) / 10 * 8 + (u - 1000) % 10) % 8 = ((kn K (clubOf u)).toNat : Nat) := by
        rw [e1, hk532, hkc]
        omega
      have hm48 : (kn K (clubOf u)).toNat < 48 := by omega
      refine ⟨rfl, edU I n (kn K (clubOf u)).toNat ov, ?_, fun i a b => edU_ne _ _ _ _ a b, (EdR.one hn hm48).iff (fun b _ => ?_) (fun b _ => ?_)⟩
      · subst_vars
        rw [eM]
      · unfold clU; omega
      · unfold clU; omega
    · skip
      try simp only [b2_cast, b2_ncast, Classical.not_not, lcm_lt, lcm_ge, lcm_gt, lcm_le, lcm_eq] at bh4
      refine V.rv (by decide +kernel) ?_
      refine ⟨rfl, I, rfl, fun _ _ _ => rfl, EdR.zero.iff (fun b _ => ?_) (fun b _ => ?_)⟩
      · refine ⟨fun w => ?_, fun w => w.elim⟩
        obtain ⟨w1, w2, w3⟩ := w
        omega
      · refine ⟨fun w => ?_, fun w => w.elim⟩
        obtain ⟨w0, w1, w2, w3⟩ := w
        omega
theorem cbP_s {K : MI} {m n i : Nat} : cbP K (m + 1) n i ↔ cbP K m n i ∨ clU K (K 11 m) (K 12 m) (K 13 m) n i := ex_s
theorem cbA_s {K : MI} {m n i : Nat} : cbA K (m + 1) n i ↔ cbA K m n i ∨ (K 26 m ≠ -1 ∧ clU K (K 23 m) (K 24 m) (K 25 m) n i) := ex_s
theorem l_cluA {N : Nat} {I : MI} {J : MJ} {K : MI} {L : MJ} {n : Nat} {ov : Int} (hn : n < 48) (hE : EdH K L I) : ∀ (k a : Nat) (I' : MI), K 22 4 + 1 ≤ (k : Int) + a → (a : Int) ≤ K 22 4 → (∀ i, i ≠ 78 → i ≠ 79 → I' i = I i) → EdR I n (fun b => cbP K (K 10 9).toNat n b ∨ (I 52 37 ≠ 0 ∧ cbA K a n b)) (fun b => ov ≠ 0 ∧ (cbP K (K 10 9).toNat n b ∨ (I 52 37 ≠ 0 ∧ cbA K a n b))) I' → V 129 (42, [some (aR 52), some (aI (n : Int)), some (aI ov), some (aI (a : Int))], [], MM N I' J) (fun rv M' => rv = none ∧ ∃ I', M' = MM N I' J ∧ (∀ i, i ≠ 78 → i ≠ 79 → I' i = I i) ∧ EdR I n (fun b => cbX K (I 52 37) n b) (fun b => ov ≠ 0 ∧ cbX K (I 52 37) n b) I') := by
  intro k
  induction k with
  | zero => intro a I' h1 h2; exfalso; omega
  | succ k ih =>
    intro a I' h1 h2 ho hR
    have hE2 : EdH K L I' := hE.keep0 fun i b => ho i (by omega) (by omega)
    have h29 : I' 52 29 = K 22 4 := hE2.2.2.2.2.2.2.2.2.2.1
    have h37 : I' 52 37 = I 52 37 := by rw [ho 52 (by decide) (by decide)]
    have hD := hE.2.2.2.2.2.1
    have hA := fun q => hE2.2.2.2.2.2.2.2.2.2.2.2.1 a q
    have hW := fun q => hD.2.2.2.2.1 a q
    have hd20 := hD.2.1
    refine V.blk [(42, .iload 3, 1), (43, .aload 0, 1), (44, .getfield 10029, 3), (47, .if_icmp .ge 96, 3)] (ps := []) (z' := (brc .ge (a : Int) (I' 52 29) 96 50, [some (aR 52), some (aI (n : Int)), some (aI ov), some (aI (a : Int))], [], MM N I' J)) (by decide +kernel) rfl trivial ?_
    refine V.ge (fun bh1 => ?_) (fun bh2 => ?_)
    · skip
      try simp only [b2_cast, b2_ncast, Classical.not_not, lcm_lt, lcm_ge, lcm_gt, lcm_le, lcm_eq] at bh1
      refine V.rv (by decide +kernel) ?_
      refine ⟨rfl, I', rfl, ho, hR.iff (fun b _ => ?_) (fun b _ => ?_)⟩
      · unfold cbX
        first
          | (rw [show (K 22 4).toNat = a by omega])
          | (have h0 : I 52 37 = 0 := by omega
             simp [h0])
      · unfold cbX
        first
          | (rw [show (K 22 4).toNat = a by omega])
          | (have h0 : I 52 37 = 0 := by omega
             simp [h0])
    · skip
      try simp only [b2_cast, b2_ncast, Classical.not_not, lcm_lt, lcm_ge, lcm_gt, lcm_le, lcm_eq] at bh2
      refine V.blk [(50, .aload 0, 1), (51, .getfield 10037, 3), (54, .ifCond .eq 96, 3)] (ps := []) (z' := (brc .eq (I' 52 37) 0 96 57, [some (aR 52), some (aI (n : Int)), some (aI ov), some (aI (a : Int))], [], MM N I' J)) (by decide +kernel) rfl trivial ?_
      refine V.eq (fun bh3 => ?_) (fun bh4 => ?_)
      · skip
        try simp only [b2_cast, b2_ncast, Classical.not_not, lcm_lt, lcm_ge, lcm_gt, lcm_le, lcm_eq] at bh3
        refine V.rv (by decide +kernel) ?_
        refine ⟨rfl, I', rfl, ho, hR.iff (fun b _ => ?_) (fun b _ => ?_)⟩
        · unfold cbX
          first
            | (rw [show (K 22 4).toNat = a by omega])
            | (have h0 : I 52 37 = 0 := by omega
               simp [h0])
        · unfold cbX
          first
            | (rw [show (K 22 4).toNat = a by omega])
            | (have h0 : I 52 37 = 0 := by omega
               simp [h0])
      · skip
        try simp only [b2_cast, b2_ncast, Classical.not_not, lcm_lt, lcm_ge, lcm_gt, lcm_le, lcm_eq] at bh4
        have hlt : (a : Int) < K 22 4 := by omega
        obtain ⟨a1, a2, a3, a4, a5⟩ := hA hlt
        obtain ⟨w1, w2, w3, w4, w5, w6, w7⟩ := hW hlt
        refine V.blk [(57, .aload 0, 1), (58, .getfield 10020, 3), (61, .iload 3, 1), (62, .baload, 1), (63, .ifCond .eq 90, 3)] (ps := [0 ≤ (a : Int) ∧ (a : Int) < 20]) (z' := (brc .eq (I' 68 a) 0 90 66, [some (aR 52), some (aI (n : Int)), some (aI ov), some (aI (a : Int))], [], MM N I' J)) (by decide +kernel) rfl (show (0 ≤ (a : Int) ∧ (a : Int) < 20) from (by omega)) ?_
        refine V.eq (fun bh5 => ?_) (fun bh6 => ?_)
        · skip
          try simp only [b2_cast, b2_ncast, Classical.not_not, lcm_lt, lcm_ge, lcm_gt, lcm_le, lcm_eq] at bh5
          refine V.blk [(90, .iinc 3 1, 3), (93, .goto 42, 3)] (ps := [inR ((a : Int) + 1)]) (z' := (42, [some (aR 52), some (aI (n : Int)), some (aI ov), some (aI ((a + 1 : Nat) : Int))], [], MM N I' J)) (by decide +kernel) rfl (show (inR ((a : Int) + 1)) from (by unfold inR; omega)) ?_
          have hno : K 26 a = -1 := by
            apply Classical.byContradiction
            intro w
            rw [if_neg w] at a1
            omega
          refine ih (a + 1) I' (by omega) (by omega) ho (hR.iff (fun b _ => ?_) (fun b _ => ?_))
          · rw [cbA_s]
            constructor
            · rintro (w | ⟨w, w2 | ⟨w2, -⟩⟩)
              · exact Or.inl w
              · exact Or.inr ⟨w, w2⟩
              · exact absurd hno w2
            · rintro (w | ⟨w, w2⟩)
              · exact Or.inl w
              · exact Or.inr ⟨w, Or.inl w2⟩
          · rw [cbA_s]
            constructor
            · rintro ⟨w0, w | ⟨w, w2 | ⟨w2, -⟩⟩⟩
              · exact ⟨w0, Or.inl w⟩
              · exact ⟨w0, Or.inr ⟨w, w2⟩⟩
              · exact absurd hno w2
            · rintro ⟨w0, w | ⟨w, w2⟩⟩
              · exact ⟨w0, Or.inl w⟩
              · exact ⟨w0, Or.inr ⟨w, Or.inl w2⟩⟩
        · skip
          try simp only [b2_cast, b2_ncast, Classical.not_not, lcm_lt, lcm_ge, lcm_gt, lcm_le, lcm_eq] at bh6
          refine V.blk [(66, .aload 0, 1), (67, .iload 1, 1), (68, .aload 0, 1), (69, .getfield 10022, 3), (72, .iload 3, 1), (73, .iaload, 1), (74, .aload 0, 1), (75, .getfield 10023, 3), (78, .iload 3, 1), (79, .iaload, 1), (80, .aload 0, 1), (81, .getfield 10024, 3), (84, .iload 3, 1), (85, .iaload, 1), (86, .iload 2, 1)] (ps := [0 ≤ (a : Int) ∧ (a : Int) < 20, 0 ≤ (a : Int) ∧ (a : Int) < 20, 0 ≤ (a : Int) ∧ (a : Int) < 20]) (z' := (87, [some (aR 52), some (aI (n : Int)), some (aI ov), some (aI (a : Int))], [aI ov, aI (I' 72 a), aI (I' 71 a), aI (I' 70 a), aI (n : Int), aR 52], MM N I' J)) (by decide +kernel) rfl (show (0 ≤ (a : Int) ∧ (a : Int) < 20) ∧ (0 ≤ (a : Int) ∧ (a : Int) < 20) ∧ (0 ≤ (a : Int) ∧ (a : Int) < 20) from ⟨(by omega), (by omega), (by omega)⟩) ?_
          refine V.cv (c := 128) (na := 6) (o := 10) (a := 52) [aI ov, aI (I' 72 a), aI (I' 71 a), aI (I' 70 a), aI (n : Int)] [] (by decide +kernel) rfl rfl rfl rfl rfl ((m_clubEdge hn hE2 (by omega) (by omega) (by rw [a4]; exact w5)).mono (fun rv M1 q => ?_))
          obtain ⟨rfl, IC, rfl, c1, c2⟩ := q
          rw [a2, a3, a4] at c2
          show V 129 (90, [some (aR 52), some (aI (n : Int)), some (aI ov), some (aI (a : Int))], [], MM N IC J) _
          refine V.blk [(90, .iinc 3 1, 3), (93, .goto 42, 3)] (ps := [inR ((a : Int) + 1)]) (z' := (42, [some (aR 52), some (aI (n : Int)), some (aI ov), some (aI ((a + 1 : Nat) : Int))], [], MM N IC J)) (by decide +kernel) rfl (show (inR ((a : Int) + 1)) from (by unfold inR; omega)) ?_
          have hyes : K 26 a ≠ -1 := by
            intro w
            rw [if_pos w] at a1
            omega
          have h37n : I 52 37 ≠ 0 := by omega
          refine ih (a + 1) IC (by omega) (by omega) (fun i x y => (c1 i x y).trans (ho i x y)) (hR.trans c2 (fun b _ => ?_) (fun b _ => ?_))
          · rw [cbA_s]
            constructor
            · rintro (w | ⟨w, w2 | ⟨-, w2⟩⟩)
              · exact Or.inl (Or.inl w)
              · exact Or.inl (Or.inr ⟨w, w2⟩)
              · exact Or.inr w2
            · rintro ((w | ⟨w, w2⟩) | w)
              · exact Or.inl w
              · exact Or.inr ⟨w, Or.inl w2⟩
              · exact Or.inr ⟨h37n, Or.inr ⟨hyes, w⟩⟩
          · rw [cbA_s]
            constructor
            · rintro ⟨w0, w | ⟨w, w2 | ⟨-, w2⟩⟩⟩
              · exact Or.inl ⟨w0, Or.inl w⟩
              · exact Or.inl ⟨w0, Or.inr ⟨w, w2⟩⟩
              · exact Or.inr ⟨w0, w2⟩
            · rintro (⟨w0, w | ⟨w, w2⟩⟩ | ⟨w0, w⟩)
              · exact ⟨w0, Or.inl w⟩
              · exact ⟨w0, Or.inr ⟨w, Or.inl w2⟩⟩
              · exact ⟨w0, Or.inr ⟨h37n, Or.inr ⟨hyes, w⟩⟩⟩
theorem l_cluP {N : Nat} {I : MI} {J : MJ} {K : MI} {L : MJ} {n : Nat} {ov : Int} (hn : n < 48) (hE : EdH K L I) : ∀ (k p : Nat) (I' : MI), K 10 9 + 1 ≤ (k : Int) + p → (p : Int) ≤ K 10 9 → (∀ i, i ≠ 78 → i ≠ 79 → I' i = I i) → EdR I n (fun b => cbP K p n b) (fun b => ov ≠ 0 ∧ cbP K p n b) I' → V 129 (2, [some (aR 52), some (aI (n : Int)), some (aI ov), some (aI (p : Int))], [], MM N I' J) (fun rv M' => rv = none ∧ ∃ I', M' = MM N I' J ∧ (∀ i, i ≠ 78 → i ≠ 79 → I' i = I i) ∧ EdR I n (fun b => cbX K (I 52 37) n b) (fun b => ov ≠ 0 ∧ cbX K (I 52 37) n b) I') := by
  intro k
  induction k with
  | zero => intro p I' h1 h2; exfalso; omega
  | succ k ih =>
    intro p I' h1 h2 ho hR
    have hE2 : EdH K L I' := hE.keep0 fun i b => ho i (by omega) (by omega)
    have h13 : I' 52 13 = K 10 9 := hE2.2.2.2.2.2.2.2.2.1.1
    have hP := fun q => hE2.2.2.2.2.2.2.2.2.1.2 p q
    have hW := fun q => hE.2.2.2.1 p q
    have hm4 := hE.2.2.2.2.1
    refine V.blk [(2, .iload 3, 1), (3, .aload 0, 1), (4, .getfield 10013, 3), (7, .if_icmp .ge 40, 3)] (ps := []) (z' := (brc .ge (p : Int) (I' 52 13) 40 10, [some (aR 52), some (aI (n : Int)), some (aI ov), some (aI (p : Int))], [], MM N I' J)) (by decide +kernel) rfl trivial ?_
    refine V.ge (fun bh1 => ?_) (fun bh2 => ?_)
    · skip
      try simp only [b2_cast, b2_ncast, Classical.not_not, lcm_lt, lcm_ge, lcm_gt, lcm_le, lcm_eq] at bh1
      refine V.blk [(40, .bipush 0, 1), (41, .istore 3, 1)] (ps := []) (z' := (42, [some (aR 52), some (aI (n : Int)), some (aI ov), some (aI 0)], [], MM N I' J)) (by decide +kernel) rfl trivial ?_
      have e : (K 10 9).toNat = p := by omega
      have hz : ∀ b, ¬ cbA K 0 n b := fun b w => by obtain ⟨q, hq, -⟩ := w; omega
      refine l_cluA hn hE ((K 22 4).toNat + 1) 0 I' (by have := hE.2.2.2.2.2.1.1; omega) (by have := hE.2.2.2.2.2.1.1; omega) ho (hR.iff (fun b _ => ?_) (fun b _ => ?_))
      · rw [e]; simp [hz]
      · rw [e]; simp [hz]
    · skip
      try simp only [b2_cast, b2_ncast, Classical.not_not, lcm_lt, lcm_ge, lcm_gt, lcm_le, lcm_eq] at bh2
      have hlt : (p : Int) < K 10 9 := by omega
      obtain ⟨a1, a2, a3, -⟩ := hP hlt
      obtain ⟨w1, w2, w3, w4, w5, -⟩ := hW hlt
      refine V.blk [(10, .aload 0, 1), (11, .iload 1, 1), (12, .aload 0, 1), (13, .getfield 10007, 3), (16, .iload 3, 1), (17, .iaload, 1), (18, .aload 0, 1), (19, .getfield 10008, 3), (22, .iload 3, 1), (23, .iaload, 1), (24, .aload 0, 1), (25, .getfield 10009, 3), (28, .iload 3, 1), (29, .iaload, 1), (30, .iload 2, 1)] (ps := [0 ≤ (p : Int) ∧ (p : Int) < 420, 0 ≤ (p : Int) ∧ (p : Int) < 420, 0 ≤ (p : Int) ∧ (p : Int) < 420]) (z' := (31, [some (aR 52), some (aI (n : Int)), some (aI ov), some (aI (p : Int))], [aI ov, aI (I' 61 p), aI (I' 60 p), aI (I' 59 p), aI (n : Int), aR 52], MM N I' J)) (by decide +kernel) rfl (show (0 ≤ (p : Int) ∧ (p : Int) < 420) ∧ (0 ≤ (p : Int) ∧ (p : Int) < 420) ∧ (0 ≤ (p : Int) ∧ (p : Int) < 420) from ⟨(by omega), (by omega), (by omega)⟩) ?_
      refine V.cv (c := 128) (na := 6) (o := 10) (a := 52) [aI ov, aI (I' 61 p), aI (I' 60 p), aI (I' 59 p), aI (n : Int)] [] (by decide +kernel) rfl rfl rfl rfl rfl ((m_clubEdge hn hE2 (by omega) (by omega) (by rw [a3]; exact w5)).mono (fun rv M1 q => ?_))
      obtain ⟨rfl, IC, rfl, c1, c2⟩ := q
      rw [a1, a2, a3] at c2
      show V 129 (34, [some (aR 52), some (aI (n : Int)), some (aI ov), some (aI (p : Int))], [], MM N IC J) _
      refine V.blk [(34, .iinc 3 1, 3), (37, .goto 2, 3)] (ps := [inR ((p : Int) + 1)]) (z' := (2, [some (aR 52), some (aI (n : Int)), some (aI ov), some (aI ((p + 1 : Nat) : Int))], [], MM N IC J)) (by decide +kernel) rfl (show (inR ((p : Int) + 1)) from (by unfold inR; omega)) ?_
      refine ih (p + 1) IC (by omega) (by omega) (fun i x y => (c1 i x y).trans (ho i x y)) (hR.trans c2 (fun b _ => cbP_s) (fun b _ => ?_))
      rw [cbP_s]
      exact and_or_left
theorem m_clubEdges {N : Nat} {I : MI} {J : MJ} {K : MI} {L : MJ} {n : Nat} {ov : Int} (hn : n < 48) (hE : EdH K L I) : CT 129 [aR 52, aI (n : Int), aI ov] (MM N I J) (fun rv M' => rv = none ∧ ∃ I', M' = MM N I' J ∧ (∀ i, i ≠ 78 → i ≠ 79 → I' i = I i) ∧ EdR I n (fun b => cbX K (I 52 37) n b) (fun b => ov ≠ 0 ∧ cbX K (I 52 37) n b) I') := by
  refine CT.ofV (n := 4) (ls := [some (aR 52), some (aI (n : Int)), some (aI ov), none]) rfl rfl rfl ?_
  refine V.blk [(0, .bipush 0, 1), (1, .istore 3, 1)] (ps := []) (z' := (2, [some (aR 52), some (aI (n : Int)), some (aI ov), some (aI 0)], [], MM N I J)) (by decide +kernel) rfl trivial ?_
  have hz : ∀ b, ¬ cbP K 0 n b := fun b w => by obtain ⟨q, hq, -⟩ := w; omega
  exact l_cluP hn hE ((K 10 9).toNat + 1) 0 I (by have := hE.2.2.2.2.1; omega) (by have := hE.2.2.2.2.1; omega) (fun _ _ _ => rfl) (EdR.zero.iff (fun b _ => by simp [hz]) (fun b _ => by simp [hz]))
