/-! ===== the class: rules and what leads to what ===== -/
theorem c_X9_hasBit {N : Nat} {I : MI} {J : MJ} {x : Int64} {k : Nat} (hk : k < 64) : CT 107 [aL (x), aI (k : Int)] (MM N I J) (pure1 N I J (aI (b2 (tb x k)))) := by
  refine CT.ofV (n := 3) (ls := [some (aL (x)), none, some (aI (k : Int))]) rfl rfl rfl ?_
  refine V.blk [(0, .lload 0, 1), (1, .iload 2, 1), (2, .lushr, 1), (3, .jsr_w 1, 1), (4, .land, 1), (5, .jsr_w 0, 1), (6, .lcmp, 1), (7, .ifCond .eq 14, 3)] (ps := [0 ≤ (k : Int) ∧ (k : Int) < 64]) (z' := (brc .eq (lcm ((ushr (x) (k : Int)) &&& (Int64.ofInt 1)) (Int64.ofInt 0)) 0 14 10, [some (aL (x)), none, some (aI (k : Int))], [], MM N I J)) (by decide +kernel) rfl (show (0 ≤ (k : Int) ∧ (k : Int) < 64) from (by omega)) ?_
  refine V.eq (fun h1 => ?_) (fun h2 => ?_)
  · skip
    try simp only [b2_cast, b2_ncast, Classical.not_not, lcm_lt, lcm_ge, lcm_gt, lcm_le, lcm_eq, ushr_0 x hk] at h1
    refine V.blk [(14, .bipush 0, 1)] (ps := []) (z' := (15, [some (aL (x)), none, some (aI (k : Int))], [aI 0], MM N I J)) (by decide +kernel) rfl trivial ?_
    refine V.rz (by decide +kernel) (by first | exact b2_in _ | omega) ?_
    refine ⟨congrArg (fun w => some (aI w)) ?_, rfl⟩
    cases hb : tb x k <;> simp_all [b2]
  · skip
    try simp only [b2_cast, b2_ncast, Classical.not_not, lcm_lt, lcm_ge, lcm_gt, lcm_le, lcm_eq, ushr_0 x hk] at h2
    refine V.blk [(10, .bipush 1, 1), (11, .goto 15, 3)] (ps := []) (z' := (15, [some (aL (x)), none, some (aI (k : Int))], [aI 1], MM N I J)) (by decide +kernel) rfl trivial ?_
    refine V.rz (by decide +kernel) (by first | exact b2_in _ | omega) ?_
    refine ⟨congrArg (fun w => some (aI w)) ?_, rfl⟩
    cases hb : tb x k <;> simp_all [b2]
theorem l_fillJ_32 {N : Nat} {I : MI} {J : MJ} {v : Int64} : ∀ (m k : Nat) (J' : MJ), 49 ≤ m + k → k ≤ 48 → (∀ q, q < k → J' 32 q = v) → (∀ i, i ≠ 32 → J' i = J i) → V 198 (6, [some (aR 32), some (aL (v)), none, some (aI (k : Int)), some (aI 48)], [], MM N I J') (fun r M' => r = none ∧ ∃ J', M' = MM N I J' ∧ (∀ k, k < 48 → J' 32 k = v) ∧ ∀ i, i ≠ 32 → J' i = J i) := by
  intro m
  induction m with
  | zero => intro k J' h1 h2; exfalso; omega
  | succ m ih =>
    intro k J' h1 h2 ha ho
    refine V.blk [(6, .iload 3, 1), (7, .iload 4, 2), (9, .if_icmp .ge 22, 3)] (ps := []) (z' := (brc .ge (k : Int) 48 22 12, [some (aR 32), some (aL (v)), none, some (aI (k : Int)), some (aI 48)], [], MM N I J')) (by decide +kernel) rfl trivial ?_
    refine V.ge (fun h1 => ?_) (fun h2 => ?_)
    · skip
      refine V.rv (by decide +kernel) ?_
      exact ⟨rfl, _, rfl, fun q hq => ha q (by omega), ho⟩
    · skip
      refine V.blk [(12, .aload 0, 1), (13, .iload 3, 1), (14, .lload 1, 1), (15, .lastore, 1), (16, .iinc 3 1, 3), (19, .goto 6, 3)] (ps := [0 ≤ (k : Int) ∧ (k : Int) < 48, inR ((k : Int) + 1)]) (z' := (6, [some (aR 32), some (aL (v)), none, some (aI ((k + 1 : Nat) : Int)), some (aI 48)], [], MM N I (ma J' 32 (ma (J' 32) k (v))))) (by decide +kernel) rfl (show (0 ≤ (k : Int) ∧ (k : Int) < 48) ∧ (inR ((k : Int) + 1)) from ⟨(by omega), (by unfold inR; omega)⟩) ?_
      refine V.nJ (fun J3 eJ3 => ?_)
      refine ih (k + 1) _ (by omega) (by omega) ?_ ?_
      · intro q hq
        subst eJ3
        simp only [ma_self]
        unfold ma
        split
        · rfl
        · exact ha q (by omega)
      · intro i hi
        subst eJ3
        rw [ma_ne _ _ hi]
        exact ho i hi
theorem c_fillJ_32 {N : Nat} {I : MI} {J : MJ} {v : Int64} : CT 198 [aR 32, aL (v)] (MM N I J) (fun r M' => r = none ∧ ∃ J', M' = MM N I J' ∧ (∀ k, k < 48 → J' 32 k = v) ∧ ∀ i, i ≠ 32 → J' i = J i) := by
  refine CT.ofV (n := 5) (ls := [some (aR 32), some (aL (v)), none, none, none]) rfl rfl rfl ?_
  refine V.blk [(0, .bipush 0, 1), (1, .istore 3, 1), (2, .aload 0, 1), (3, .arraylength, 1), (4, .istore 4, 2)] (ps := []) (z' := (6, [some (aR 32), some (aL (v)), none, some (aI 0), some (aI 48)], [], MM N I J)) (by decide +kernel) rfl trivial ?_
  exact l_fillJ_32 49 0 _ (by omega) (by omega) (fun q hq => by omega) (fun i _ => rfl)
theorem l_fillJ_39 {N : Nat} {I : MI} {J : MJ} {v : Int64} : ∀ (m k : Nat) (J' : MJ), 321 ≤ m + k → k ≤ 320 → (∀ q, q < k → J' 39 q = v) → (∀ i, i ≠ 39 → J' i = J i) → V 198 (6, [some (aR 39), some (aL (v)), none, some (aI (k : Int)), some (aI 320)], [], MM N I J') (fun r M' => r = none ∧ ∃ J', M' = MM N I J' ∧ (∀ k, k < 320 → J' 39 k = v) ∧ ∀ i, i ≠ 39 → J' i = J i) := by
  intro m
  induction m with
  | zero => intro k J' h1 h2; exfalso; omega
  | succ m ih =>
    intro k J' h1 h2 ha ho
    refine V.blk [(6, .iload 3, 1), (7, .iload 4, 2), (9, .if_icmp .ge 22, 3)] (ps := []) (z' := (brc .ge (k : Int) 320 22 12, [some (aR 39), some (aL (v)), none, some (aI (k : Int)), some (aI 320)], [], MM N I J')) (by decide +kernel) rfl trivial ?_
    refine V.ge (fun h1 => ?_) (fun h2 => ?_)
    · skip
      refine V.rv (by decide +kernel) ?_
      exact ⟨rfl, _, rfl, fun q hq => ha q (by omega), ho⟩
    · skip
      refine V.blk [(12, .aload 0, 1), (13, .iload 3, 1), (14, .lload 1, 1), (15, .lastore, 1), (16, .iinc 3 1, 3), (19, .goto 6, 3)] (ps := [0 ≤ (k : Int) ∧ (k : Int) < 320, inR ((k : Int) + 1)]) (z' := (6, [some (aR 39), some (aL (v)), none, some (aI ((k + 1 : Nat) : Int)), some (aI 320)], [], MM N I (ma J' 39 (ma (J' 39) k (v))))) (by decide +kernel) rfl (show (0 ≤ (k : Int) ∧ (k : Int) < 320) ∧ (inR ((k : Int) + 1)) from ⟨(by omega), (by unfold inR; omega)⟩) ?_
      refine V.nJ (fun J3 eJ3 => ?_)
      refine ih (k + 1) _ (by omega) (by omega) ?_ ?_
      · intro q hq
        subst eJ3
        simp only [ma_self]
        unfold ma
        split
        · rfl
        · exact ha q (by omega)
      · intro i hi
        subst eJ3
        rw [ma_ne _ _ hi]
        exact ho i hi
theorem c_fillJ_39 {N : Nat} {I : MI} {J : MJ} {v : Int64} : CT 198 [aR 39, aL (v)] (MM N I J) (fun r M' => r = none ∧ ∃ J', M' = MM N I J' ∧ (∀ k, k < 320 → J' 39 k = v) ∧ ∀ i, i ≠ 39 → J' i = J i) := by
  refine CT.ofV (n := 5) (ls := [some (aR 39), some (aL (v)), none, none, none]) rfl rfl rfl ?_
  refine V.blk [(0, .bipush 0, 1), (1, .istore 3, 1), (2, .aload 0, 1), (3, .arraylength, 1), (4, .istore 4, 2)] (ps := []) (z' := (6, [some (aR 39), some (aL (v)), none, some (aI 0), some (aI 320)], [], MM N I J)) (by decide +kernel) rfl trivial ?_
  exact l_fillJ_39 321 0 _ (by omega) (by omega) (fun q hq => by omega) (fun i _ => rfl)
theorem l_fillI_38 {N : Nat} {I : MI} {J : MJ} {v : Int} : ∀ (m k : Nat) (I' : MI), 322 ≤ m + k → k ≤ 321 → (∀ q, q < k → I' 38 q = v) → (∀ i, i ≠ 38 → I' i = I i) → V 199 (5, [some (aR 38), some (aI v), some (aI (k : Int)), some (aI 321)], [], MM N I' J) (fun r M' => r = none ∧ ∃ I', M' = MM N I' J ∧ (∀ k, k < 321 → I' 38 k = v) ∧ ∀ i, i ≠ 38 → I' i = I i) := by
  intro m
  induction m with
  | zero => intro k I' h1 h2; exfalso; omega
  | succ m ih =>
    intro k I' h1 h2 ha ho
    refine V.blk [(5, .iload 2, 1), (6, .iload 3, 1), (7, .if_icmp .ge 20, 3)] (ps := []) (z' := (brc .ge (k : Int) 321 20 10, [some (aR 38), some (aI v), some (aI (k : Int)), some (aI 321)], [], MM N I' J)) (by decide +kernel) rfl trivial ?_
    refine V.ge (fun h1 => ?_) (fun h2 => ?_)
    · skip
      refine V.rv (by decide +kernel) ?_
      exact ⟨rfl, _, rfl, fun q hq => ha q (by omega), ho⟩
    · skip
      refine V.blk [(10, .aload 0, 1), (11, .iload 2, 1), (12, .iload 1, 1), (13, .iastore, 1), (14, .iinc 2 1, 3), (17, .goto 5, 3)] (ps := [0 ≤ (k : Int) ∧ (k : Int) < 321, inR ((k : Int) + 1)]) (z' := (5, [some (aR 38), some (aI v), some (aI ((k + 1 : Nat) : Int)), some (aI 321)], [], MM N (ma I' 38 (ma (I' 38) k v)) J)) (by decide +kernel) rfl (show (0 ≤ (k : Int) ∧ (k : Int) < 321) ∧ (inR ((k : Int) + 1)) from ⟨(by omega), (by unfold inR; omega)⟩) ?_
      refine V.nI (fun I3 eI3 => ?_)
      refine ih (k + 1) _ (by omega) (by omega) ?_ ?_
      · intro q hq
        subst eI3
        simp only [ma_self]
        unfold ma
        split
        · rfl
        · exact ha q (by omega)
      · intro i hi
        subst eI3
        rw [ma_ne _ _ hi]
        exact ho i hi
theorem c_fillI_38 {N : Nat} {I : MI} {J : MJ} {v : Int} : CT 199 [aR 38, aI v] (MM N I J) (fun r M' => r = none ∧ ∃ I', M' = MM N I' J ∧ (∀ k, k < 321 → I' 38 k = v) ∧ ∀ i, i ≠ 38 → I' i = I i) := by
  refine CT.ofV (n := 4) (ls := [some (aR 38), some (aI v), none, none]) rfl rfl rfl ?_
  refine V.blk [(0, .bipush 0, 1), (1, .istore 2, 1), (2, .aload 0, 1), (3, .arraylength, 1), (4, .istore 3, 1)] (ps := []) (z' := (5, [some (aR 38), some (aI v), some (aI 0), some (aI 321)], [], MM N I J)) (by decide +kernel) rfl trivial ?_
  exact l_fillI_38 322 0 _ (by omega) (by omega) (fun q hq => by omega) (fun i _ => rfl)
theorem l_fillI_42 {N : Nat} {I : MI} {J : MJ} {v : Int} : ∀ (m k : Nat) (I' : MI), 321 ≤ m + k → k ≤ 320 → (∀ q, q < k → I' 42 q = v) → (∀ i, i ≠ 42 → I' i = I i) → V 199 (5, [some (aR 42), some (aI v), some (aI (k : Int)), some (aI 320)], [], MM N I' J) (fun r M' => r = none ∧ ∃ I', M' = MM N I' J ∧ (∀ k, k < 320 → I' 42 k = v) ∧ ∀ i, i ≠ 42 → I' i = I i) := by
  intro m
  induction m with
  | zero => intro k I' h1 h2; exfalso; omega
  | succ m ih =>
    intro k I' h1 h2 ha ho
    refine V.blk [(5, .iload 2, 1), (6, .iload 3, 1), (7, .if_icmp .ge 20, 3)] (ps := []) (z' := (brc .ge (k : Int) 320 20 10, [some (aR 42), some (aI v), some (aI (k : Int)), some (aI 320)], [], MM N I' J)) (by decide +kernel) rfl trivial ?_
    refine V.ge (fun h1 => ?_) (fun h2 => ?_)
    · skip
      refine V.rv (by decide +kernel) ?_
      exact ⟨rfl, _, rfl, fun q hq => ha q (by omega), ho⟩
    · skip
      refine V.blk [(10, .aload 0, 1), (11, .iload 2, 1), (12, .iload 1, 1), (13, .iastore, 1), (14, .iinc 2 1, 3), (17, .goto 5, 3)] (ps := [0 ≤ (k : Int) ∧ (k : Int) < 320, inR ((k : Int) + 1)]) (z' := (5, [some (aR 42), some (aI v), some (aI ((k + 1 : Nat) : Int)), some (aI 320)], [], MM N (ma I' 42 (ma (I' 42) k v)) J)) (by decide +kernel) rfl (show (0 ≤ (k : Int) ∧ (k : Int) < 320) ∧ (inR ((k : Int) + 1)) from ⟨(by omega), (by unfold inR; omega)⟩) ?_
      refine V.nI (fun I3 eI3 => ?_)
      refine ih (k + 1) _ (by omega) (by omega) ?_ ?_
      · intro q hq
        subst eI3
        simp only [ma_self]
        unfold ma
        split
        · rfl
        · exact ha q (by omega)
      · intro i hi
        subst eI3
        rw [ma_ne _ _ hi]
        exact ho i hi
theorem c_fillI_42 {N : Nat} {I : MI} {J : MJ} {v : Int} : CT 199 [aR 42, aI v] (MM N I J) (fun r M' => r = none ∧ ∃ I', M' = MM N I' J ∧ (∀ k, k < 320 → I' 42 k = v) ∧ ∀ i, i ≠ 42 → I' i = I i) := by
  refine CT.ofV (n := 4) (ls := [some (aR 42), some (aI v), none, none]) rfl rfl rfl ?_
  refine V.blk [(0, .bipush 0, 1), (1, .istore 2, 1), (2, .aload 0, 1), (3, .arraylength, 1), (4, .istore 3, 1)] (ps := []) (z' := (5, [some (aR 42), some (aI v), some (aI 0), some (aI 320)], [], MM N I J)) (by decide +kernel) rfl trivial ?_
  exact l_fillI_42 321 0 _ (by omega) (by omega) (fun q hq => by omega) (fun i _ => rfl)
def kn (I : MI) (s : Int) : Int := I 2 (s / 8).toNat * 8 + s % 8
theorem kn_in {I : MI} (hk : ∀ i, i < 40 → 0 ≤ I 2 i ∧ I 2 i < 6) {s : Int} (h : 0 ≤ s ∧ s < 320) : 0 ≤ kn I s ∧ kn I s < 48 := by
  have := hk (s / 8).toNat (by omega)
  unfold kn
  omega
theorem c_X8_knotAt {N : Nat} {I : MI} {J : MJ} {s : Int} (hk : ∀ i, i < 40 → 0 ≤ I 2 i ∧ I 2 i < 6) (h : 0 ≤ s ∧ s < 320) : CT 62 [aR 1, aI s] (MM N I J) (pure1 N I J (aI (kn I s))) := by
  have hk1 := hk (s / 8).toNat (by omega)
  refine CT.ofV (n := 2) (ls := [some (aR 1), some (aI s)]) rfl rfl rfl ?_
  refine V.blk [(0, .aload 0, 1), (1, .getfield 8000, 3), (4, .iload 1, 1), (5, .bipush 8, 2), (7, .idiv, 1), (8, .iaload, 1), (9, .bipush 8, 2), (11, .imul, 1), (12, .iload 1, 1), (13, .bipush 8, 2), (15, .irem, 1), (16, .iadd, 1)] (ps := [0 ≤ s ∧ 0 < 8, 0 ≤ (s / 8) ∧ (s / 8) < 40, inR ((I 2 ((s / 8).toNat)) * 8), 0 ≤ s ∧ 0 < 8, inR (((I 2 ((s / 8).toNat)) * 8) + (s % 8))]) (z' := (17, [some (aR 1), some (aI s)], [aI (((I 2 ((s / 8).toNat)) * 8) + (s % 8))], MM N I J)) (by decide +kernel) rfl (show (0 ≤ s ∧ 0 < 8) ∧ (0 ≤ (s / 8) ∧ (s / 8) < 40) ∧ (inR ((I 2 ((s / 8).toNat)) * 8)) ∧ (0 ≤ s ∧ 0 < 8) ∧ (inR (((I 2 ((s / 8).toNat)) * 8) + (s % 8))) from ⟨(by omega), (by omega), (by unfold inR; omega), (by omega), (by unfold inR; omega)⟩) ?_
  refine V.ri (by decide +kernel) ?_
  exact ⟨rfl, rfl⟩
def rlOK (I : MI) : Prop := ∀ p : Nat, p < 64 → 4 ≤ I 4 p → I 4 p ≤ 6 → 0 ≤ I 5 p ∧ I 5 p < p ∧ 0 ≤ I 6 p ∧ I 6 p < p
/-- what a place asks: itself and what its rules join; what a LESS takes away -/
def svEq (I : MI) (J : MJ) (p : Nat) : Prop := ((4 ≤ I 4 p ∧ I 4 p ≤ 6) → J 8 p = (if I 4 p = 6 then bt p ||| J 8 (I 5 p).toNat else bt p ||| J 8 (I 5 p).toNat ||| J 8 (I 6 p).toNat) ∧ J 9 p = (if I 4 p = 6 then J 9 (I 5 p).toNat ||| J 9 (I 6 p).toNat ||| J 8 (I 6 p).toNat else J 9 (I 5 p).toNat ||| J 9 (I 6 p).toNat)) ∧ (¬ (4 ≤ I 4 p ∧ I 4 p ≤ 6) → J 8 p = bt p ∧ J 9 p = Int64.ofInt 0)
def svOK (I : MI) (J : MJ) : Prop := ∀ p, p < 64 → svEq I J p
theorem c_surveyJoin {N : Nat} {I : MI} {J : MJ} {p : Nat} {u v : Int} (hp : p < 64) (hu : 0 ≤ u ∧ u < p) (hv : 0 ≤ v ∧ v < p) : CT 47 [aR 3, aI (p : Int), aI u, aI v] (MM N I J) (fun r M' => r = none ∧ ∃ J', M' = MM N I J' ∧ J' 8 = ma (J 8) p (if I 4 p = 6 then J 8 p ||| J 8 u.toNat else J 8 p ||| J 8 u.toNat ||| J 8 v.toNat) ∧ J' 9 = ma (J 9) p (if I 4 p = 6 then J 9 u.toNat ||| J 9 v.toNat ||| J 8 v.toNat else J 9 u.toNat ||| J 9 v.toNat) ∧ ∀ i, i ≠ 8 → i ≠ 9 → J' i = J i) := by
  have hvp : ¬ v.toNat = p := by omega
  have hup : ¬ u.toNat = p := by omega
  refine CT.ofV (n := 4) (ls := [some (aR 3), some (aI (p : Int)), some (aI u), some (aI v)]) rfl rfl rfl ?_
  refine V.blk [(0, .aload 0, 1), (1, .getfield 6004, 3), (4, .iload 1, 1), (5, .dup2, 1), (6, .laload, 1), (7, .aload 0, 1), (8, .getfield 6004, 3), (11, .iload 2, 1), (12, .laload, 1), (13, .lor, 1), (14, .lastore, 1), (15, .aload 0, 1), (16, .getfield 6005, 3), (19, .iload 1, 1), (20, .aload 0, 1), (21, .getfield 6005, 3), (24, .iload 2, 1), (25, .laload, 1), (26, .aload 0, 1), (27, .getfield 6005, 3), (30, .iload 3, 1), (31, .laload, 1), (32, .lor, 1), (33, .lastore, 1), (34, .aload 0, 1), (35, .getfield 6000, 3), (38, .iload 1, 1), (39, .iaload, 1), (40, .bipush 6, 2), (42, .if_icmp .ne 63, 3)] (ps := [0 ≤ (p : Int) ∧ (p : Int) < 64, 0 ≤ u ∧ u < 64, 0 ≤ (p : Int) ∧ (p : Int) < 64, 0 ≤ u ∧ u < 64, 0 ≤ v ∧ v < 64, 0 ≤ (p : Int) ∧ (p : Int) < 64, 0 ≤ (p : Int) ∧ (p : Int) < 64]) (z' := (brc .ne (I 4 p) 6 63 45, [some (aR 3), some (aI (p : Int)), some (aI u), some (aI v)], [], MM N I (ma (ma J 8 (ma (J 8) p ((J 8 p) ||| (J 8 ((u).toNat))))) 9 (ma ((ma J 8 (ma (J 8) p ((J 8 p) ||| (J 8 ((u).toNat))))) 9) p (((ma J 8 (ma (J 8) p ((J 8 p) ||| (J 8 ((u).toNat))))) 9 ((u).toNat)) ||| ((ma J 8 (ma (J 8) p ((J 8 p) ||| (J 8 ((u).toNat))))) 9 ((v).toNat))))))) (by decide +kernel) rfl (show (0 ≤ (p : Int) ∧ (p : Int) < 64) ∧ (0 ≤ u ∧ u < 64) ∧ (0 ≤ (p : Int) ∧ (p : Int) < 64) ∧ (0 ≤ u ∧ u < 64) ∧ (0 ≤ v ∧ v < 64) ∧ (0 ≤ (p : Int) ∧ (p : Int) < 64) ∧ (0 ≤ (p : Int) ∧ (p : Int) < 64) from ⟨(by omega), (by omega), (by omega), (by omega), (by omega), (by omega), (by omega)⟩) ?_
  refine V.nJ (fun J1 eJ1 => ?_)
  refine V.ne (fun h2 => ?_) (fun h3 => ?_)
  · skip
    refine V.blk [(63, .aload 0, 1), (64, .getfield 6004, 3), (67, .iload 1, 1), (68, .dup2, 1), (69, .laload, 1), (70, .aload 0, 1), (71, .getfield 6004, 3), (74, .iload 3, 1), (75, .laload, 1), (76, .lor, 1), (77, .lastore, 1)] (ps := [0 ≤ (p : Int) ∧ (p : Int) < 64, 0 ≤ v ∧ v < 64, 0 ≤ (p : Int) ∧ (p : Int) < 64]) (z' := (78, [some (aR 3), some (aI (p : Int)), some (aI u), some (aI v)], [], MM N I (ma J1 8 (ma (J1 8) p ((J1 8 p) ||| (J1 8 ((v).toNat))))))) (by decide +kernel) rfl (show (0 ≤ (p : Int) ∧ (p : Int) < 64) ∧ (0 ≤ v ∧ v < 64) ∧ (0 ≤ (p : Int) ∧ (p : Int) < 64) from ⟨(by omega), (by omega), (by omega)⟩) ?_
    refine V.nJ (fun J4 eJ4 => ?_)
    refine V.rv (by decide +kernel) ?_
    refine ⟨rfl, _, rfl, ?_, ?_, fun i h8 h9 => ?_⟩
    · subst eJ4
      simp [ma_self, ma_ne, ma_ma, hvp, hup, *]
    · subst eJ4
      simp [ma_self, ma_ne, ma_ma, hvp, hup, *]
    · subst_vars
      simp only [ma_ne _ _ h8, ma_ne _ _ h9]
  · skip
    refine V.blk [(45, .aload 0, 1), (46, .getfield 6005, 3), (49, .iload 1, 1), (50, .dup2, 1), (51, .laload, 1), (52, .aload 0, 1), (53, .getfield 6004, 3), (56, .iload 3, 1), (57, .laload, 1), (58, .lor, 1), (59, .lastore, 1), (60, .goto 78, 3)] (ps := [0 ≤ (p : Int) ∧ (p : Int) < 64, 0 ≤ v ∧ v < 64, 0 ≤ (p : Int) ∧ (p : Int) < 64]) (z' := (78, [some (aR 3), some (aI (p : Int)), some (aI u), some (aI v)], [], MM N I (ma J1 9 (ma (J1 9) p ((J1 9 p) ||| (J1 8 ((v).toNat))))))) (by decide +kernel) rfl (show (0 ≤ (p : Int) ∧ (p : Int) < 64) ∧ (0 ≤ v ∧ v < 64) ∧ (0 ≤ (p : Int) ∧ (p : Int) < 64) from ⟨(by omega), (by omega), (by omega)⟩) ?_
    refine V.nJ (fun J5 eJ5 => ?_)
    refine V.rv (by decide +kernel) ?_
    refine ⟨rfl, _, rfl, ?_, ?_, fun i h8 h9 => ?_⟩
    · subst eJ5
      simp [ma_self, ma_ne, ma_ma, hvp, hup, *]
    · subst eJ5
      simp [ma_self, ma_ne, ma_ma, hvp, hup, *]
    · subst_vars
      simp only [ma_ne _ _ h8, ma_ne _ _ h9]
theorem sv_keep {I : MI} {J J' : MJ} {q : Nat} (h : svEq I J q) (h8 : ∀ k, k ≤ q → J' 8 k = J 8 k) (h9 : ∀ k, k ≤ q → J' 9 k = J 9 k) (hr : 4 ≤ I 4 q → I 4 q ≤ 6 → 0 ≤ I 5 q ∧ I 5 q < q ∧ 0 ≤ I 6 q ∧ I 6 q < q) : svEq I J' q := by
  unfold svEq at h ⊢
  rw [h8 q (Nat.le_refl _), h9 q (Nat.le_refl _)]
  refine ⟨fun hj => ?_, h.2⟩
  have := hr hj.1 hj.2
  rw [h8 (I 5 q).toNat (by omega), h8 (I 6 q).toNat (by omega), h9 (I 5 q).toNat (by omega), h9 (I 6 q).toNat (by omega)]
  exact h.1 hj
theorem l_survey {N : Nat} {I : MI} {J : MJ} (hr : rlOK I) : ∀ (m p : Nat) (J' : MJ), 65 ≤ m + p → p ≤ 64 → (∀ q, q < p → svEq I J' q) → (∀ i, i ≠ 8 → i ≠ 9 → J' i = J i) → V 46 (2, [some (aR 3), some (aI (p : Int))], [], MM N I J') (fun r M' => r = none ∧ ∃ J', M' = MM N I J' ∧ svOK I J' ∧ ∀ i, i ≠ 8 → i ≠ 9 → J' i = J i) := by
  intro m
  induction m with
  | zero => intro p J' h1 h2; exfalso; omega
  | succ m ih =>
    intro p J' h1 h2 hs ho
    refine V.blk [(2, .iload 1, 1), (3, .bipush 64, 2), (5, .if_icmp .ge 59, 3)] (ps := []) (z' := (brc .ge (p : Int) 64 59 8, [some (aR 3), some (aI (p : Int))], [], MM N I J')) (by decide +kernel) rfl trivial ?_
    refine V.ge (fun h1 => ?_) (fun h2 => ?_)
    · skip
      try simp only [b2_cast, b2_ncast, Classical.not_not, lcm_lt, lcm_ge, lcm_gt, lcm_le, lcm_eq] at h1
      refine V.rv (by decide +kernel) ?_
      exact ⟨rfl, _, rfl, fun q hq => hs q (by omega), ho⟩
    · skip
      try simp only [b2_cast, b2_ncast, Classical.not_not, lcm_lt, lcm_ge, lcm_gt, lcm_le, lcm_eq] at h2
      refine V.blk [(8, .aload 0, 1), (9, .getfield 6004, 3), (12, .iload 1, 1), (13, .jsr_w 1, 1), (14, .iload 1, 1), (15, .lshl, 1), (16, .lastore, 1), (17, .aload 0, 1), (18, .getfield 6005, 3), (21, .iload 1, 1), (22, .jsr_w 0, 1), (23, .lastore, 1), (24, .aload 0, 1), (25, .getfield 6000, 3), (28, .iload 1, 1), (29, .iaload, 1)] (ps := [0 ≤ (p : Int) ∧ (p : Int) < 64, 0 ≤ (p : Int) ∧ (p : Int) < 64, 0 ≤ (p : Int) ∧ (p : Int) < 64, 0 ≤ (p : Int) ∧ (p : Int) < 64]) (z' := (30, [some (aR 3), some (aI (p : Int))], [aI (I 4 p)], MM N I (ma (ma J' 8 (ma (J' 8) p (shll (Int64.ofInt 1) (p : Int)))) 9 (ma ((ma J' 8 (ma (J' 8) p (shll (Int64.ofInt 1) (p : Int)))) 9) p (Int64.ofInt 0))))) (by decide +kernel) rfl (show (0 ≤ (p : Int) ∧ (p : Int) < 64) ∧ (0 ≤ (p : Int) ∧ (p : Int) < 64) ∧ (0 ≤ (p : Int) ∧ (p : Int) < 64) ∧ (0 ≤ (p : Int) ∧ (p : Int) < 64) from ⟨(by omega), (by omega), (by omega), (by omega)⟩) ?_
      refine V.nJ (fun J3 eJ3 => ?_)
      have eJ0 := eJ3
      have hrp := hr p (by omega)
      refine V.cs (c := 106) (na := 1) [aI (I 4 p)] [] (by decide +kernel) rfl rfl (V.pr (c_X9_isJoin) ?_)
      show V 46 (33, [some (aR 3), some (aI (p : Int))], [aI (b2 (decide (4 ≤ (I 4 p) ∧ (I 4 p) ≤ 6)))], MM N I J3) _
      refine V.blk [(33, .ifCond .eq 53, 3)] (ps := []) (z' := (brc .eq (b2 (decide (4 ≤ (I 4 p) ∧ (I 4 p) ≤ 6))) 0 53 36, [some (aR 3), some (aI (p : Int))], [], MM N I J3)) (by decide +kernel) rfl trivial ?_
      refine V.eq (fun h4 => ?_) (fun h5 => ?_)
      · skip
        try simp only [b2_cast, b2_ncast, Classical.not_not, lcm_lt, lcm_ge, lcm_gt, lcm_le, lcm_eq] at h4
        refine V.blk [(53, .iinc 1 1, 3), (56, .goto 2, 3)] (ps := [inR ((p : Int) + 1)]) (z' := (2, [some (aR 3), some (aI ((p + 1 : Nat) : Int))], [], MM N I J3)) (by decide +kernel) rfl (show (inR ((p : Int) + 1)) from (by unfold inR; omega)) ?_
        first
          | (refine ih (p + 1) _ (by omega) (by omega) ?_ ?_
             case refine_1 =>
               intro q hq
               by_cases e : q = p
               · subst e
                 refine ⟨fun hj => ?_, fun hj => ?_⟩
                 · first
                     | (exfalso; omega)
                     | (simp only [hJ38, hJ39, ma_self, ma_ne _ _ (show (I 5 q).toNat ≠ q by omega), ma_ne _ _ (show (I 6 q).toNat ≠ q by omega), eJ0, ma_ne _ _ (show (8 : Nat) ≠ 9 by decide), ma_ne _ _ (show (9 : Nat) ≠ 8 by decide)]
                        first | exact ⟨rfl, rfl⟩ | exact ⟨trivial, rfl⟩ | exact ⟨rfl, trivial⟩ | trivial)
                 · first
                     | (exfalso; omega)
                     | (simp only [eJ0, ma_self, ma_ne _ _ (show (8 : Nat) ≠ 9 by decide), ma_ne _ _ (show (9 : Nat) ≠ 8 by decide)]
                        first | exact ⟨rfl, rfl⟩ | exact ⟨trivial, rfl⟩ | exact ⟨rfl, trivial⟩ | trivial)
               · refine sv_keep (hs q (by omega)) (fun k hk => ?_) (fun k hk => ?_) (hr q (by omega))
                 · first
                     | (simp only [hJ38, eJ0, ma_self, ma_ne _ _ (show k ≠ p by omega), ma_ne _ _ (show (8 : Nat) ≠ 9 by decide), ma_ne _ _ (show (9 : Nat) ≠ 8 by decide)]; done)
                     | (simp only [eJ0, ma_self, ma_ne _ _ (show k ≠ p by omega), ma_ne _ _ (show (8 : Nat) ≠ 9 by decide), ma_ne _ _ (show (9 : Nat) ≠ 8 by decide)]; done)
                 · first
                     | (simp only [hJ39, eJ0, ma_self, ma_ne _ _ (show k ≠ p by omega), ma_ne _ _ (show (8 : Nat) ≠ 9 by decide), ma_ne _ _ (show (9 : Nat) ≠ 8 by decide)]; done)
                     | (simp only [eJ0, ma_self, ma_ne _ _ (show k ≠ p by omega), ma_ne _ _ (show (8 : Nat) ≠ 9 by decide), ma_ne _ _ (show (9 : Nat) ≠ 8 by decide)]; done)
             case refine_2 =>
               intro i h8 h9
               first
                 | (rw [hJ3o i h8 h9, eJ0, ma_ne _ _ h9, ma_ne _ _ h8]; exact ho i h8 h9)
                 | (rw [eJ0, ma_ne _ _ h9, ma_ne _ _ h8]; exact ho i h8 h9))
      · skip
        try simp only [b2_cast, b2_ncast, Classical.not_not, lcm_lt, lcm_ge, lcm_gt, lcm_le, lcm_eq] at h5
        refine V.blk [(36, .aload 0, 1), (37, .iload 1, 1), (38, .aload 0, 1), (39, .getfield 6001, 3), (42, .iload 1, 1), (43, .iaload, 1), (44, .aload 0, 1), (45, .getfield 6002, 3), (48, .iload 1, 1), (49, .iaload, 1)] (ps := [0 ≤ (p : Int) ∧ (p : Int) < 64, 0 ≤ (p : Int) ∧ (p : Int) < 64]) (z' := (50, [some (aR 3), some (aI (p : Int))], [aI (I 6 p), aI (I 5 p), aI (p : Int), aR 3], MM N I J3)) (by decide +kernel) rfl (show (0 ≤ (p : Int) ∧ (p : Int) < 64) ∧ (0 ≤ (p : Int) ∧ (p : Int) < 64) from ⟨(by omega), (by omega)⟩) ?_
        refine V.cv (c := 47) (na := 4) (o := 6) (a := 3) [aI (I 6 p), aI (I 5 p), aI (p : Int)] [] (by decide +kernel) rfl rfl rfl rfl rfl ((c_surveyJoin (by omega) (by omega) (by omega)).mono (fun rv M1 q => ?_))
        obtain ⟨rfl, G6, rfl, hG68, hG69, hG6o⟩ := q
        show V 46 (53, [some (aR 3), some (aI (p : Int))], [], MM N I G6) _
        refine V.blk [(53, .iinc 1 1, 3), (56, .goto 2, 3)] (ps := [inR ((p : Int) + 1)]) (z' := (2, [some (aR 3), some (aI ((p + 1 : Nat) : Int))], [], MM N I G6)) (by decide +kernel) rfl (show (inR ((p : Int) + 1)) from (by unfold inR; omega)) ?_
        first
          | (refine ih (p + 1) _ (by omega) (by omega) ?_ ?_
             case refine_1 =>
               intro q hq
               by_cases e : q = p
               · subst e
                 refine ⟨fun hj => ?_, fun hj => ?_⟩
                 · first
                     | (exfalso; omega)
                     | (simp only [hG68, hG69, ma_self, ma_ne _ _ (show (I 5 q).toNat ≠ q by omega), ma_ne _ _ (show (I 6 q).toNat ≠ q by omega), eJ0, ma_ne _ _ (show (8 : Nat) ≠ 9 by decide), ma_ne _ _ (show (9 : Nat) ≠ 8 by decide)]
                        first | exact ⟨rfl, rfl⟩ | exact ⟨trivial, rfl⟩ | exact ⟨rfl, trivial⟩ | trivial)
                 · first
                     | (exfalso; omega)
                     | (simp only [eJ0, ma_self, ma_ne _ _ (show (8 : Nat) ≠ 9 by decide), ma_ne _ _ (show (9 : Nat) ≠ 8 by decide)]
                        first | exact ⟨rfl, rfl⟩ | exact ⟨trivial, rfl⟩ | exact ⟨rfl, trivial⟩ | trivial)
               · refine sv_keep (hs q (by omega)) (fun k hk => ?_) (fun k hk => ?_) (hr q (by omega))
                 · first
                     | (simp only [hG68, eJ0, ma_self, ma_ne _ _ (show k ≠ p by omega), ma_ne _ _ (show (8 : Nat) ≠ 9 by decide), ma_ne _ _ (show (9 : Nat) ≠ 8 by decide)]; done)
                     | (simp only [eJ0, ma_self, ma_ne _ _ (show k ≠ p by omega), ma_ne _ _ (show (8 : Nat) ≠ 9 by decide), ma_ne _ _ (show (9 : Nat) ≠ 8 by decide)]; done)
                 · first
                     | (simp only [hG69, eJ0, ma_self, ma_ne _ _ (show k ≠ p by omega), ma_ne _ _ (show (8 : Nat) ≠ 9 by decide), ma_ne _ _ (show (9 : Nat) ≠ 8 by decide)]; done)
                     | (simp only [eJ0, ma_self, ma_ne _ _ (show k ≠ p by omega), ma_ne _ _ (show (8 : Nat) ≠ 9 by decide), ma_ne _ _ (show (9 : Nat) ≠ 8 by decide)]; done)
             case refine_2 =>
               intro i h8 h9
               first
                 | (rw [hG6o i h8 h9, eJ0, ma_ne _ _ h9, ma_ne _ _ h8]; exact ho i h8 h9)
                 | (rw [eJ0, ma_ne _ _ h9, ma_ne _ _ h8]; exact ho i h8 h9))
theorem c_survey {N : Nat} {I : MI} {J : MJ} (hr : rlOK I) : CT 46 [aR 3] (MM N I J) (fun r M' => r = none ∧ ∃ J', M' = MM N I J' ∧ svOK I J' ∧ ∀ i, i ≠ 8 → i ≠ 9 → J' i = J i) := by
  refine CT.ofV (n := 2) (ls := [some (aR 3), none]) rfl rfl rfl ?_
  refine V.blk [(0, .bipush 0, 1), (1, .istore 1, 1)] (ps := []) (z' := (2, [some (aR 3), some (aI 0)], [], MM N I J)) (by decide +kernel) rfl trivial ?_
  exact l_survey hr 65 0 _ (by omega) (by omega) (fun q hq => by omega) (fun i _ _ => rfl)
def hldU (I : MI) (p : Nat) (s x y : Int) : MI := ma (ma (ma I 4 (ma (I 4) p s)) 5 (ma (I 5) p x)) 6 (ma (I 6) p y)
theorem c_hold {N : Nat} {I : MI} {J : MJ} {p : Nat} {s x y : Int} (hp : p < 64) (hr : rlOK (hldU I p s x y)) : CT 45 [aR 3, aI (p : Int), aI s, aI x, aI y] (MM N I J) (fun r M' => r = none ∧ ∃ J', M' = MM N (hldU I p s x y) J' ∧ svOK (hldU I p s x y) J' ∧ ∀ i, i ≠ 8 → i ≠ 9 → J' i = J i) := by
  refine CT.ofV (n := 5) (ls := [some (aR 3), some (aI (p : Int)), some (aI s), some (aI x), some (aI y)]) rfl rfl rfl ?_
  refine V.blk [(0, .aload 0, 1), (1, .getfield 6000, 3), (4, .iload 1, 1), (5, .iload 2, 1), (6, .iastore, 1), (7, .aload 0, 1), (8, .getfield 6001, 3), (11, .iload 1, 1), (12, .iload 3, 1), (13, .iastore, 1), (14, .aload 0, 1), (15, .getfield 6002, 3), (18, .iload 1, 1), (19, .iload 4, 2), (21, .iastore, 1)] (ps := [0 ≤ (p : Int) ∧ (p : Int) < 64, 0 ≤ (p : Int) ∧ (p : Int) < 64, 0 ≤ (p : Int) ∧ (p : Int) < 64]) (z' := (22, [some (aR 3), some (aI (p : Int)), some (aI s), some (aI x), some (aI y)], [], MM N (ma (ma (ma I 4 (ma (I 4) p s)) 5 (ma ((ma I 4 (ma (I 4) p s)) 5) p x)) 6 (ma ((ma (ma I 4 (ma (I 4) p s)) 5 (ma ((ma I 4 (ma (I 4) p s)) 5) p x)) 6) p y)) J)) (by decide +kernel) rfl (show (0 ≤ (p : Int) ∧ (p : Int) < 64) ∧ (0 ≤ (p : Int) ∧ (p : Int) < 64) ∧ (0 ≤ (p : Int) ∧ (p : Int) < 64) from ⟨(by omega), (by omega), (by omega)⟩) ?_
  refine V.nI (fun I1 eI1 => ?_)
  have eH : I1 = hldU I p s x y := by
    rw [eI1]
    simp [hldU, ma_ne]
  have hr2 : rlOK I1 := by rw [eH]; exact hr
  refine V.blk [(22, .aload 0, 1)] (ps := []) (z' := (23, [some (aR 3), some (aI (p : Int)), some (aI s), some (aI x), some (aI y)], [aR 3], MM N I1 J)) (by decide +kernel) rfl trivial ?_
  refine V.cv (c := 46) (na := 1) (o := 6) (a := 3) [] [] (by decide +kernel) rfl rfl rfl rfl rfl ((c_survey (by assumption)).mono (fun rv M1 q => ?_))
  obtain ⟨rfl, G2, rfl, hG2s, hG2o⟩ := q
  show V 45 (26, [some (aR 3), some (aI (p : Int)), some (aI s), some (aI x), some (aI y)], [], MM N I1 G2) _
  refine V.rv (by decide +kernel) ?_
  rw [eH] at *
  exact ⟨rfl, _, rfl, by assumption, by assumption⟩
