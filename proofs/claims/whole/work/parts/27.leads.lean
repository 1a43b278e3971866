/-! ===== the class: leads, levels ===== -/
/-- of the first m pairs, one leads from knot n to knot i by a club -/
def clB (I : MI) (m n i : Nat) : Prop := ∃ p : Nat, p < m ∧ I 18 p ≠ -1 ∧ kn I (I 17 p) = n ∧ kn I (I 18 p) = i
theorem clB_s {I : MI} {m n i : Nat} : clB I (m + 1) n i ↔ clB I m n i ∨ (I 18 m ≠ -1 ∧ kn I (I 17 m) = n ∧ kn I (I 18 m) = i) := by
  constructor
  · intro q
    obtain ⟨p, h1, h2⟩ := q
    by_cases e : p = m
    · subst e; exact Or.inr h2
    · exact Or.inl ⟨p, by omega, h2⟩
  · intro h
    rcases h with ⟨p, h1, h2⟩ | h
    · exact ⟨p, by omega, h2⟩
    · exact ⟨m, by omega, h⟩
def kdOK (I : MI) : Prop := ∀ i, i < 40 → 0 ≤ I 2 i ∧ I 2 i < 6
def spOK (I : MI) (m : Nat) : Prop := ∀ p : Nat, p < m → 0 ≤ I 17 p ∧ I 17 p < 320 ∧ (I 18 p = -1 ∨ (0 ≤ I 18 p ∧ I 18 p < 320))
theorem l_findClubs {N : Nat} {I : MI} {J : MJ} {m : Nat} (hm : I 10 9 = m) (h4 : m ≤ 400) (hk : kdOK I) (hs : spOK I m) : ∀ (k p : Nat) (J' : MJ) (w : Option AV), m + 1 ≤ k + p → p ≤ m → (∀ n, n < 48 → ∀ i, i < 64 → (tb (J' 32 n) i = true ↔ clB I p n i)) → (∀ i, i ≠ 32 → J' i = J i) → V 18 (10, [some (aR 31), some (aI (p : Int)), w], [], MM N I J') (fun r M' => r = none ∧ ∃ J', M' = MM N I J' ∧ (∀ n, n < 48 → ∀ i, i < 64 → (tb (J' 32 n) i = true ↔ clB I m n i)) ∧ ∀ i, i ≠ 32 → J' i = J i) := by
  intro k
  induction k with
  | zero => intro p J' w h1 h2; exfalso; omega
  | succ k ih =>
    intro p J' w h1 h2 hb ho
    refine V.blk [(10, .iload 1, 1), (11, .aload 0, 1), (12, .getfield 2002, 3), (15, .getfield 3009, 3), (18, .if_icmp .ge 76, 3)] (ps := []) (z' := (brc .ge (p : Int) (I 10 9) 76 21, [some (aR 31), some (aI (p : Int)), w], [], MM N I J')) (by decide +kernel) rfl trivial ?_
    refine V.ge (fun h1 => ?_) (fun h2 => ?_)
    · skip
      refine V.rv (by decide +kernel) ?_
      have e : p = m := by omega
      subst e
      exact ⟨rfl, _, rfl, hb, ho⟩
    · skip
      have hsp := hs p (by omega)
      refine V.blk [(21, .aload 0, 1), (22, .getfield 2002, 3), (25, .getfield 3007, 3), (28, .iload 1, 1), (29, .iaload, 1), (30, .istore 2, 1), (31, .iload 2, 1), (32, .bipush (-1), 1), (33, .if_icmp .eq 70, 3)] (ps := [0 ≤ (p : Int) ∧ (p : Int) < 400]) (z' := (brc .eq (I 18 p) (-1) 70 36, [some (aR 31), some (aI (p : Int)), some (aI (I 18 p))], [], MM N I J')) (by decide +kernel) rfl (show (0 ≤ (p : Int) ∧ (p : Int) < 400) from (by omega)) ?_
      refine V.eq (fun h3 => ?_) (fun h4 => ?_)
      · skip
        refine V.blk [(70, .iinc 1 1, 3), (73, .goto 10, 3)] (ps := [inR ((p : Int) + 1)]) (z' := (10, [some (aR 31), some (aI ((p + 1 : Nat) : Int)), some (aI (I 18 p))], [], MM N I J')) (by decide +kernel) rfl (show (inR ((p : Int) + 1)) from (by unfold inR; omega)) ?_
        refine ih (p + 1) _ _ (by omega) (by omega) (fun n hn i hi => ?_) ho
        rw [clB_s, hb n hn i hi]
        constructor
        · exact Or.inl
        · intro q
          rcases q with q | q
          · exact q
          · exact absurd (by assumption) q.1
      · skip
        refine V.blk [(36, .aload 0, 1), (37, .getfield 2003, 3), (40, .aload 0, 1), (41, .getfield 2000, 3), (44, .aload 0, 1), (45, .getfield 2002, 3), (48, .getfield 3006, 3), (51, .iload 1, 1), (52, .iaload, 1)] (ps := [0 ≤ (p : Int) ∧ (p : Int) < 400]) (z' := (53, [some (aR 31), some (aI (p : Int)), some (aI (I 18 p))], [aI (I 17 p), aR 1, aR 32], MM N I J')) (by decide +kernel) rfl (show (0 ≤ (p : Int) ∧ (p : Int) < 400) from (by omega)) ?_
        have ka9 := kn_in hk (s := I 17 p) (by omega)
        have kb9 := kn_in hk (s := I 18 p) (by omega)
        refine V.cv (c := 62) (na := 2) (o := 8) (a := 1) [aI (I 17 p)] [aR 32] (by decide +kernel) rfl rfl rfl rfl rfl (V.pr (c_X8_knotAt hk (by omega)) ?_)
        show V 18 (56, [some (aR 31), some (aI (p : Int)), some (aI (I 18 p))], [aI (kn I (I 17 p)), aR 32], MM N I J') _
        refine V.blk [(56, .dup2, 1), (57, .laload, 1), (58, .jsr_w 1, 1), (59, .aload 0, 1), (60, .getfield 2000, 3), (63, .iload 2, 1)] (ps := [0 ≤ (kn I (I 17 p)) ∧ (kn I (I 17 p)) < 48]) (z' := (64, [some (aR 31), some (aI (p : Int)), some (aI (I 18 p))], [aI (I 18 p), aR 1, aL (Int64.ofInt 1), aL (J' 32 ((kn I (I 17 p)).toNat)), aI (kn I (I 17 p)), aR 32], MM N I J')) (by decide +kernel) rfl (show (0 ≤ (kn I (I 17 p)) ∧ (kn I (I 17 p)) < 48) from (by omega)) ?_
        refine V.cv (c := 62) (na := 2) (o := 8) (a := 1) [aI (I 18 p)] [aL (Int64.ofInt 1), aL (J' 32 ((kn I (I 17 p)).toNat)), aI (kn I (I 17 p)), aR 32] (by decide +kernel) rfl rfl rfl rfl rfl (V.pr (c_X8_knotAt hk (by omega)) ?_)
        show V 18 (67, [some (aR 31), some (aI (p : Int)), some (aI (I 18 p))], [aI (kn I (I 18 p)), aL (Int64.ofInt 1), aL (J' 32 ((kn I (I 17 p)).toNat)), aI (kn I (I 17 p)), aR 32], MM N I J') _
        refine V.blk [(67, .lshl, 1), (68, .lor, 1), (69, .lastore, 1), (70, .iinc 1 1, 3), (73, .goto 10, 3)] (ps := [0 ≤ (kn I (I 18 p)) ∧ (kn I (I 18 p)) < 64, 0 ≤ (kn I (I 17 p)) ∧ (kn I (I 17 p)) < 48, inR ((p : Int) + 1)]) (z' := (10, [some (aR 31), some (aI ((p + 1 : Nat) : Int)), some (aI (I 18 p))], [], MM N I (ma J' 32 (ma (J' 32) ((kn I (I 17 p)).toNat) ((J' 32 ((kn I (I 17 p)).toNat)) ||| (shll (Int64.ofInt 1) (kn I (I 18 p)))))))) (by decide +kernel) rfl (show (0 ≤ (kn I (I 18 p)) ∧ (kn I (I 18 p)) < 64) ∧ (0 ≤ (kn I (I 17 p)) ∧ (kn I (I 17 p)) < 48) ∧ (inR ((p : Int) + 1)) from ⟨(by omega), (by omega), (by unfold inR; omega)⟩) ?_
        refine V.nJ (fun J5 eJ5 => ?_)
        refine ih (p + 1) _ _ (by omega) (by omega) (fun n hn i hi => ?_) (fun i hi => ?_)
        · subst eJ5
          rw [clB_s, ma_self]
          have ka := kn_in hk (s := I 17 p) (by omega)
          have kb := kn_in hk (s := I 18 p) (by omega)
          obtain ⟨a, ea⟩ : ∃ a : Nat, kn I (I 17 p) = a := ⟨(kn I (I 17 p)).toNat, by omega⟩
          obtain ⟨b, eb⟩ : ∃ b : Nat, kn I (I 18 p) = b := ⟨(kn I (I 18 p)).toNat, by omega⟩
          rw [ea, eb]
          show tb (ma (J' 32) ((a : Int).toNat) (J' 32 ((a : Int).toNat) ||| bt b) n) i = true ↔ _
          rw [show ((a : Int)).toNat = a from rfl]
          by_cases e : n = a
          · subst e
            rw [ma_self, tb_or, tb_bt (by omega), Bool.or_eq_true, decide_eq_true_eq, hb n hn i hi]
            constructor
            · intro q
              rcases q with q | q
              · exact Or.inl q
              · exact Or.inr ⟨by assumption, rfl, by rw [q]⟩
            · intro q
              rcases q with q | q
              · exact Or.inl q
              · exact Or.inr (by have := q.2.2; omega)
          · rw [ma_ne _ _ e, hb n hn i hi]
            constructor
            · exact Or.inl
            · intro q
              rcases q with q | q
              · exact q
              · exact absurd (by have := q.2.1; omega) e
        · subst eJ5
          rw [ma_ne _ _ hi]
          exact ho i hi
theorem c_findClubs {N : Nat} {I : MI} {J : MJ} {m : Nat} (hm : I 10 9 = m) (h4 : m ≤ 400) (hk : kdOK I) (hs : spOK I m) : CT 18 [aR 31] (MM N I J) (fun r M' => r = none ∧ ∃ J', M' = MM N I J' ∧ (∀ n, n < 48 → ∀ i, i < 64 → (tb (J' 32 n) i = true ↔ clB I m n i)) ∧ ∀ i, i ≠ 32 → J' i = J i) := by
  refine CT.ofV (n := 3) (ls := [some (aR 31), none, none]) rfl rfl rfl ?_
  refine V.blk [(0, .aload 0, 1), (1, .getfield 2003, 3), (4, .jsr_w 0, 1)] (ps := []) (z' := (5, [some (aR 31), none, none], [aL (Int64.ofInt 0), aR 32], MM N I J)) (by decide +kernel) rfl trivial ?_
  refine V.cs (c := 198) (na := 2) [aL (Int64.ofInt 0), aR 32] [] (by decide +kernel) rfl rfl ((c_fillJ_32).mono (fun rv M1 q => ?_))
  obtain ⟨rfl, F1, rfl, hF1a, hF1o⟩ := q
  show V 18 (8, [some (aR 31), none, none], [], MM N I F1) _
  refine V.blk [(8, .bipush 0, 1), (9, .istore 1, 1)] (ps := []) (z' := (10, [some (aR 31), some (aI 0), none], [], MM N I F1)) (by decide +kernel) rfl trivial ?_
  refine (l_findClubs hm h4 hk hs (m + 1) 0 _ _ (by omega) (by omega) (fun n hn i hi => ?_) (fun i _ => rfl)).mono (fun r M' q => ?_)
  · rw [hF1a n hn, tb_0]
    constructor
    · intro q; cases q
    · intro q; obtain ⟨p, hp, _⟩ := q; omega
  · obtain ⟨rfl, J2, rfl, g1, g2⟩ := q
    exact ⟨rfl, J2, rfl, g1, fun i hi => (g2 i hi).trans (hF1o i hi)⟩
/-- what place p, asked by knot n, leads to -/
def askP (I : MI) (J : MJ) (p n i : Nat) : Prop := ((I 4 p = 0 ∨ I 4 p = 1) ∧ tb (J 32 n) i = true) ∨ (I 4 p = 2 ∧ (i : Int) = n / 8 * 8 + I 5 p) ∨ (I 4 p = 3 ∧ ∃ k : Nat, k < 6 ∧ (i : Int) = k * 8 + I 6 p)
/-- places of relations are as their sorts ask for -/
def rtOK (I : MI) : Prop := ∀ p : Nat, p < 64 → (I 4 p = 2 → 0 ≤ I 5 p ∧ I 5 p < 8) ∧ (I 4 p = 3 → 0 ≤ I 5 p ∧ I 5 p < 8 ∧ 0 ≤ I 6 p ∧ I 6 p < 8)
theorem l_asked {N : Nat} {I : MI} {J : MJ} {p n : Nat} (hp : p < 64) (hr : 0 ≤ I 6 p ∧ I 6 p < 8) (h3 : I 4 p = 3) : ∀ (m k : Nat) (x : Int64), 7 ≤ m + k → k ≤ 6 → (∀ i, i < 64 → (tb x i = true ↔ ∃ q : Nat, q < k ∧ (i : Int) = q * 8 + I 6 p)) → V 20 (71, [some (aR 31), some (aI (p : Int)), some (aI (n : Int)), some (aL (x)), none, some (aI (k : Int))], [], MM N I J) (fun r M' => ∃ x, r = some (aL x) ∧ M' = MM N I J ∧ ∀ i, i < 64 → (tb x i = true ↔ askP I J p n i)) := by
  intro m
  induction m with
  | zero => intro k x h1 h2; exfalso; omega
  | succ m ih =>
    intro k x h1 h2 hb
    refine V.blk [(71, .iload 5, 2), (73, .bipush 6, 2), (75, .if_icmp .ge 103, 3)] (ps := []) (z' := (brc .ge (k : Int) 6 103 78, [some (aR 31), some (aI (p : Int)), some (aI (n : Int)), some (aL (x)), none, some (aI (k : Int))], [], MM N I J)) (by decide +kernel) rfl trivial ?_
    refine V.ge (fun h1 => ?_) (fun h2 => ?_)
    · skip
      refine V.blk [(103, .lload 3, 1)] (ps := []) (z' := (104, [some (aR 31), some (aI (p : Int)), some (aI (n : Int)), some (aL (x)), none, some (aI (k : Int))], [aL (x)], MM N I J)) (by decide +kernel) rfl trivial ?_
      refine V.rl (by decide +kernel) ?_
      have e : k = 6 := by omega
      subst e
      refine ⟨x, rfl, rfl, fun i hi => ?_⟩
      rw [hb i hi]
      unfold askP
      constructor
      · intro q
        obtain ⟨q, q1, q2⟩ := q
        exact Or.inr (Or.inr ⟨h3, q, q1, q2⟩)
      · intro q
        rcases q with q | q | q
        · exfalso; omega
        · exfalso; omega
        · exact q.2
    · skip
      refine V.blk [(78, .lload 3, 1), (79, .jsr_w 1, 1), (80, .iload 5, 2), (82, .aload 0, 1), (83, .getfield 2001, 3), (86, .getfield 6002, 3), (89, .iload 1, 1), (90, .iaload, 1)] (ps := [0 ≤ (p : Int) ∧ (p : Int) < 64]) (z' := (91, [some (aR 31), some (aI (p : Int)), some (aI (n : Int)), some (aL (x)), none, some (aI (k : Int))], [aI (I 6 p), aI (k : Int), aL (Int64.ofInt 1), aL (x)], MM N I J)) (by decide +kernel) rfl (show (0 ≤ (p : Int) ∧ (p : Int) < 64) from (by omega)) ?_
      refine V.cs (c := 109) (na := 2) [aI (I 6 p), aI (k : Int)] [aL (Int64.ofInt 1), aL (x)] (by decide +kernel) rfl rfl (V.pr (c_X9_knotOf (by omega)) ?_)
      show V 20 (94, [some (aR 31), some (aI (p : Int)), some (aI (n : Int)), some (aL (x)), none, some (aI (k : Int))], [aI ((k : Int) * 8 + (I 6 p)), aL (Int64.ofInt 1), aL (x)], MM N I J) _
      refine V.blk [(94, .lshl, 1), (95, .lor, 1), (96, .lstore 3, 1), (97, .iinc 5 1, 3), (100, .goto 71, 3)] (ps := [0 ≤ ((k : Int) * 8 + (I 6 p)) ∧ ((k : Int) * 8 + (I 6 p)) < 64, inR ((k : Int) + 1)]) (z' := (71, [some (aR 31), some (aI (p : Int)), some (aI (n : Int)), some (aL ((x) ||| (shll (Int64.ofInt 1) ((k : Int) * 8 + (I 6 p))))), none, some (aI ((k + 1 : Nat) : Int))], [], MM N I J)) (by decide +kernel) rfl (show (0 ≤ ((k : Int) * 8 + (I 6 p)) ∧ ((k : Int) * 8 + (I 6 p)) < 64) ∧ (inR ((k : Int) + 1)) from ⟨(by omega), (by unfold inR; omega)⟩) ?_
      refine ih (k + 1) _ (by omega) (by omega) (fun i hi => ?_)
      obtain ⟨b, eb⟩ : ∃ b : Nat, (k : Int) * 8 + I 6 p = b := ⟨((k : Int) * 8 + I 6 p).toNat, by omega⟩
      rw [eb]
      show tb (x ||| bt b) i = true ↔ _
      rw [tb_or, tb_bt (by omega), Bool.or_eq_true, decide_eq_true_eq, hb i hi]
      constructor
      · intro q
        rcases q with ⟨q, q1, q2⟩ | q
        · exact ⟨q, by omega, q2⟩
        · exact ⟨k, by omega, by omega⟩
      · intro q
        obtain ⟨q, q1, q2⟩ := q
        by_cases e : q = k
        · subst e; exact Or.inr (by omega)
        · exact Or.inl ⟨q, by omega, q2⟩
theorem c_asked {N : Nat} {I : MI} {J : MJ} {p n : Nat} (hp : p < 64) (hn : n < 48) (hr : rtOK I) : CT 20 [aR 31, aI (p : Int), aI (n : Int)] (MM N I J) (fun r M' => ∃ x, r = some (aL x) ∧ M' = MM N I J ∧ ∀ i, i < 64 → (tb x i = true ↔ askP I J p n i)) := by
  have hrp := hr p hp
  refine CT.ofV (n := 6) (ls := [some (aR 31), some (aI (p : Int)), some (aI (n : Int)), none, none, none]) rfl rfl rfl ?_
  refine V.blk [(0, .aload 0, 1), (1, .getfield 2001, 3), (4, .getfield 6000, 3), (7, .iload 1, 1), (8, .iaload, 1), (9, .tableswitch 105 0 3 #[40, 40, 47, 66], 31)] (ps := [0 ≤ (p : Int) ∧ (p : Int) < 64]) (z' := (tsw 105 0 3 [40, 40, 47, 66] (I 4 p), [some (aR 31), some (aI (p : Int)), some (aI (n : Int)), none, none, none], [], MM N I J)) (by decide +kernel) rfl (show (0 ≤ (p : Int) ∧ (p : Int) < 64) from (by omega)) ?_
  refine V.ts (fun k t1 hlt hle => ?_) (by decide) (fun h2 => ?_)
  · match k, t1, hlt with
    | 0, t1, _ =>
      show V 20 (40, [some (aR 31), some (aI (p : Int)), some (aI (n : Int)), none, none, none], [], MM N I J) _
      refine V.blk [(40, .aload 0, 1), (41, .getfield 2003, 3), (44, .iload 2, 1), (45, .laload, 1)] (ps := [0 ≤ (n : Int) ∧ (n : Int) < 48]) (z' := (46, [some (aR 31), some (aI (p : Int)), some (aI (n : Int)), none, none, none], [aL (J 32 n)], MM N I J)) (by decide +kernel) rfl (show (0 ≤ (n : Int) ∧ (n : Int) < 48) from (by omega)) ?_
      refine V.rl (by decide +kernel) ?_
      refine ⟨_, rfl, rfl, fun i hi => ?_⟩
      unfold askP
      constructor
      · intro q; exact Or.inl ⟨by omega, q⟩
      · intro q
        rcases q with q | q | q
        · exact q.2
        · exfalso; omega
        · exfalso; omega
    | 1, t1, _ =>
      show V 20 (40, [some (aR 31), some (aI (p : Int)), some (aI (n : Int)), none, none, none], [], MM N I J) _
      refine V.blk [(40, .aload 0, 1), (41, .getfield 2003, 3), (44, .iload 2, 1), (45, .laload, 1)] (ps := [0 ≤ (n : Int) ∧ (n : Int) < 48]) (z' := (46, [some (aR 31), some (aI (p : Int)), some (aI (n : Int)), none, none, none], [aL (J 32 n)], MM N I J)) (by decide +kernel) rfl (show (0 ≤ (n : Int) ∧ (n : Int) < 48) from (by omega)) ?_
      refine V.rl (by decide +kernel) ?_
      refine ⟨_, rfl, rfl, fun i hi => ?_⟩
      unfold askP
      constructor
      · intro q; exact Or.inl ⟨by omega, q⟩
      · intro q
        rcases q with q | q | q
        · exact q.2
        · exfalso; omega
        · exfalso; omega
    | 2, t1, _ =>
      show V 20 (47, [some (aR 31), some (aI (p : Int)), some (aI (n : Int)), none, none, none], [], MM N I J) _
      refine V.blk [(47, .jsr_w 1, 1), (48, .iload 2, 1), (49, .bipush 8, 2), (51, .idiv, 1), (52, .aload 0, 1), (53, .getfield 2001, 3), (56, .getfield 6001, 3), (59, .iload 1, 1), (60, .iaload, 1)] (ps := [0 ≤ (n : Int) ∧ 0 < 8, 0 ≤ (p : Int) ∧ (p : Int) < 64]) (z' := (61, [some (aR 31), some (aI (p : Int)), some (aI (n : Int)), none, none, none], [aI (I 5 p), aI ((n / 8 : Nat) : Int), aL (Int64.ofInt 1)], MM N I J)) (by decide +kernel) rfl (show (0 ≤ (n : Int) ∧ 0 < 8) ∧ (0 ≤ (p : Int) ∧ (p : Int) < 64) from ⟨(by omega), (by omega)⟩) ?_
      refine V.cs (c := 109) (na := 2) [aI (I 5 p), aI ((n / 8 : Nat) : Int)] [aL (Int64.ofInt 1)] (by decide +kernel) rfl rfl (V.pr (c_X9_knotOf (by omega)) ?_)
      show V 20 (64, [some (aR 31), some (aI (p : Int)), some (aI (n : Int)), none, none, none], [aI (((n / 8 : Nat) : Int) * 8 + (I 5 p)), aL (Int64.ofInt 1)], MM N I J) _
      refine V.blk [(64, .lshl, 1)] (ps := [0 ≤ (((n / 8 : Nat) : Int) * 8 + (I 5 p)) ∧ (((n / 8 : Nat) : Int) * 8 + (I 5 p)) < 64]) (z' := (65, [some (aR 31), some (aI (p : Int)), some (aI (n : Int)), none, none, none], [aL (shll (Int64.ofInt 1) (((n / 8 : Nat) : Int) * 8 + (I 5 p)))], MM N I J)) (by decide +kernel) rfl (show (0 ≤ (((n / 8 : Nat) : Int) * 8 + (I 5 p)) ∧ (((n / 8 : Nat) : Int) * 8 + (I 5 p)) < 64) from (by omega)) ?_
      refine V.rl (by decide +kernel) ?_
      obtain ⟨b, eb⟩ : ∃ b : Nat, ((n / 8 : Nat) : Int) * 8 + I 5 p = b := ⟨(((n / 8 : Nat) : Int) * 8 + I 5 p).toNat, by omega⟩
      refine ⟨_, rfl, rfl, fun i hi => ?_⟩
      rw [eb]
      show tb (bt b) i = true ↔ _
      rw [tb_bt (by omega), decide_eq_true_eq]
      unfold askP
      constructor
      · intro q; exact Or.inr (Or.inl ⟨by omega, by omega⟩)
      · intro q
        rcases q with q | q | q
        · exfalso; omega
        · omega
        · exfalso; omega
    | 3, t1, _ =>
      show V 20 (66, [some (aR 31), some (aI (p : Int)), some (aI (n : Int)), none, none, none], [], MM N I J) _
      refine V.blk [(66, .jsr_w 0, 1), (67, .lstore 3, 1), (68, .bipush 0, 1), (69, .istore 5, 2)] (ps := []) (z' := (71, [some (aR 31), some (aI (p : Int)), some (aI (n : Int)), some (aL (Int64.ofInt 0)), none, some (aI 0)], [], MM N I J)) (by decide +kernel) rfl trivial ?_
      exact l_asked hp (by omega) (by omega) 7 0 _ (by omega) (by omega) (fun i hi => ⟨(fun q => by rw [tb_0] at q; cases q), (fun q => by obtain ⟨q, q1, _⟩ := q; omega)⟩)
    | n + 4, _, hlt => exact absurd hlt (by simp)
  · show V 20 (105, [some (aR 31), some (aI (p : Int)), some (aI (n : Int)), none, none, none], [], MM N I J) _
    refine V.blk [(105, .jsr_w 0, 1)] (ps := []) (z' := (106, [some (aR 31), some (aI (p : Int)), some (aI (n : Int)), none, none, none], [aL (Int64.ofInt 0)], MM N I J)) (by decide +kernel) rfl trivial ?_
    refine V.rl (by decide +kernel) ?_
    refine ⟨_, rfl, rfl, fun i hi => ?_⟩
    rw [tb_0]
    unfold askP
    constructor
    · intro q; cases q
    · intro q
      rcases q with q | q | q <;> (exfalso; omega)
def ldJ (I : MI) (J : MJ) (m n i : Nat) : Prop := ∃ p : Nat, p < m ∧ tb (J 8 (I 7 n).toNat) p = true ∧ askP I J p n i
def ldT (I : MI) (J : MJ) (m n i : Nat) : Prop := ∃ p : Nat, p < m ∧ tb (J 9 (I 7 n).toNat) p = true ∧ askP I J p n i
theorem ex_s {P : Nat → Prop} {m : Nat} : (∃ p, p < m + 1 ∧ P p) ↔ (∃ p, p < m ∧ P p) ∨ P m := by
  constructor
  · intro q
    obtain ⟨p, h1, h2⟩ := q
    by_cases e : p = m
    · subst e; exact Or.inr h2
    · exact Or.inl ⟨p, by omega, h2⟩
  · intro h
    rcases h with ⟨p, h1, h2⟩ | h
    · exact ⟨p, by omega, h2⟩
    · exact ⟨m, by omega, h⟩
theorem askP_J {I : MI} {J J' : MJ} {p n i : Nat} (h : J' 32 = J 32) : askP I J' p n i ↔ askP I J p n i := by
  unfold askP
  rw [h]
theorem l_findLeads {N : Nat} {I : MI} {J : MJ} {n : Nat} (hn : n < 48) (h7 : -1 ≤ I 7 n ∧ I 7 n < 64) (hr : rtOK I) : ∀ (m p : Nat) (J' : MJ) (w4 w5 w6 w7 : Option AV), 66 ≤ m + p → (p : Int) ≤ I 7 n + 1 → (∀ i, i < 64 → (tb (J' 33 n) i = true ↔ ldJ I J p n i)) → (∀ i, i < 64 → (tb (J' 34 n) i = true ↔ ldT I J p n i)) → (∀ q, q ≠ n → J' 33 q = J 33 q ∧ J' 34 q = J 34 q) → (∀ i, i ≠ 33 → i ≠ 34 → J' i = J i) → V 19 (26, [some (aR 31), some (aI (n : Int)), some (aI (I 7 n)), some (aI (p : Int)), w4, w5, w6, w7], [], MM N I J') (fun r M' => r = none ∧ ∃ J', M' = MM N I J' ∧ (∀ i, i < 64 → (tb (J' 33 n) i = true ↔ ldJ I J (I 7 n + 1).toNat n i)) ∧ (∀ i, i < 64 → (tb (J' 34 n) i = true ↔ ldT I J (I 7 n + 1).toNat n i)) ∧ (∀ q, q ≠ n → J' 33 q = J 33 q ∧ J' 34 q = J 34 q) ∧ ∀ i, i ≠ 33 → i ≠ 34 → J' i = J i) := by
  intro m
  induction m with
  | zero => intro p J' w4 w5 w6 w7 h1 h2; exfalso; omega
  | succ m ih =>
    intro p J' w4 w5 w6 w7 h1 h2 hj ht hq ho
    have e8 : J' 8 = J 8 := ho 8 (by decide) (by decide)
    have e9 : J' 9 = J 9 := ho 9 (by decide) (by decide)
    have e32 : J' 32 = J 32 := ho 32 (by decide) (by decide)
    refine V.blk [(26, .iload 3, 1), (27, .iload 2, 1), (28, .if_icmp .gt 129, 3)] (ps := []) (z' := (brc .gt (p : Int) (I 7 n) 129 31, [some (aR 31), some (aI (n : Int)), some (aI (I 7 n)), some (aI (p : Int)), w4, w5, w6, w7], [], MM N I J')) (by decide +kernel) rfl trivial ?_
    refine V.gt (fun h1 => ?_) (fun h2 => ?_)
    · skip
      refine V.rv (by decide +kernel) ?_
      have e : (I 7 n + 1).toNat = p := by omega
      rw [e]
      exact ⟨rfl, _, rfl, hj, ht, hq, ho⟩
    · skip
      refine V.blk [(31, .aload 0, 1), (32, .getfield 2001, 3), (35, .getfield 6004, 3), (38, .iload 2, 1), (39, .laload, 1), (40, .iload 3, 1)] (ps := [0 ≤ (I 7 n) ∧ (I 7 n) < 64]) (z' := (41, [some (aR 31), some (aI (n : Int)), some (aI (I 7 n)), some (aI (p : Int)), w4, w5, w6, w7], [aI (p : Int), aL (J' 8 ((I 7 n).toNat))], MM N I J')) (by decide +kernel) rfl (show (0 ≤ (I 7 n) ∧ (I 7 n) < 64) from (by omega)) ?_
      refine V.cs (c := 107) (na := 2) [aI (p : Int), aL (J' 8 ((I 7 n).toNat))] [] (by decide +kernel) rfl rfl (V.pr (c_X9_hasBit (k := p) (by omega)) ?_)
      show V 19 (44, [some (aR 31), some (aI (n : Int)), some (aI (I 7 n)), some (aI (p : Int)), w4, w5, w6, w7], [aI (b2 (tb (J' 8 ((I 7 n).toNat)) p))], MM N I J') _
      refine V.blk [(44, .istore 4, 2), (46, .aload 0, 1), (47, .getfield 2001, 3), (50, .getfield 6005, 3), (53, .iload 2, 1), (54, .laload, 1), (55, .iload 3, 1)] (ps := [0 ≤ (I 7 n) ∧ (I 7 n) < 64]) (z' := (56, [some (aR 31), some (aI (n : Int)), some (aI (I 7 n)), some (aI (p : Int)), some (aI (b2 (tb (J' 8 ((I 7 n).toNat)) p))), w5, w6, w7], [aI (p : Int), aL (J' 9 ((I 7 n).toNat))], MM N I J')) (by decide +kernel) rfl (show (0 ≤ (I 7 n) ∧ (I 7 n) < 64) from (by omega)) ?_
      refine V.cs (c := 107) (na := 2) [aI (p : Int), aL (J' 9 ((I 7 n).toNat))] [] (by decide +kernel) rfl rfl (V.pr (c_X9_hasBit (k := p) (by omega)) ?_)
      show V 19 (59, [some (aR 31), some (aI (n : Int)), some (aI (I 7 n)), some (aI (p : Int)), some (aI (b2 (tb (J' 8 ((I 7 n).toNat)) p))), w5, w6, w7], [aI (b2 (tb (J' 9 ((I 7 n).toNat)) p))], MM N I J') _
      refine V.blk [(59, .istore 5, 2)] (ps := []) (z' := (61, [some (aR 31), some (aI (n : Int)), some (aI (I 7 n)), some (aI (p : Int)), some (aI (b2 (tb (J' 8 ((I 7 n).toNat)) p))), some (aI (b2 (tb (J' 9 ((I 7 n).toNat)) p))), w6, w7], [], MM N I J')) (by decide +kernel) rfl trivial ?_
      have hb1 := b2_in (tb (J' 8 (I 7 n).toNat) p)
      have hb2 := b2_in (tb (J' 9 (I 7 n).toNat) p)
      refine V.blk [(61, .iload 4, 2), (63, .ifCond .ne 71, 3)] (ps := []) (z' := (brc .ne (b2 (tb (J' 8 ((I 7 n).toNat)) p)) 0 71 66, [some (aR 31), some (aI (n : Int)), some (aI (I 7 n)), some (aI (p : Int)), some (aI (b2 (tb (J' 8 ((I 7 n).toNat)) p))), some (aI (b2 (tb (J' 9 ((I 7 n).toNat)) p))), w6, w7], [], MM N I J')) (by decide +kernel) rfl trivial ?_
      refine V.ne (fun h3 => ?_) (fun h4 => ?_)
      · skip
        refine V.blk [(71, .aload 0, 1), (72, .iload 3, 1), (73, .iload 1, 1)] (ps := []) (z' := (74, [some (aR 31), some (aI (n : Int)), some (aI (I 7 n)), some (aI (p : Int)), some (aI (b2 (tb (J' 8 ((I 7 n).toNat)) p))), some (aI (b2 (tb (J' 9 ((I 7 n).toNat)) p))), w6, w7], [aI (n : Int), aI (p : Int), aR 31], MM N I J')) (by decide +kernel) rfl trivial ?_
        refine V.cv (c := 20) (na := 3) (o := 2) (a := 31) [aI (n : Int), aI (p : Int)] [] (by decide +kernel) rfl rfl rfl rfl rfl ((c_asked (p := p) (n := n) (by omega) (by omega) hr).mono (fun rv M1 q => ?_))
        obtain ⟨x5, rfl, rfl, hx5⟩ := q
        show V 19 (77, [some (aR 31), some (aI (n : Int)), some (aI (I 7 n)), some (aI (p : Int)), some (aI (b2 (tb (J' 8 ((I 7 n).toNat)) p))), some (aI (b2 (tb (J' 9 ((I 7 n).toNat)) p))), w6, w7], [aL (x5)], MM N I J') _
        refine V.blk [(77, .goto 81, 3), (81, .lstore 6, 2), (83, .aload 0, 1), (84, .getfield 2004, 3), (87, .iload 1, 1), (88, .dup2, 1), (89, .laload, 1), (90, .iload 4, 2), (92, .ifCond .eq 100, 3)] (ps := [0 ≤ (n : Int) ∧ (n : Int) < 48]) (z' := (brc .eq (b2 (tb (J' 8 ((I 7 n).toNat)) p)) 0 100 95, [some (aR 31), some (aI (n : Int)), some (aI (I 7 n)), some (aI (p : Int)), some (aI (b2 (tb (J' 8 ((I 7 n).toNat)) p))), some (aI (b2 (tb (J' 9 ((I 7 n).toNat)) p))), some (aL (x5)), none], [aL (J' 33 n), aI (n : Int), aR 33], MM N I J')) (by decide +kernel) rfl (show (0 ≤ (n : Int) ∧ (n : Int) < 48) from (by omega)) ?_
        refine V.eq (fun h6 => ?_) (fun h7 => ?_)
        · skip
          refine V.blk [(100, .jsr_w 0, 1), (101, .lor, 1), (102, .lastore, 1), (103, .aload 0, 1), (104, .getfield 2005, 3), (107, .iload 1, 1), (108, .dup2, 1), (109, .laload, 1), (110, .iload 5, 2), (112, .ifCond .eq 120, 3)] (ps := [0 ≤ (n : Int) ∧ (n : Int) < 48, 0 ≤ (n : Int) ∧ (n : Int) < 48]) (z' := (brc .eq (b2 (tb (J' 9 ((I 7 n).toNat)) p)) 0 120 115, [some (aR 31), some (aI (n : Int)), some (aI (I 7 n)), some (aI (p : Int)), some (aI (b2 (tb (J' 8 ((I 7 n).toNat)) p))), some (aI (b2 (tb (J' 9 ((I 7 n).toNat)) p))), some (aL (x5)), none], [aL ((ma J' 33 (ma (J' 33) n ((J' 33 n) ||| (Int64.ofInt 0)))) 34 n), aI (n : Int), aR 34], MM N I (ma J' 33 (ma (J' 33) n ((J' 33 n) ||| (Int64.ofInt 0)))))) (by decide +kernel) rfl (show (0 ≤ (n : Int) ∧ (n : Int) < 48) ∧ (0 ≤ (n : Int) ∧ (n : Int) < 48) from ⟨(by omega), (by omega)⟩) ?_
          refine V.nJ (fun J8 eJ8 => ?_)
          refine V.eq (fun h9 => ?_) (fun h10 => ?_)
          · skip
            refine V.blk [(120, .jsr_w 0, 1), (121, .lor, 1), (122, .lastore, 1), (123, .iinc 3 1, 3), (126, .goto 26, 3)] (ps := [0 ≤ (n : Int) ∧ (n : Int) < 48, inR ((p : Int) + 1)]) (z' := (26, [some (aR 31), some (aI (n : Int)), some (aI (I 7 n)), some (aI ((p + 1 : Nat) : Int)), some (aI (b2 (tb (J' 8 ((I 7 n).toNat)) p))), some (aI (b2 (tb (J' 9 ((I 7 n).toNat)) p))), some (aL (x5)), none], [], MM N I (ma J8 34 (ma (J8 34) n (((ma J' 33 (ma (J' 33) n ((J' 33 n) ||| (Int64.ofInt 0)))) 34 n) ||| (Int64.ofInt 0)))))) (by decide +kernel) rfl (show (0 ≤ (n : Int) ∧ (n : Int) < 48) ∧ (inR ((p : Int) + 1)) from ⟨(by omega), (by unfold inR; omega)⟩) ?_
            refine V.nJ (fun J11 eJ11 => ?_)
            refine ih (p + 1) _ _ _ _ _ (by omega) (by omega) (fun i hi => ?_) (fun i hi => ?_) (fun q hqn => ?_) (fun i h33 h34 => ?_)
            · subst_vars
              simp only [ma_self, ma_ne _ _ (show (33 : Nat) ≠ 34 by decide), ma_ne _ _ (show (34 : Nat) ≠ 33 by decide)]
              unfold ldJ
              rw [ex_s]
              unfold ldJ at hj
              simp only [tb_or, tb_0, Bool.or_eq_true, hj i hi, ← e8]
              simp_all [b2_0, b2_n0, tb_0, askP_J]
            · subst_vars
              simp only [ma_self, ma_ne _ _ (show (33 : Nat) ≠ 34 by decide), ma_ne _ _ (show (34 : Nat) ≠ 33 by decide)]
              unfold ldT
              rw [ex_s]
              unfold ldT at ht
              simp only [tb_or, tb_0, Bool.or_eq_true, ht i hi, ← e9]
              simp_all [b2_0, b2_n0, tb_0, askP_J]
            · subst_vars
              simp only [ma_self, ma_ne _ _ (show (33 : Nat) ≠ 34 by decide), ma_ne _ _ (show (34 : Nat) ≠ 33 by decide), ma_ne _ _ hqn]
              exact hq q hqn
            · subst_vars
              rw [ma_ne _ _ h34, ma_ne _ _ h33]
              exact ho i h33 h34
          · skip
            refine V.blk [(115, .lload 6, 2), (117, .goto 121, 3), (121, .lor, 1), (122, .lastore, 1), (123, .iinc 3 1, 3), (126, .goto 26, 3)] (ps := [0 ≤ (n : Int) ∧ (n : Int) < 48, inR ((p : Int) + 1)]) (z' := (26, [some (aR 31), some (aI (n : Int)), some (aI (I 7 n)), some (aI ((p + 1 : Nat) : Int)), some (aI (b2 (tb (J' 8 ((I 7 n).toNat)) p))), some (aI (b2 (tb (J' 9 ((I 7 n).toNat)) p))), some (aL (x5)), none], [], MM N I (ma J8 34 (ma (J8 34) n (((ma J' 33 (ma (J' 33) n ((J' 33 n) ||| (Int64.ofInt 0)))) 34 n) ||| (x5)))))) (by decide +kernel) rfl (show (0 ≤ (n : Int) ∧ (n : Int) < 48) ∧ (inR ((p : Int) + 1)) from ⟨(by omega), (by unfold inR; omega)⟩) ?_
            refine V.nJ (fun J12 eJ12 => ?_)
            refine ih (p + 1) _ _ _ _ _ (by omega) (by omega) (fun i hi => ?_) (fun i hi => ?_) (fun q hqn => ?_) (fun i h33 h34 => ?_)
            · subst_vars
              simp only [ma_self, ma_ne _ _ (show (33 : Nat) ≠ 34 by decide), ma_ne _ _ (show (34 : Nat) ≠ 33 by decide)]
              unfold ldJ
              rw [ex_s]
              unfold ldJ at hj
              simp only [tb_or, tb_0, Bool.or_eq_true, hj i hi, ← e8]
              simp_all [b2_0, b2_n0, tb_0, askP_J]
            · subst_vars
              simp only [ma_self, ma_ne _ _ (show (33 : Nat) ≠ 34 by decide), ma_ne _ _ (show (34 : Nat) ≠ 33 by decide)]
              unfold ldT
              rw [ex_s]
              unfold ldT at ht
              simp only [tb_or, tb_0, Bool.or_eq_true, ht i hi, ← e9]
              simp_all [b2_0, b2_n0, tb_0, askP_J]
            · subst_vars
              simp only [ma_self, ma_ne _ _ (show (33 : Nat) ≠ 34 by decide), ma_ne _ _ (show (34 : Nat) ≠ 33 by decide), ma_ne _ _ hqn]
              exact hq q hqn
            · subst_vars
              rw [ma_ne _ _ h34, ma_ne _ _ h33]
              exact ho i h33 h34
        · skip
          refine V.blk [(95, .lload 6, 2), (97, .goto 101, 3), (101, .lor, 1), (102, .lastore, 1), (103, .aload 0, 1), (104, .getfield 2005, 3), (107, .iload 1, 1), (108, .dup2, 1), (109, .laload, 1), (110, .iload 5, 2), (112, .ifCond .eq 120, 3)] (ps := [0 ≤ (n : Int) ∧ (n : Int) < 48, 0 ≤ (n : Int) ∧ (n : Int) < 48]) (z' := (brc .eq (b2 (tb (J' 9 ((I 7 n).toNat)) p)) 0 120 115, [some (aR 31), some (aI (n : Int)), some (aI (I 7 n)), some (aI (p : Int)), some (aI (b2 (tb (J' 8 ((I 7 n).toNat)) p))), some (aI (b2 (tb (J' 9 ((I 7 n).toNat)) p))), some (aL (x5)), none], [aL ((ma J' 33 (ma (J' 33) n ((J' 33 n) ||| (x5)))) 34 n), aI (n : Int), aR 34], MM N I (ma J' 33 (ma (J' 33) n ((J' 33 n) ||| (x5)))))) (by decide +kernel) rfl (show (0 ≤ (n : Int) ∧ (n : Int) < 48) ∧ (0 ≤ (n : Int) ∧ (n : Int) < 48) from ⟨(by omega), (by omega)⟩) ?_
          refine V.nJ (fun J13 eJ13 => ?_)
          refine V.eq (fun h14 => ?_) (fun h15 => ?_)
          · skip
            refine V.blk [(120, .jsr_w 0, 1), (121, .lor, 1), (122, .lastore, 1), (123, .iinc 3 1, 3), (126, .goto 26, 3)] (ps := [0 ≤ (n : Int) ∧ (n : Int) < 48, inR ((p : Int) + 1)]) (z' := (26, [some (aR 31), some (aI (n : Int)), some (aI (I 7 n)), some (aI ((p + 1 : Nat) : Int)), some (aI (b2 (tb (J' 8 ((I 7 n).toNat)) p))), some (aI (b2 (tb (J' 9 ((I 7 n).toNat)) p))), some (aL (x5)), none], [], MM N I (ma J13 34 (ma (J13 34) n (((ma J' 33 (ma (J' 33) n ((J' 33 n) ||| (x5)))) 34 n) ||| (Int64.ofInt 0)))))) (by decide +kernel) rfl (show (0 ≤ (n : Int) ∧ (n : Int) < 48) ∧ (inR ((p : Int) + 1)) from ⟨(by omega), (by unfold inR; omega)⟩) ?_
            refine V.nJ (fun J16 eJ16 => ?_)
            refine ih (p + 1) _ _ _ _ _ (by omega) (by omega) (fun i hi => ?_) (fun i hi => ?_) (fun q hqn => ?_) (fun i h33 h34 => ?_)
            · subst_vars
              simp only [ma_self, ma_ne _ _ (show (33 : Nat) ≠ 34 by decide), ma_ne _ _ (show (34 : Nat) ≠ 33 by decide)]
              unfold ldJ
              rw [ex_s]
              unfold ldJ at hj
              simp only [tb_or, tb_0, Bool.or_eq_true, hj i hi, ← e8]
              simp_all [b2_0, b2_n0, tb_0, askP_J]
            · subst_vars
              simp only [ma_self, ma_ne _ _ (show (33 : Nat) ≠ 34 by decide), ma_ne _ _ (show (34 : Nat) ≠ 33 by decide)]
              unfold ldT
              rw [ex_s]
              unfold ldT at ht
              simp only [tb_or, tb_0, Bool.or_eq_true, ht i hi, ← e9]
              simp_all [b2_0, b2_n0, tb_0, askP_J]
            · subst_vars
              simp only [ma_self, ma_ne _ _ (show (33 : Nat) ≠ 34 by decide), ma_ne _ _ (show (34 : Nat) ≠ 33 by decide), ma_ne _ _ hqn]
              exact hq q hqn
            · subst_vars
              rw [ma_ne _ _ h34, ma_ne _ _ h33]
              exact ho i h33 h34
          · skip
            refine V.blk [(115, .lload 6, 2), (117, .goto 121, 3), (121, .lor, 1), (122, .lastore, 1), (123, .iinc 3 1, 3), (126, .goto 26, 3)] (ps := [0 ≤ (n : Int) ∧ (n : Int) < 48, inR ((p : Int) + 1)]) (z' := (26, [some (aR 31), some (aI (n : Int)), some (aI (I 7 n)), some (aI ((p + 1 : Nat) : Int)), some (aI (b2 (tb (J' 8 ((I 7 n).toNat)) p))), some (aI (b2 (tb (J' 9 ((I 7 n).toNat)) p))), some (aL (x5)), none], [], MM N I (ma J13 34 (ma (J13 34) n (((ma J' 33 (ma (J' 33) n ((J' 33 n) ||| (x5)))) 34 n) ||| (x5)))))) (by decide +kernel) rfl (show (0 ≤ (n : Int) ∧ (n : Int) < 48) ∧ (inR ((p : Int) + 1)) from ⟨(by omega), (by unfold inR; omega)⟩) ?_
            refine V.nJ (fun J17 eJ17 => ?_)
            refine ih (p + 1) _ _ _ _ _ (by omega) (by omega) (fun i hi => ?_) (fun i hi => ?_) (fun q hqn => ?_) (fun i h33 h34 => ?_)
            · subst_vars
              simp only [ma_self, ma_ne _ _ (show (33 : Nat) ≠ 34 by decide), ma_ne _ _ (show (34 : Nat) ≠ 33 by decide)]
              unfold ldJ
              rw [ex_s]
              unfold ldJ at hj
              simp only [tb_or, tb_0, Bool.or_eq_true, hj i hi, ← e8]
              simp_all [b2_0, b2_n0, tb_0, askP_J]
            · subst_vars
              simp only [ma_self, ma_ne _ _ (show (33 : Nat) ≠ 34 by decide), ma_ne _ _ (show (34 : Nat) ≠ 33 by decide)]
              unfold ldT
              rw [ex_s]
              unfold ldT at ht
              simp only [tb_or, tb_0, Bool.or_eq_true, ht i hi, ← e9]
              simp_all [b2_0, b2_n0, tb_0, askP_J]
            · subst_vars
              simp only [ma_self, ma_ne _ _ (show (33 : Nat) ≠ 34 by decide), ma_ne _ _ (show (34 : Nat) ≠ 33 by decide), ma_ne _ _ hqn]
              exact hq q hqn
            · subst_vars
              rw [ma_ne _ _ h34, ma_ne _ _ h33]
              exact ho i h33 h34
      · skip
        refine V.blk [(66, .iload 5, 2), (68, .ifCond .eq 80, 3)] (ps := []) (z' := (brc .eq (b2 (tb (J' 9 ((I 7 n).toNat)) p)) 0 80 71, [some (aR 31), some (aI (n : Int)), some (aI (I 7 n)), some (aI (p : Int)), some (aI (b2 (tb (J' 8 ((I 7 n).toNat)) p))), some (aI (b2 (tb (J' 9 ((I 7 n).toNat)) p))), w6, w7], [], MM N I J')) (by decide +kernel) rfl trivial ?_
        refine V.eq (fun h18 => ?_) (fun h19 => ?_)
        · skip
          refine V.blk [(80, .jsr_w 0, 1), (81, .lstore 6, 2), (83, .aload 0, 1), (84, .getfield 2004, 3), (87, .iload 1, 1), (88, .dup2, 1), (89, .laload, 1), (90, .iload 4, 2), (92, .ifCond .eq 100, 3)] (ps := [0 ≤ (n : Int) ∧ (n : Int) < 48]) (z' := (brc .eq (b2 (tb (J' 8 ((I 7 n).toNat)) p)) 0 100 95, [some (aR 31), some (aI (n : Int)), some (aI (I 7 n)), some (aI (p : Int)), some (aI (b2 (tb (J' 8 ((I 7 n).toNat)) p))), some (aI (b2 (tb (J' 9 ((I 7 n).toNat)) p))), some (aL (Int64.ofInt 0)), none], [aL (J' 33 n), aI (n : Int), aR 33], MM N I J')) (by decide +kernel) rfl (show (0 ≤ (n : Int) ∧ (n : Int) < 48) from (by omega)) ?_
          refine V.eq (fun h20 => ?_) (fun h21 => ?_)
          · skip
            refine V.blk [(100, .jsr_w 0, 1), (101, .lor, 1), (102, .lastore, 1), (103, .aload 0, 1), (104, .getfield 2005, 3), (107, .iload 1, 1), (108, .dup2, 1), (109, .laload, 1), (110, .iload 5, 2), (112, .ifCond .eq 120, 3)] (ps := [0 ≤ (n : Int) ∧ (n : Int) < 48, 0 ≤ (n : Int) ∧ (n : Int) < 48]) (z' := (brc .eq (b2 (tb (J' 9 ((I 7 n).toNat)) p)) 0 120 115, [some (aR 31), some (aI (n : Int)), some (aI (I 7 n)), some (aI (p : Int)), some (aI (b2 (tb (J' 8 ((I 7 n).toNat)) p))), some (aI (b2 (tb (J' 9 ((I 7 n).toNat)) p))), some (aL (Int64.ofInt 0)), none], [aL ((ma J' 33 (ma (J' 33) n ((J' 33 n) ||| (Int64.ofInt 0)))) 34 n), aI (n : Int), aR 34], MM N I (ma J' 33 (ma (J' 33) n ((J' 33 n) ||| (Int64.ofInt 0)))))) (by decide +kernel) rfl (show (0 ≤ (n : Int) ∧ (n : Int) < 48) ∧ (0 ≤ (n : Int) ∧ (n : Int) < 48) from ⟨(by omega), (by omega)⟩) ?_
            refine V.nJ (fun J22 eJ22 => ?_)
            refine V.eq (fun h23 => ?_) (fun h24 => ?_)
            · skip
              refine V.blk [(120, .jsr_w 0, 1), (121, .lor, 1), (122, .lastore, 1), (123, .iinc 3 1, 3), (126, .goto 26, 3)] (ps := [0 ≤ (n : Int) ∧ (n : Int) < 48, inR ((p : Int) + 1)]) (z' := (26, [some (aR 31), some (aI (n : Int)), some (aI (I 7 n)), some (aI ((p + 1 : Nat) : Int)), some (aI (b2 (tb (J' 8 ((I 7 n).toNat)) p))), some (aI (b2 (tb (J' 9 ((I 7 n).toNat)) p))), some (aL (Int64.ofInt 0)), none], [], MM N I (ma J22 34 (ma (J22 34) n (((ma J' 33 (ma (J' 33) n ((J' 33 n) ||| (Int64.ofInt 0)))) 34 n) ||| (Int64.ofInt 0)))))) (by decide +kernel) rfl (show (0 ≤ (n : Int) ∧ (n : Int) < 48) ∧ (inR ((p : Int) + 1)) from ⟨(by omega), (by unfold inR; omega)⟩) ?_
              refine V.nJ (fun J25 eJ25 => ?_)
              refine ih (p + 1) _ _ _ _ _ (by omega) (by omega) (fun i hi => ?_) (fun i hi => ?_) (fun q hqn => ?_) (fun i h33 h34 => ?_)
              · subst_vars
                simp only [ma_self, ma_ne _ _ (show (33 : Nat) ≠ 34 by decide), ma_ne _ _ (show (34 : Nat) ≠ 33 by decide)]
                unfold ldJ
                rw [ex_s]
                unfold ldJ at hj
                simp only [tb_or, tb_0, Bool.or_eq_true, hj i hi, ← e8]
                simp_all [b2_0, b2_n0, tb_0, askP_J]
              · subst_vars
                simp only [ma_self, ma_ne _ _ (show (33 : Nat) ≠ 34 by decide), ma_ne _ _ (show (34 : Nat) ≠ 33 by decide)]
                unfold ldT
                rw [ex_s]
                unfold ldT at ht
                simp only [tb_or, tb_0, Bool.or_eq_true, ht i hi, ← e9]
                simp_all [b2_0, b2_n0, tb_0, askP_J]
              · subst_vars
                simp only [ma_self, ma_ne _ _ (show (33 : Nat) ≠ 34 by decide), ma_ne _ _ (show (34 : Nat) ≠ 33 by decide), ma_ne _ _ hqn]
                exact hq q hqn
              · subst_vars
                rw [ma_ne _ _ h34, ma_ne _ _ h33]
                exact ho i h33 h34
            · skip
              refine V.blk [(115, .lload 6, 2), (117, .goto 121, 3), (121, .lor, 1), (122, .lastore, 1), (123, .iinc 3 1, 3), (126, .goto 26, 3)] (ps := [0 ≤ (n : Int) ∧ (n : Int) < 48, inR ((p : Int) + 1)]) (z' := (26, [some (aR 31), some (aI (n : Int)), some (aI (I 7 n)), some (aI ((p + 1 : Nat) : Int)), some (aI (b2 (tb (J' 8 ((I 7 n).toNat)) p))), some (aI (b2 (tb (J' 9 ((I 7 n).toNat)) p))), some (aL (Int64.ofInt 0)), none], [], MM N I (ma J22 34 (ma (J22 34) n (((ma J' 33 (ma (J' 33) n ((J' 33 n) ||| (Int64.ofInt 0)))) 34 n) ||| (Int64.ofInt 0)))))) (by decide +kernel) rfl (show (0 ≤ (n : Int) ∧ (n : Int) < 48) ∧ (inR ((p : Int) + 1)) from ⟨(by omega), (by unfold inR; omega)⟩) ?_
              refine V.nJ (fun J26 eJ26 => ?_)
              refine ih (p + 1) _ _ _ _ _ (by omega) (by omega) (fun i hi => ?_) (fun i hi => ?_) (fun q hqn => ?_) (fun i h33 h34 => ?_)
              · subst_vars
                simp only [ma_self, ma_ne _ _ (show (33 : Nat) ≠ 34 by decide), ma_ne _ _ (show (34 : Nat) ≠ 33 by decide)]
                unfold ldJ
                rw [ex_s]
                unfold ldJ at hj
                simp only [tb_or, tb_0, Bool.or_eq_true, hj i hi, ← e8]
                simp_all [b2_0, b2_n0, tb_0, askP_J]
              · subst_vars
                simp only [ma_self, ma_ne _ _ (show (33 : Nat) ≠ 34 by decide), ma_ne _ _ (show (34 : Nat) ≠ 33 by decide)]
                unfold ldT
                rw [ex_s]
                unfold ldT at ht
                simp only [tb_or, tb_0, Bool.or_eq_true, ht i hi, ← e9]
                simp_all [b2_0, b2_n0, tb_0, askP_J]
              · subst_vars
                simp only [ma_self, ma_ne _ _ (show (33 : Nat) ≠ 34 by decide), ma_ne _ _ (show (34 : Nat) ≠ 33 by decide), ma_ne _ _ hqn]
                exact hq q hqn
              · subst_vars
                rw [ma_ne _ _ h34, ma_ne _ _ h33]
                exact ho i h33 h34
          · skip
            refine V.blk [(95, .lload 6, 2), (97, .goto 101, 3), (101, .lor, 1), (102, .lastore, 1), (103, .aload 0, 1), (104, .getfield 2005, 3), (107, .iload 1, 1), (108, .dup2, 1), (109, .laload, 1), (110, .iload 5, 2), (112, .ifCond .eq 120, 3)] (ps := [0 ≤ (n : Int) ∧ (n : Int) < 48, 0 ≤ (n : Int) ∧ (n : Int) < 48]) (z' := (brc .eq (b2 (tb (J' 9 ((I 7 n).toNat)) p)) 0 120 115, [some (aR 31), some (aI (n : Int)), some (aI (I 7 n)), some (aI (p : Int)), some (aI (b2 (tb (J' 8 ((I 7 n).toNat)) p))), some (aI (b2 (tb (J' 9 ((I 7 n).toNat)) p))), some (aL (Int64.ofInt 0)), none], [aL ((ma J' 33 (ma (J' 33) n ((J' 33 n) ||| (Int64.ofInt 0)))) 34 n), aI (n : Int), aR 34], MM N I (ma J' 33 (ma (J' 33) n ((J' 33 n) ||| (Int64.ofInt 0)))))) (by decide +kernel) rfl (show (0 ≤ (n : Int) ∧ (n : Int) < 48) ∧ (0 ≤ (n : Int) ∧ (n : Int) < 48) from ⟨(by omega), (by omega)⟩) ?_
            refine V.nJ (fun J27 eJ27 => ?_)
            refine V.eq (fun h28 => ?_) (fun h29 => ?_)
            · skip
              refine V.blk [(120, .jsr_w 0, 1), (121, .lor, 1), (122, .lastore, 1), (123, .iinc 3 1, 3), (126, .goto 26, 3)] (ps := [0 ≤ (n : Int) ∧ (n : Int) < 48, inR ((p : Int) + 1)]) (z' := (26, [some (aR 31), some (aI (n : Int)), some (aI (I 7 n)), some (aI ((p + 1 : Nat) : Int)), some (aI (b2 (tb (J' 8 ((I 7 n).toNat)) p))), some (aI (b2 (tb (J' 9 ((I 7 n).toNat)) p))), some (aL (Int64.ofInt 0)), none], [], MM N I (ma J27 34 (ma (J27 34) n (((ma J' 33 (ma (J' 33) n ((J' 33 n) ||| (Int64.ofInt 0)))) 34 n) ||| (Int64.ofInt 0)))))) (by decide +kernel) rfl (show (0 ≤ (n : Int) ∧ (n : Int) < 48) ∧ (inR ((p : Int) + 1)) from ⟨(by omega), (by unfold inR; omega)⟩) ?_
              refine V.nJ (fun J30 eJ30 => ?_)
              refine ih (p + 1) _ _ _ _ _ (by omega) (by omega) (fun i hi => ?_) (fun i hi => ?_) (fun q hqn => ?_) (fun i h33 h34 => ?_)
              · subst_vars
                simp only [ma_self, ma_ne _ _ (show (33 : Nat) ≠ 34 by decide), ma_ne _ _ (show (34 : Nat) ≠ 33 by decide)]
                unfold ldJ
                rw [ex_s]
                unfold ldJ at hj
                simp only [tb_or, tb_0, Bool.or_eq_true, hj i hi, ← e8]
                simp_all [b2_0, b2_n0, tb_0, askP_J]
              · subst_vars
                simp only [ma_self, ma_ne _ _ (show (33 : Nat) ≠ 34 by decide), ma_ne _ _ (show (34 : Nat) ≠ 33 by decide)]
                unfold ldT
                rw [ex_s]
                unfold ldT at ht
                simp only [tb_or, tb_0, Bool.or_eq_true, ht i hi, ← e9]
                simp_all [b2_0, b2_n0, tb_0, askP_J]
              · subst_vars
                simp only [ma_self, ma_ne _ _ (show (33 : Nat) ≠ 34 by decide), ma_ne _ _ (show (34 : Nat) ≠ 33 by decide), ma_ne _ _ hqn]
                exact hq q hqn
              · subst_vars
                rw [ma_ne _ _ h34, ma_ne _ _ h33]
                exact ho i h33 h34
            · skip
              refine V.blk [(115, .lload 6, 2), (117, .goto 121, 3), (121, .lor, 1), (122, .lastore, 1), (123, .iinc 3 1, 3), (126, .goto 26, 3)] (ps := [0 ≤ (n : Int) ∧ (n : Int) < 48, inR ((p : Int) + 1)]) (z' := (26, [some (aR 31), some (aI (n : Int)), some (aI (I 7 n)), some (aI ((p + 1 : Nat) : Int)), some (aI (b2 (tb (J' 8 ((I 7 n).toNat)) p))), some (aI (b2 (tb (J' 9 ((I 7 n).toNat)) p))), some (aL (Int64.ofInt 0)), none], [], MM N I (ma J27 34 (ma (J27 34) n (((ma J' 33 (ma (J' 33) n ((J' 33 n) ||| (Int64.ofInt 0)))) 34 n) ||| (Int64.ofInt 0)))))) (by decide +kernel) rfl (show (0 ≤ (n : Int) ∧ (n : Int) < 48) ∧ (inR ((p : Int) + 1)) from ⟨(by omega), (by unfold inR; omega)⟩) ?_
              refine V.nJ (fun J31 eJ31 => ?_)
              refine ih (p + 1) _ _ _ _ _ (by omega) (by omega) (fun i hi => ?_) (fun i hi => ?_) (fun q hqn => ?_) (fun i h33 h34 => ?_)
              · subst_vars
                simp only [ma_self, ma_ne _ _ (show (33 : Nat) ≠ 34 by decide), ma_ne _ _ (show (34 : Nat) ≠ 33 by decide)]
                unfold ldJ
                rw [ex_s]
                unfold ldJ at hj
                simp only [tb_or, tb_0, Bool.or_eq_true, hj i hi, ← e8]
                simp_all [b2_0, b2_n0, tb_0, askP_J]
              · subst_vars
                simp only [ma_self, ma_ne _ _ (show (33 : Nat) ≠ 34 by decide), ma_ne _ _ (show (34 : Nat) ≠ 33 by decide)]
                unfold ldT
                rw [ex_s]
                unfold ldT at ht
                simp only [tb_or, tb_0, Bool.or_eq_true, ht i hi, ← e9]
                simp_all [b2_0, b2_n0, tb_0, askP_J]
              · subst_vars
                simp only [ma_self, ma_ne _ _ (show (33 : Nat) ≠ 34 by decide), ma_ne _ _ (show (34 : Nat) ≠ 33 by decide), ma_ne _ _ hqn]
                exact hq q hqn
              · subst_vars
                rw [ma_ne _ _ h34, ma_ne _ _ h33]
                exact ho i h33 h34
        · skip
          refine V.blk [(71, .aload 0, 1), (72, .iload 3, 1), (73, .iload 1, 1)] (ps := []) (z' := (74, [some (aR 31), some (aI (n : Int)), some (aI (I 7 n)), some (aI (p : Int)), some (aI (b2 (tb (J' 8 ((I 7 n).toNat)) p))), some (aI (b2 (tb (J' 9 ((I 7 n).toNat)) p))), w6, w7], [aI (n : Int), aI (p : Int), aR 31], MM N I J')) (by decide +kernel) rfl trivial ?_
          refine V.cv (c := 20) (na := 3) (o := 2) (a := 31) [aI (n : Int), aI (p : Int)] [] (by decide +kernel) rfl rfl rfl rfl rfl ((c_asked (p := p) (n := n) (by omega) (by omega) hr).mono (fun rv M1 q => ?_))
          obtain ⟨x32, rfl, rfl, hx32⟩ := q
          show V 19 (77, [some (aR 31), some (aI (n : Int)), some (aI (I 7 n)), some (aI (p : Int)), some (aI (b2 (tb (J' 8 ((I 7 n).toNat)) p))), some (aI (b2 (tb (J' 9 ((I 7 n).toNat)) p))), w6, w7], [aL (x32)], MM N I J') _
          refine V.blk [(77, .goto 81, 3), (81, .lstore 6, 2), (83, .aload 0, 1), (84, .getfield 2004, 3), (87, .iload 1, 1), (88, .dup2, 1), (89, .laload, 1), (90, .iload 4, 2), (92, .ifCond .eq 100, 3)] (ps := [0 ≤ (n : Int) ∧ (n : Int) < 48]) (z' := (brc .eq (b2 (tb (J' 8 ((I 7 n).toNat)) p)) 0 100 95, [some (aR 31), some (aI (n : Int)), some (aI (I 7 n)), some (aI (p : Int)), some (aI (b2 (tb (J' 8 ((I 7 n).toNat)) p))), some (aI (b2 (tb (J' 9 ((I 7 n).toNat)) p))), some (aL (x32)), none], [aL (J' 33 n), aI (n : Int), aR 33], MM N I J')) (by decide +kernel) rfl (show (0 ≤ (n : Int) ∧ (n : Int) < 48) from (by omega)) ?_
          refine V.eq (fun h33 => ?_) (fun h34 => ?_)
          · skip
            refine V.blk [(100, .jsr_w 0, 1), (101, .lor, 1), (102, .lastore, 1), (103, .aload 0, 1), (104, .getfield 2005, 3), (107, .iload 1, 1), (108, .dup2, 1), (109, .laload, 1), (110, .iload 5, 2), (112, .ifCond .eq 120, 3)] (ps := [0 ≤ (n : Int) ∧ (n : Int) < 48, 0 ≤ (n : Int) ∧ (n : Int) < 48]) (z' := (brc .eq (b2 (tb (J' 9 ((I 7 n).toNat)) p)) 0 120 115, [some (aR 31), some (aI (n : Int)), some (aI (I 7 n)), some (aI (p : Int)), some (aI (b2 (tb (J' 8 ((I 7 n).toNat)) p))), some (aI (b2 (tb (J' 9 ((I 7 n).toNat)) p))), some (aL (x32)), none], [aL ((ma J' 33 (ma (J' 33) n ((J' 33 n) ||| (Int64.ofInt 0)))) 34 n), aI (n : Int), aR 34], MM N I (ma J' 33 (ma (J' 33) n ((J' 33 n) ||| (Int64.ofInt 0)))))) (by decide +kernel) rfl (show (0 ≤ (n : Int) ∧ (n : Int) < 48) ∧ (0 ≤ (n : Int) ∧ (n : Int) < 48) from ⟨(by omega), (by omega)⟩) ?_
            refine V.nJ (fun J35 eJ35 => ?_)
            refine V.eq (fun h36 => ?_) (fun h37 => ?_)
            · skip
              refine V.blk [(120, .jsr_w 0, 1), (121, .lor, 1), (122, .lastore, 1), (123, .iinc 3 1, 3), (126, .goto 26, 3)] (ps := [0 ≤ (n : Int) ∧ (n : Int) < 48, inR ((p : Int) + 1)]) (z' := (26, [some (aR 31), some (aI (n : Int)), some (aI (I 7 n)), some (aI ((p + 1 : Nat) : Int)), some (aI (b2 (tb (J' 8 ((I 7 n).toNat)) p))), some (aI (b2 (tb (J' 9 ((I 7 n).toNat)) p))), some (aL (x32)), none], [], MM N I (ma J35 34 (ma (J35 34) n (((ma J' 33 (ma (J' 33) n ((J' 33 n) ||| (Int64.ofInt 0)))) 34 n) ||| (Int64.ofInt 0)))))) (by decide +kernel) rfl (show (0 ≤ (n : Int) ∧ (n : Int) < 48) ∧ (inR ((p : Int) + 1)) from ⟨(by omega), (by unfold inR; omega)⟩) ?_
              refine V.nJ (fun J38 eJ38 => ?_)
              refine ih (p + 1) _ _ _ _ _ (by omega) (by omega) (fun i hi => ?_) (fun i hi => ?_) (fun q hqn => ?_) (fun i h33 h34 => ?_)
              · subst_vars
                simp only [ma_self, ma_ne _ _ (show (33 : Nat) ≠ 34 by decide), ma_ne _ _ (show (34 : Nat) ≠ 33 by decide)]
                unfold ldJ
                rw [ex_s]
                unfold ldJ at hj
                simp only [tb_or, tb_0, Bool.or_eq_true, hj i hi, ← e8]
                simp_all [b2_0, b2_n0, tb_0, askP_J]
              · subst_vars
                simp only [ma_self, ma_ne _ _ (show (33 : Nat) ≠ 34 by decide), ma_ne _ _ (show (34 : Nat) ≠ 33 by decide)]
                unfold ldT
                rw [ex_s]
                unfold ldT at ht
                simp only [tb_or, tb_0, Bool.or_eq_true, ht i hi, ← e9]
                simp_all [b2_0, b2_n0, tb_0, askP_J]
              · subst_vars
                simp only [ma_self, ma_ne _ _ (show (33 : Nat) ≠ 34 by decide), ma_ne _ _ (show (34 : Nat) ≠ 33 by decide), ma_ne _ _ hqn]
                exact hq q hqn
              · subst_vars
                rw [ma_ne _ _ h34, ma_ne _ _ h33]
                exact ho i h33 h34
            · skip
              refine V.blk [(115, .lload 6, 2), (117, .goto 121, 3), (121, .lor, 1), (122, .lastore, 1), (123, .iinc 3 1, 3), (126, .goto 26, 3)] (ps := [0 ≤ (n : Int) ∧ (n : Int) < 48, inR ((p : Int) + 1)]) (z' := (26, [some (aR 31), some (aI (n : Int)), some (aI (I 7 n)), some (aI ((p + 1 : Nat) : Int)), some (aI (b2 (tb (J' 8 ((I 7 n).toNat)) p))), some (aI (b2 (tb (J' 9 ((I 7 n).toNat)) p))), some (aL (x32)), none], [], MM N I (ma J35 34 (ma (J35 34) n (((ma J' 33 (ma (J' 33) n ((J' 33 n) ||| (Int64.ofInt 0)))) 34 n) ||| (x32)))))) (by decide +kernel) rfl (show (0 ≤ (n : Int) ∧ (n : Int) < 48) ∧ (inR ((p : Int) + 1)) from ⟨(by omega), (by unfold inR; omega)⟩) ?_
              refine V.nJ (fun J39 eJ39 => ?_)
              refine ih (p + 1) _ _ _ _ _ (by omega) (by omega) (fun i hi => ?_) (fun i hi => ?_) (fun q hqn => ?_) (fun i h33 h34 => ?_)
              · subst_vars
                simp only [ma_self, ma_ne _ _ (show (33 : Nat) ≠ 34 by decide), ma_ne _ _ (show (34 : Nat) ≠ 33 by decide)]
                unfold ldJ
                rw [ex_s]
                unfold ldJ at hj
                simp only [tb_or, tb_0, Bool.or_eq_true, hj i hi, ← e8]
                simp_all [b2_0, b2_n0, tb_0, askP_J]
              · subst_vars
                simp only [ma_self, ma_ne _ _ (show (33 : Nat) ≠ 34 by decide), ma_ne _ _ (show (34 : Nat) ≠ 33 by decide)]
                unfold ldT
                rw [ex_s]
                unfold ldT at ht
                simp only [tb_or, tb_0, Bool.or_eq_true, ht i hi, ← e9]
                simp_all [b2_0, b2_n0, tb_0, askP_J]
              · subst_vars
                simp only [ma_self, ma_ne _ _ (show (33 : Nat) ≠ 34 by decide), ma_ne _ _ (show (34 : Nat) ≠ 33 by decide), ma_ne _ _ hqn]
                exact hq q hqn
              · subst_vars
                rw [ma_ne _ _ h34, ma_ne _ _ h33]
                exact ho i h33 h34
          · skip
            refine V.blk [(95, .lload 6, 2), (97, .goto 101, 3), (101, .lor, 1), (102, .lastore, 1), (103, .aload 0, 1), (104, .getfield 2005, 3), (107, .iload 1, 1), (108, .dup2, 1), (109, .laload, 1), (110, .iload 5, 2), (112, .ifCond .eq 120, 3)] (ps := [0 ≤ (n : Int) ∧ (n : Int) < 48, 0 ≤ (n : Int) ∧ (n : Int) < 48]) (z' := (brc .eq (b2 (tb (J' 9 ((I 7 n).toNat)) p)) 0 120 115, [some (aR 31), some (aI (n : Int)), some (aI (I 7 n)), some (aI (p : Int)), some (aI (b2 (tb (J' 8 ((I 7 n).toNat)) p))), some (aI (b2 (tb (J' 9 ((I 7 n).toNat)) p))), some (aL (x32)), none], [aL ((ma J' 33 (ma (J' 33) n ((J' 33 n) ||| (x32)))) 34 n), aI (n : Int), aR 34], MM N I (ma J' 33 (ma (J' 33) n ((J' 33 n) ||| (x32)))))) (by decide +kernel) rfl (show (0 ≤ (n : Int) ∧ (n : Int) < 48) ∧ (0 ≤ (n : Int) ∧ (n : Int) < 48) from ⟨(by omega), (by omega)⟩) ?_
            refine V.nJ (fun J40 eJ40 => ?_)
            refine V.eq (fun h41 => ?_) (fun h42 => ?_)
            · skip
              refine V.blk [(120, .jsr_w 0, 1), (121, .lor, 1), (122, .lastore, 1), (123, .iinc 3 1, 3), (126, .goto 26, 3)] (ps := [0 ≤ (n : Int) ∧ (n : Int) < 48, inR ((p : Int) + 1)]) (z' := (26, [some (aR 31), some (aI (n : Int)), some (aI (I 7 n)), some (aI ((p + 1 : Nat) : Int)), some (aI (b2 (tb (J' 8 ((I 7 n).toNat)) p))), some (aI (b2 (tb (J' 9 ((I 7 n).toNat)) p))), some (aL (x32)), none], [], MM N I (ma J40 34 (ma (J40 34) n (((ma J' 33 (ma (J' 33) n ((J' 33 n) ||| (x32)))) 34 n) ||| (Int64.ofInt 0)))))) (by decide +kernel) rfl (show (0 ≤ (n : Int) ∧ (n : Int) < 48) ∧ (inR ((p : Int) + 1)) from ⟨(by omega), (by unfold inR; omega)⟩) ?_
              refine V.nJ (fun J43 eJ43 => ?_)
              refine ih (p + 1) _ _ _ _ _ (by omega) (by omega) (fun i hi => ?_) (fun i hi => ?_) (fun q hqn => ?_) (fun i h33 h34 => ?_)
              · subst_vars
                simp only [ma_self, ma_ne _ _ (show (33 : Nat) ≠ 34 by decide), ma_ne _ _ (show (34 : Nat) ≠ 33 by decide)]
                unfold ldJ
                rw [ex_s]
                unfold ldJ at hj
                simp only [tb_or, tb_0, Bool.or_eq_true, hj i hi, ← e8]
                simp_all [b2_0, b2_n0, tb_0, askP_J]
              · subst_vars
                simp only [ma_self, ma_ne _ _ (show (33 : Nat) ≠ 34 by decide), ma_ne _ _ (show (34 : Nat) ≠ 33 by decide)]
                unfold ldT
                rw [ex_s]
                unfold ldT at ht
                simp only [tb_or, tb_0, Bool.or_eq_true, ht i hi, ← e9]
                simp_all [b2_0, b2_n0, tb_0, askP_J]
              · subst_vars
                simp only [ma_self, ma_ne _ _ (show (33 : Nat) ≠ 34 by decide), ma_ne _ _ (show (34 : Nat) ≠ 33 by decide), ma_ne _ _ hqn]
                exact hq q hqn
              · subst_vars
                rw [ma_ne _ _ h34, ma_ne _ _ h33]
                exact ho i h33 h34
            · skip
              refine V.blk [(115, .lload 6, 2), (117, .goto 121, 3), (121, .lor, 1), (122, .lastore, 1), (123, .iinc 3 1, 3), (126, .goto 26, 3)] (ps := [0 ≤ (n : Int) ∧ (n : Int) < 48, inR ((p : Int) + 1)]) (z' := (26, [some (aR 31), some (aI (n : Int)), some (aI (I 7 n)), some (aI ((p + 1 : Nat) : Int)), some (aI (b2 (tb (J' 8 ((I 7 n).toNat)) p))), some (aI (b2 (tb (J' 9 ((I 7 n).toNat)) p))), some (aL (x32)), none], [], MM N I (ma J40 34 (ma (J40 34) n (((ma J' 33 (ma (J' 33) n ((J' 33 n) ||| (x32)))) 34 n) ||| (x32)))))) (by decide +kernel) rfl (show (0 ≤ (n : Int) ∧ (n : Int) < 48) ∧ (inR ((p : Int) + 1)) from ⟨(by omega), (by unfold inR; omega)⟩) ?_
              refine V.nJ (fun J44 eJ44 => ?_)
              refine ih (p + 1) _ _ _ _ _ (by omega) (by omega) (fun i hi => ?_) (fun i hi => ?_) (fun q hqn => ?_) (fun i h33 h34 => ?_)
              · subst_vars
                simp only [ma_self, ma_ne _ _ (show (33 : Nat) ≠ 34 by decide), ma_ne _ _ (show (34 : Nat) ≠ 33 by decide)]
                unfold ldJ
                rw [ex_s]
                unfold ldJ at hj
                simp only [tb_or, tb_0, Bool.or_eq_true, hj i hi, ← e8]
                simp_all [b2_0, b2_n0, tb_0, askP_J]
              · subst_vars
                simp only [ma_self, ma_ne _ _ (show (33 : Nat) ≠ 34 by decide), ma_ne _ _ (show (34 : Nat) ≠ 33 by decide)]
                unfold ldT
                rw [ex_s]
                unfold ldT at ht
                simp only [tb_or, tb_0, Bool.or_eq_true, ht i hi, ← e9]
                simp_all [b2_0, b2_n0, tb_0, askP_J]
              · subst_vars
                simp only [ma_self, ma_ne _ _ (show (33 : Nat) ≠ 34 by decide), ma_ne _ _ (show (34 : Nat) ≠ 33 by decide), ma_ne _ _ hqn]
                exact hq q hqn
              · subst_vars
                rw [ma_ne _ _ h34, ma_ne _ _ h33]
                exact ho i h33 h34
theorem c_findLeads {N : Nat} {I : MI} {J : MJ} {n : Nat} (hn : n < 48) (h7 : -1 ≤ I 7 n ∧ I 7 n < 64) (hr : rtOK I) : CT 19 [aR 31, aI (n : Int)] (MM N I J) (fun r M' => r = none ∧ ∃ J', M' = MM N I J' ∧ (∀ i, i < 64 → (tb (J' 33 n) i = true ↔ ldJ I J (I 7 n + 1).toNat n i)) ∧ (∀ i, i < 64 → (tb (J' 34 n) i = true ↔ ldT I J (I 7 n + 1).toNat n i)) ∧ (∀ q, q ≠ n → J' 33 q = J 33 q ∧ J' 34 q = J 34 q) ∧ ∀ i, i ≠ 33 → i ≠ 34 → J' i = J i) := by
  refine CT.ofV (n := 8) (ls := [some (aR 31), some (aI (n : Int)), none, none, none, none, none, none]) rfl rfl rfl ?_
  refine V.blk [(0, .aload 0, 1), (1, .getfield 2004, 3), (4, .iload 1, 1), (5, .jsr_w 0, 1), (6, .lastore, 1), (7, .aload 0, 1), (8, .getfield 2005, 3), (11, .iload 1, 1), (12, .jsr_w 0, 1), (13, .lastore, 1), (14, .aload 0, 1), (15, .getfield 2001, 3), (18, .getfield 6003, 3), (21, .iload 1, 1), (22, .iaload, 1), (23, .istore 2, 1), (24, .bipush 0, 1), (25, .istore 3, 1)] (ps := [0 ≤ (n : Int) ∧ (n : Int) < 48, 0 ≤ (n : Int) ∧ (n : Int) < 48, 0 ≤ (n : Int) ∧ (n : Int) < 48]) (z' := (26, [some (aR 31), some (aI (n : Int)), some (aI (I 7 n)), some (aI 0), none, none, none, none], [], MM N I (ma (ma J 33 (ma (J 33) n (Int64.ofInt 0))) 34 (ma ((ma J 33 (ma (J 33) n (Int64.ofInt 0))) 34) n (Int64.ofInt 0))))) (by decide +kernel) rfl (show (0 ≤ (n : Int) ∧ (n : Int) < 48) ∧ (0 ≤ (n : Int) ∧ (n : Int) < 48) ∧ (0 ≤ (n : Int) ∧ (n : Int) < 48) from ⟨(by omega), (by omega), (by omega)⟩) ?_
  refine V.nJ (fun J1 eJ1 => ?_)
  refine l_findLeads hn h7 hr 66 0 _ _ _ _ _ (by omega) (by omega) (fun i hi => ?_) (fun i hi => ?_) (fun q hqn => ?_) (fun i h33 h34 => ?_)
  · subst eJ1
    simp only [ma_self, ma_ne _ _ (show (33 : Nat) ≠ 34 by decide)]
    rw [tb_0]
    exact ⟨(fun q => by cases q), (fun q => by obtain ⟨p, hp, _⟩ := q; omega)⟩
  · subst eJ1
    simp only [ma_self]
    rw [tb_0]
    exact ⟨(fun q => by cases q), (fun q => by obtain ⟨p, hp, _⟩ := q; omega)⟩
  · subst eJ1
    simp only [ma_self, ma_ne _ _ (show (33 : Nat) ≠ 34 by decide), ma_ne _ _ (show (34 : Nat) ≠ 33 by decide), ma_ne _ _ hqn]
    first | exact ⟨rfl, rfl⟩ | exact ⟨trivial, rfl⟩ | trivial
  · subst eJ1
    rw [ma_ne _ _ h34, ma_ne _ _ h33]
