/-! ===== the class: pairs and turns ===== -/
def fndF (f : Nat → Bool) : Nat → Int
  | 0 => -1
  | n + 1 => if fndF f n ≠ -1 then fndF f n else if f n = true then (n : Int) else -1
theorem fndF_no {f : Nat → Bool} : ∀ n, (∀ k, k < n → f k = false) → fndF f n = -1
  | 0, _ => rfl
  | n + 1, h => by
    unfold fndF
    rw [fndF_no n fun k hk => h k (by omega), if_neg (by omega), if_neg (by rw [h n (by omega)]; simp)]
theorem fndF_at {f : Nat → Bool} {k : Nat} (h1 : ∀ j, j < k → f j = false) (h2 : f k = true) : ∀ n, k < n → fndF f n = k
  | 0, h => by omega
  | n + 1, h => by
    unfold fndF
    by_cases e : k = n
    · subst e
      rw [fndF_no k h1, if_neg (by omega), if_pos h2]
    · rw [fndF_at h1 h2 n (by omega), if_pos (by omega)]
theorem fndF_cases (f : Nat → Bool) (n : Nat) : (fndF f n = -1 ∧ ∀ k, k < n → f k = false) ∨ ∃ k, k < n ∧ fndF f n = k ∧ f k = true ∧ ∀ j, j < k → f j = false := by
  by_cases h : ∃ k, k < n ∧ f k = true
  · obtain ⟨k, hk, hm⟩ := least_nat (P := fun k => k < n ∧ f k = true) h
    have h1 : ∀ j, j < k → f j = false := by
      intro j hj
      cases hf : f j with
      | false => rfl
      | true => have := hm j ⟨by omega, hf⟩; omega
    exact Or.inr ⟨k, hk.1, fndF_at h1 hk.2 n hk.1, hk.2, h1⟩
  · have h1 : ∀ k, k < n → f k = false := by
      intro k hk
      cases hf : f k with
      | false => rfl
      | true => exact absurd ⟨k, hk, hf⟩ h
    exact Or.inl ⟨fndF_no n h1, h1⟩
def stB (K : MI) (th rl u : Int) (p : Nat) : Bool := decide (K 16 p = -1 ∧ K 11 p = th ∧ K 12 p = rl ∧ K 13 p = u)
/-- the pair that stands; -1 -/
def stF (K : MI) (th rl u : Int) : Int := fndF (stB K th rl u) (K 10 9).toNat
def noteU (K : MI) (w : Int) : MI := ma (ma K 20 (ma (K 20) (K 10 11).toNat w)) 10 (ma (K 10) 11 (K 10 11 + 1))
def addV (K : MI) (th rl u e : Int) : MI := ma (ma (ma (ma (ma (ma (ma (ma (ma K 11 (ma (K 11) (K 10 9).toNat th)) 12 (ma (K 12) (K 10 9).toNat rl)) 13 (ma (K 13) (K 10 9).toNat u)) 14 (ma (K 14) (K 10 9).toNat e)) 15 (ma (K 15) (K 10 9).toNat (K 10 13 + 1))) 16 (ma (K 16) (K 10 9).toNat (-1))) 17 (ma (K 17) (K 10 9).toNat (th * 8 + rl))) 18 (ma (K 18) (K 10 9).toNat (clubOf u))) 19 (ma (K 19) (K 10 9).toNat (toldOf u))
def addU (K : MI) (th rl u e : Int) : MI := ma (noteU (addV K th rl u e) (2 * K 10 9)) 10 (ma (noteU (addV K th rl u e) (2 * K 10 9) 10) 9 (K 10 9 + 1))
def remU (K : MI) (p : Int) : MI := noteU (ma K 16 (ma (K 16) p.toNat (K 10 13 + 1))) (2 * p + 1)
def adB (K : MI) (th rl u : Int) : Bool := decide (K 10 9 < 400 ∧ stF K th rl u = -1)
def rmB (K : MI) (th rl u : Int) : Bool := decide (stF K th rl u ≠ -1)
theorem l_stand {N : Nat} {I : MI} {J : MJ} {th rl u : Int} {m : Nat} (hm : I 10 9 = m) (hm4 : m ≤ 400) : ∀ (k p : Nat), m + 1 ≤ k + p → p ≤ m → (∀ j, j < p → stB I th rl u j = false) → V 27 (3, [some (aR 10), some (aI th), some (aI rl), some (aI u), some (aI (p : Int))], [], MM N I J) (pure1 N I J (aI (stF I th rl u))) := by
  intro k
  induction k with
  | zero => intro p h1 h2; exfalso; omega
  | succ k ih =>
    intro p h1 h2 hn
    have em : (I 10 9).toNat = m := by rw [hm]; rfl
    refine V.blk [(3, .iload 4, 2), (5, .aload 0, 1), (6, .getfield 3009, 3), (9, .if_icmp .ge 65, 3)] (ps := []) (z' := (brc .ge (p : Int) (I 10 9) 65 12, [some (aR 10), some (aI th), some (aI rl), some (aI u), some (aI (p : Int))], [], MM N I J)) (by decide +kernel) rfl trivial ?_
    refine V.ge (fun bh1 => ?_) (fun bh2 => ?_)
    · skip
      refine V.blk [(65, .bipush (-1), 1)] (ps := []) (z' := (66, [some (aR 10), some (aI th), some (aI rl), some (aI u), some (aI (p : Int))], [aI (-1)], MM N I J)) (by decide +kernel) rfl trivial ?_
      refine V.ri (by decide +kernel) ?_
      refine ⟨congrArg (fun w => some (aI w)) ?_, rfl⟩
      unfold stF
      rw [em]
      exact (fndF_no m (fun j hj => hn j (by omega))).symm
    · skip
      refine V.blk [(12, .aload 0, 1), (13, .getfield 3005, 3), (16, .iload 4, 2), (18, .iaload, 1), (19, .bipush (-1), 1), (20, .if_icmp .ne 59, 3)] (ps := [0 ≤ (p : Int) ∧ (p : Int) < 400]) (z' := (brc .ne (I 16 p) (-1) 59 23, [some (aR 10), some (aI th), some (aI rl), some (aI u), some (aI (p : Int))], [], MM N I J)) (by decide +kernel) rfl (show (0 ≤ (p : Int) ∧ (p : Int) < 400) from (by omega)) ?_
      refine V.ne (fun bh3 => ?_) (fun bh4 => ?_)
      · skip
        refine V.blk [(59, .iinc 4 1, 3), (62, .goto 3, 3)] (ps := [inR ((p : Int) + 1)]) (z' := (3, [some (aR 10), some (aI th), some (aI rl), some (aI u), some (aI ((p + 1 : Nat) : Int))], [], MM N I J)) (by decide +kernel) rfl (show (inR ((p : Int) + 1)) from (by unfold inR; omega)) ?_
        refine ih (p + 1) (by omega) (by omega) (fun j hj => ?_)
        by_cases e : j = p
        · subst e
          exact decide_eq_false (by intro w; first | exact absurd w.1 (by assumption) | exact absurd w.2.1 (by assumption) | exact absurd w.2.2.1 (by assumption) | exact absurd w.2.2.2 (by assumption))
        · exact hn j (by omega)
      · skip
        refine V.blk [(23, .aload 0, 1), (24, .getfield 3000, 3), (27, .iload 4, 2), (29, .iaload, 1), (30, .iload 1, 1), (31, .if_icmp .ne 59, 3)] (ps := [0 ≤ (p : Int) ∧ (p : Int) < 400]) (z' := (brc .ne (I 11 p) th 59 34, [some (aR 10), some (aI th), some (aI rl), some (aI u), some (aI (p : Int))], [], MM N I J)) (by decide +kernel) rfl (show (0 ≤ (p : Int) ∧ (p : Int) < 400) from (by omega)) ?_
        refine V.ne (fun bh5 => ?_) (fun bh6 => ?_)
        · skip
          refine V.blk [(59, .iinc 4 1, 3), (62, .goto 3, 3)] (ps := [inR ((p : Int) + 1)]) (z' := (3, [some (aR 10), some (aI th), some (aI rl), some (aI u), some (aI ((p + 1 : Nat) : Int))], [], MM N I J)) (by decide +kernel) rfl (show (inR ((p : Int) + 1)) from (by unfold inR; omega)) ?_
          refine ih (p + 1) (by omega) (by omega) (fun j hj => ?_)
          by_cases e : j = p
          · subst e
            exact decide_eq_false (by intro w; first | exact absurd w.1 (by assumption) | exact absurd w.2.1 (by assumption) | exact absurd w.2.2.1 (by assumption) | exact absurd w.2.2.2 (by assumption))
          · exact hn j (by omega)
        · skip
          refine V.blk [(34, .aload 0, 1), (35, .getfield 3001, 3), (38, .iload 4, 2), (40, .iaload, 1), (41, .iload 2, 1), (42, .if_icmp .ne 59, 3)] (ps := [0 ≤ (p : Int) ∧ (p : Int) < 400]) (z' := (brc .ne (I 12 p) rl 59 45, [some (aR 10), some (aI th), some (aI rl), some (aI u), some (aI (p : Int))], [], MM N I J)) (by decide +kernel) rfl (show (0 ≤ (p : Int) ∧ (p : Int) < 400) from (by omega)) ?_
          refine V.ne (fun bh7 => ?_) (fun bh8 => ?_)
          · skip
            refine V.blk [(59, .iinc 4 1, 3), (62, .goto 3, 3)] (ps := [inR ((p : Int) + 1)]) (z' := (3, [some (aR 10), some (aI th), some (aI rl), some (aI u), some (aI ((p + 1 : Nat) : Int))], [], MM N I J)) (by decide +kernel) rfl (show (inR ((p : Int) + 1)) from (by unfold inR; omega)) ?_
            refine ih (p + 1) (by omega) (by omega) (fun j hj => ?_)
            by_cases e : j = p
            · subst e
              exact decide_eq_false (by intro w; first | exact absurd w.1 (by assumption) | exact absurd w.2.1 (by assumption) | exact absurd w.2.2.1 (by assumption) | exact absurd w.2.2.2 (by assumption))
            · exact hn j (by omega)
          · skip
            refine V.blk [(45, .aload 0, 1), (46, .getfield 3002, 3), (49, .iload 4, 2), (51, .iaload, 1), (52, .iload 3, 1), (53, .if_icmp .ne 59, 3)] (ps := [0 ≤ (p : Int) ∧ (p : Int) < 400]) (z' := (brc .ne (I 13 p) u 59 56, [some (aR 10), some (aI th), some (aI rl), some (aI u), some (aI (p : Int))], [], MM N I J)) (by decide +kernel) rfl (show (0 ≤ (p : Int) ∧ (p : Int) < 400) from (by omega)) ?_
            refine V.ne (fun bh9 => ?_) (fun bh10 => ?_)
            · skip
              refine V.blk [(59, .iinc 4 1, 3), (62, .goto 3, 3)] (ps := [inR ((p : Int) + 1)]) (z' := (3, [some (aR 10), some (aI th), some (aI rl), some (aI u), some (aI ((p + 1 : Nat) : Int))], [], MM N I J)) (by decide +kernel) rfl (show (inR ((p : Int) + 1)) from (by unfold inR; omega)) ?_
              refine ih (p + 1) (by omega) (by omega) (fun j hj => ?_)
              by_cases e : j = p
              · subst e
                exact decide_eq_false (by intro w; first | exact absurd w.1 (by assumption) | exact absurd w.2.1 (by assumption) | exact absurd w.2.2.1 (by assumption) | exact absurd w.2.2.2 (by assumption))
              · exact hn j (by omega)
            · skip
              refine V.blk [(56, .iload 4, 2)] (ps := []) (z' := (58, [some (aR 10), some (aI th), some (aI rl), some (aI u), some (aI (p : Int))], [aI (p : Int)], MM N I J)) (by decide +kernel) rfl trivial ?_
              refine V.ri (by decide +kernel) ?_
              refine ⟨congrArg (fun w => some (aI w)) ?_, rfl⟩
              unfold stF
              rw [em]
              exact (fndF_at hn (decide_eq_true ⟨by assumption, by assumption, by assumption, by assumption⟩) m (by omega)).symm
theorem c_stand {N : Nat} {I : MI} {J : MJ} {th rl u : Int} (hm : 0 ≤ I 10 9 ∧ I 10 9 ≤ 400) : CT 27 [aR 10, aI th, aI rl, aI u] (MM N I J) (pure1 N I J (aI (stF I th rl u))) := by
  obtain ⟨m, em⟩ : ∃ m : Nat, I 10 9 = m := ⟨(I 10 9).toNat, by omega⟩
  refine CT.ofV (n := 5) (ls := [some (aR 10), some (aI th), some (aI rl), some (aI u), none]) rfl rfl rfl ?_
  refine V.blk [(0, .bipush 0, 1), (1, .istore 4, 2)] (ps := []) (z' := (3, [some (aR 10), some (aI th), some (aI rl), some (aI u), some (aI 0)], [], MM N I J)) (by decide +kernel) rfl trivial ?_
  exact l_stand em (by omega) (m + 1) 0 (by omega) (by omega) (fun j hj => by omega)
theorem c_note {N : Nat} {I : MI} {J : MJ} {w : Int} (h : 0 ≤ I 10 11 ∧ I 10 11 < 800) : CT 30 [aR 10, aI w] (MM N I J) (QV N J (noteU I w)) := by
  refine CT.ofV (n := 2) (ls := [some (aR 10), some (aI w)]) rfl rfl rfl ?_
  refine V.blk [(0, .aload 0, 1), (1, .getfield 3011, 3), (4, .aload 0, 1), (5, .getfield 3010, 3), (8, .arraylength, 1), (9, .if_icmp .ge 32, 3)] (ps := []) (z' := (brc .ge (I 10 11) 800 32 12, [some (aR 10), some (aI w)], [], MM N I J)) (by decide +kernel) rfl trivial ?_
  refine V.ge (fun bh1 => ?_) (fun bh2 => ?_)
  · skip
    refine V.rv (by decide +kernel) ?_
    first
    | (exfalso; omega)
    | (refine ⟨rfl, congrArg (fun w => MM N w J) ?_⟩
       subst_vars
       unfold noteU
       simp [ma_ne])
  · skip
    refine V.blk [(12, .aload 0, 1), (13, .getfield 3010, 3), (16, .aload 0, 1), (17, .getfield 3011, 3), (20, .iload 1, 1), (21, .iastore, 1), (22, .aload 0, 1), (23, .dup, 1), (24, .getfield 3011, 3), (27, .bipush 1, 1), (28, .iadd, 1), (29, .putfield 3011, 3)] (ps := [0 ≤ (I 10 11) ∧ (I 10 11) < 800, inR (((ma I 20 (ma (I 20) ((I 10 11).toNat) w)) 10 11) + 1)]) (z' := (32, [some (aR 10), some (aI w)], [], MM N (ma (ma I 20 (ma (I 20) ((I 10 11).toNat) w)) 10 (ma ((ma I 20 (ma (I 20) ((I 10 11).toNat) w)) 10) 11 (((ma I 20 (ma (I 20) ((I 10 11).toNat) w)) 10 11) + 1))) J)) (by decide +kernel) rfl (show (0 ≤ (I 10 11) ∧ (I 10 11) < 800) ∧ (inR (((ma I 20 (ma (I 20) ((I 10 11).toNat) w)) 10 11) + 1)) from ⟨(by first | omega | (simp only [ma_ne _ _ (show (10 : Nat) ≠ 20 by decide)]; omega)), (by unfold inR; first | omega | (simp only [ma_ne _ _ (show (10 : Nat) ≠ 20 by decide)]; omega))⟩) ?_
    refine V.nI (fun I3 eI3 => ?_)
    refine V.rv (by decide +kernel) ?_
    first
    | (exfalso; omega)
    | (refine ⟨rfl, congrArg (fun w => MM N w J) ?_⟩
       subst_vars
       unfold noteU
       simp [ma_ne])
theorem c_add {N : Nat} {I : MI} {J : MJ} {th rl u e : Int} (hm : 0 ≤ I 10 9 ∧ I 10 9 ≤ 400) (hc : I 10 9 < 400 → 0 ≤ I 10 11 ∧ I 10 11 < 800) (hl : 0 ≤ I 10 13 ∧ I 10 13 ≤ 200) (ht : 0 ≤ th ∧ th < 40) (hrl : 0 ≤ rl ∧ rl < 8) (hu : 0 ≤ u ∧ u ≤ 2000) : CT 28 [aR 10, aI th, aI rl, aI u, aI e] (MM N I J) (fun r M' => r = some (aI (b2 (adB I th rl u))) ∧ M' = MM N (if adB I th rl u = true then addU I th rl u e else I) J) := by
  refine CT.ofV (n := 5) (ls := [some (aR 10), some (aI th), some (aI rl), some (aI u), some (aI e)]) rfl rfl rfl ?_
  refine V.blk [(0, .aload 0, 1), (1, .getfield 3009, 3), (4, .bipush 400, 3), (7, .if_icmp .ge 21, 3)] (ps := []) (z' := (brc .ge (I 10 9) 400 21 10, [some (aR 10), some (aI th), some (aI rl), some (aI u), some (aI e)], [], MM N I J)) (by decide +kernel) rfl trivial ?_
  refine V.ge (fun bh1 => ?_) (fun bh2 => ?_)
  · skip
    try simp only [b2_cast, b2_ncast, Classical.not_not, lcm_lt, lcm_ge, lcm_gt, lcm_le, lcm_eq, b2_0, b2_n0, Bool.not_eq_false, Bool.not_eq_true, decide_eq_true_eq, decide_eq_false_iff_not] at bh1
    refine V.blk [(21, .bipush 0, 1)] (ps := []) (z' := (22, [some (aR 10), some (aI th), some (aI rl), some (aI u), some (aI e)], [aI 0], MM N I J)) (by decide +kernel) rfl trivial ?_
    refine V.rz (by decide +kernel) (by first | exact b2_in _ | omega) ?_
    have hb : adB I th rl u = false := decide_eq_false (by omega)
    rw [hb]
    exact ⟨rfl, rfl⟩
  · skip
    try simp only [b2_cast, b2_ncast, Classical.not_not, lcm_lt, lcm_ge, lcm_gt, lcm_le, lcm_eq, b2_0, b2_n0, Bool.not_eq_false, Bool.not_eq_true, decide_eq_true_eq, decide_eq_false_iff_not] at bh2
    refine V.blk [(10, .aload 0, 1), (11, .iload 1, 1), (12, .iload 2, 1), (13, .iload 3, 1)] (ps := []) (z' := (14, [some (aR 10), some (aI th), some (aI rl), some (aI u), some (aI e)], [aI u, aI rl, aI th, aR 10], MM N I J)) (by decide +kernel) rfl trivial ?_
    refine V.cv (c := 27) (na := 4) (o := 3) (a := 10) [aI u, aI rl, aI th] [] (by decide +kernel) rfl rfl rfl rfl rfl (V.pr (c_stand (by omega)) ?_)
    show V 28 (17, [some (aR 10), some (aI th), some (aI rl), some (aI u), some (aI e)], [aI (stF I th rl u)], MM N I J) _
    refine V.blk [(17, .bipush (-1), 1), (18, .if_icmp .eq 23, 3)] (ps := []) (z' := (brc .eq (stF I th rl u) (-1) 23 21, [some (aR 10), some (aI th), some (aI rl), some (aI u), some (aI e)], [], MM N I J)) (by decide +kernel) rfl trivial ?_
    refine V.eq (fun bh3 => ?_) (fun bh4 => ?_)
    · skip
      try simp only [b2_cast, b2_ncast, Classical.not_not, lcm_lt, lcm_ge, lcm_gt, lcm_le, lcm_eq, b2_0, b2_n0, Bool.not_eq_false, Bool.not_eq_true, decide_eq_true_eq, decide_eq_false_iff_not] at bh3
      refine V.blk [(23, .aload 0, 1), (24, .getfield 3000, 3), (27, .aload 0, 1), (28, .getfield 3009, 3), (31, .iload 1, 1), (32, .iastore, 1)] (ps := [0 ≤ (I 10 9) ∧ (I 10 9) < 400]) (z' := (33, [some (aR 10), some (aI th), some (aI rl), some (aI u), some (aI e)], [], MM N (ma I 11 (ma (I 11) ((I 10 9).toNat) th)) J)) (by decide +kernel) rfl (show (0 ≤ (I 10 9) ∧ (I 10 9) < 400) from (by omega)) ?_
      refine V.nI (fun I5 eI5 => ?_)
      have zI5 : I5 10 = I 10 := by
        rw [eI5]
        simp [ma_ne, *]
      have yI5 : I5 10 9 = I 10 9 ∧ I5 10 11 = I 10 11 ∧ I5 10 13 = I 10 13 := by rw [zI5]; exact ⟨rfl, rfl, rfl⟩
      refine V.blk [(33, .aload 0, 1), (34, .getfield 3001, 3), (37, .aload 0, 1), (38, .getfield 3009, 3), (41, .iload 2, 1), (42, .iastore, 1)] (ps := [0 ≤ (I5 10 9) ∧ (I5 10 9) < 400]) (z' := (43, [some (aR 10), some (aI th), some (aI rl), some (aI u), some (aI e)], [], MM N (ma I5 12 (ma (I5 12) ((I5 10 9).toNat) rl)) J)) (by decide +kernel) rfl (show (0 ≤ (I5 10 9) ∧ (I5 10 9) < 400) from (by omega)) ?_
      refine V.nI (fun I6 eI6 => ?_)
      have zI6 : I6 10 = I 10 := by
        rw [eI6]
        simp [ma_ne, *]
      have yI6 : I6 10 9 = I 10 9 ∧ I6 10 11 = I 10 11 ∧ I6 10 13 = I 10 13 := by rw [zI6]; exact ⟨rfl, rfl, rfl⟩
      refine V.blk [(43, .aload 0, 1), (44, .getfield 3002, 3), (47, .aload 0, 1), (48, .getfield 3009, 3), (51, .iload 3, 1), (52, .iastore, 1)] (ps := [0 ≤ (I6 10 9) ∧ (I6 10 9) < 400]) (z' := (53, [some (aR 10), some (aI th), some (aI rl), some (aI u), some (aI e)], [], MM N (ma I6 13 (ma (I6 13) ((I6 10 9).toNat) u)) J)) (by decide +kernel) rfl (show (0 ≤ (I6 10 9) ∧ (I6 10 9) < 400) from (by omega)) ?_
      refine V.nI (fun I7 eI7 => ?_)
      have zI7 : I7 10 = I 10 := by
        rw [eI7]
        simp [ma_ne, *]
      have yI7 : I7 10 9 = I 10 9 ∧ I7 10 11 = I 10 11 ∧ I7 10 13 = I 10 13 := by rw [zI7]; exact ⟨rfl, rfl, rfl⟩
      refine V.blk [(53, .aload 0, 1), (54, .getfield 3003, 3), (57, .aload 0, 1), (58, .getfield 3009, 3), (61, .iload 4, 2), (63, .iastore, 1)] (ps := [0 ≤ (I7 10 9) ∧ (I7 10 9) < 400]) (z' := (64, [some (aR 10), some (aI th), some (aI rl), some (aI u), some (aI e)], [], MM N (ma I7 14 (ma (I7 14) ((I7 10 9).toNat) e)) J)) (by decide +kernel) rfl (show (0 ≤ (I7 10 9) ∧ (I7 10 9) < 400) from (by omega)) ?_
      refine V.nI (fun I8 eI8 => ?_)
      have zI8 : I8 10 = I 10 := by
        rw [eI8]
        simp [ma_ne, *]
      have yI8 : I8 10 9 = I 10 9 ∧ I8 10 11 = I 10 11 ∧ I8 10 13 = I 10 13 := by rw [zI8]; exact ⟨rfl, rfl, rfl⟩
      refine V.blk [(64, .aload 0, 1), (65, .getfield 3004, 3), (68, .aload 0, 1), (69, .getfield 3009, 3), (72, .aload 0, 1), (73, .getfield 3013, 3), (76, .bipush 1, 1), (77, .iadd, 1), (78, .iastore, 1)] (ps := [inR ((I8 10 13) + 1), 0 ≤ (I8 10 9) ∧ (I8 10 9) < 400]) (z' := (79, [some (aR 10), some (aI th), some (aI rl), some (aI u), some (aI e)], [], MM N (ma I8 15 (ma (I8 15) ((I8 10 9).toNat) ((I8 10 13) + 1))) J)) (by decide +kernel) rfl (show (inR ((I8 10 13) + 1)) ∧ (0 ≤ (I8 10 9) ∧ (I8 10 9) < 400) from ⟨(by unfold inR; omega), (by omega)⟩) ?_
      refine V.nI (fun I9 eI9 => ?_)
      have zI9 : I9 10 = I 10 := by
        rw [eI9]
        simp [ma_ne, *]
      have yI9 : I9 10 9 = I 10 9 ∧ I9 10 11 = I 10 11 ∧ I9 10 13 = I 10 13 := by rw [zI9]; exact ⟨rfl, rfl, rfl⟩
      refine V.blk [(79, .aload 0, 1), (80, .getfield 3005, 3), (83, .aload 0, 1), (84, .getfield 3009, 3), (87, .bipush (-1), 1), (88, .iastore, 1)] (ps := [0 ≤ (I9 10 9) ∧ (I9 10 9) < 400]) (z' := (89, [some (aR 10), some (aI th), some (aI rl), some (aI u), some (aI e)], [], MM N (ma I9 16 (ma (I9 16) ((I9 10 9).toNat) (-1))) J)) (by decide +kernel) rfl (show (0 ≤ (I9 10 9) ∧ (I9 10 9) < 400) from (by omega)) ?_
      refine V.nI (fun I10 eI10 => ?_)
      have zI10 : I10 10 = I 10 := by
        rw [eI10]
        simp [ma_ne, *]
      have yI10 : I10 10 9 = I 10 9 ∧ I10 10 11 = I 10 11 ∧ I10 10 13 = I 10 13 := by rw [zI10]; exact ⟨rfl, rfl, rfl⟩
      refine V.blk [(89, .aload 0, 1), (90, .getfield 3006, 3), (93, .aload 0, 1), (94, .getfield 3009, 3), (97, .iload 1, 1), (98, .iload 2, 1)] (ps := []) (z' := (99, [some (aR 10), some (aI th), some (aI rl), some (aI u), some (aI e)], [aI rl, aI th, aI (I10 10 9), aR 17], MM N I10 J)) (by decide +kernel) rfl trivial ?_
      refine V.cs (c := 108) (na := 2) [aI rl, aI th] [aI (I10 10 9), aR 17] (by decide +kernel) rfl rfl (V.pr (c_X9_spotOf (by omega)) ?_)
      show V 28 (102, [some (aR 10), some (aI th), some (aI rl), some (aI u), some (aI e)], [aI (th * 8 + rl), aI (I10 10 9), aR 17], MM N I10 J) _
      refine V.blk [(102, .iastore, 1)] (ps := [0 ≤ (I10 10 9) ∧ (I10 10 9) < 400]) (z' := (103, [some (aR 10), some (aI th), some (aI rl), some (aI u), some (aI e)], [], MM N (ma I10 17 (ma (I10 17) ((I10 10 9).toNat) (th * 8 + rl))) J)) (by decide +kernel) rfl (show (0 ≤ (I10 10 9) ∧ (I10 10 9) < 400) from (by omega)) ?_
      refine V.nI (fun I11 eI11 => ?_)
      have zI11 : I11 10 = I 10 := by
        rw [eI11]
        simp [ma_ne, *]
      have yI11 : I11 10 9 = I 10 9 ∧ I11 10 11 = I 10 11 ∧ I11 10 13 = I 10 13 := by rw [zI11]; exact ⟨rfl, rfl, rfl⟩
      refine V.blk [(103, .aload 0, 1), (104, .getfield 3007, 3), (107, .aload 0, 1), (108, .getfield 3009, 3), (111, .iload 3, 1)] (ps := []) (z' := (112, [some (aR 10), some (aI th), some (aI rl), some (aI u), some (aI e)], [aI u, aI (I11 10 9), aR 18], MM N I11 J)) (by decide +kernel) rfl trivial ?_
      refine V.cs (c := 111) (na := 1) [aI u] [aI (I11 10 9), aR 18] (by decide +kernel) rfl rfl (V.pr (c_X9_isClub) ?_)
      show V 28 (115, [some (aR 10), some (aI th), some (aI rl), some (aI u), some (aI e)], [aI (b2 (decide (1000 ≤ u))), aI (I11 10 9), aR 18], MM N I11 J) _
      refine V.blk [(115, .ifCond .eq 132, 3)] (ps := []) (z' := (brc .eq (b2 (decide (1000 ≤ u))) 0 132 118, [some (aR 10), some (aI th), some (aI rl), some (aI u), some (aI e)], [aI (I11 10 9), aR 18], MM N I11 J)) (by decide +kernel) rfl trivial ?_
      refine V.eq (fun bh12 => ?_) (fun bh13 => ?_)
      · skip
        try simp only [b2_cast, b2_ncast, Classical.not_not, lcm_lt, lcm_ge, lcm_gt, lcm_le, lcm_eq, b2_0, b2_n0, Bool.not_eq_false, Bool.not_eq_true, decide_eq_true_eq, decide_eq_false_iff_not] at bh12
        refine V.blk [(132, .bipush (-1), 1), (133, .iastore, 1)] (ps := [0 ≤ (I11 10 9) ∧ (I11 10 9) < 400]) (z' := (134, [some (aR 10), some (aI th), some (aI rl), some (aI u), some (aI e)], [], MM N (ma I11 18 (ma (I11 18) ((I11 10 9).toNat) (-1))) J)) (by decide +kernel) rfl (show (0 ≤ (I11 10 9) ∧ (I11 10 9) < 400) from (by omega)) ?_
        refine V.nI (fun I14 eI14 => ?_)
        have zI14 : I14 10 = I 10 := by
          rw [eI14]
          simp [ma_ne, *]
        have yI14 : I14 10 9 = I 10 9 ∧ I14 10 11 = I 10 11 ∧ I14 10 13 = I 10 13 := by rw [zI14]; exact ⟨rfl, rfl, rfl⟩
        refine V.blk [(134, .aload 0, 1), (135, .getfield 3008, 3), (138, .aload 0, 1), (139, .getfield 3009, 3), (142, .iload 3, 1)] (ps := []) (z' := (143, [some (aR 10), some (aI th), some (aI rl), some (aI u), some (aI e)], [aI u, aI (I14 10 9), aR 19], MM N I14 J)) (by decide +kernel) rfl trivial ?_
        refine V.cs (c := 110) (na := 1) [aI u] [aI (I14 10 9), aR 19] (by decide +kernel) rfl rfl (V.pr (c_X9_isThingUser) ?_)
        show V 28 (146, [some (aR 10), some (aI th), some (aI rl), some (aI u), some (aI e)], [aI (b2 (decide (100 ≤ u ∧ u < 1000))), aI (I14 10 9), aR 19], MM N I14 J) _
        refine V.blk [(146, .ifCond .eq 156, 3)] (ps := []) (z' := (brc .eq (b2 (decide (100 ≤ u ∧ u < 1000))) 0 156 149, [some (aR 10), some (aI th), some (aI rl), some (aI u), some (aI e)], [aI (I14 10 9), aR 19], MM N I14 J)) (by decide +kernel) rfl trivial ?_
        refine V.eq (fun bh15 => ?_) (fun bh16 => ?_)
        · skip
          try simp only [b2_cast, b2_ncast, Classical.not_not, lcm_lt, lcm_ge, lcm_gt, lcm_le, lcm_eq, b2_0, b2_n0, Bool.not_eq_false, Bool.not_eq_true, decide_eq_true_eq, decide_eq_false_iff_not] at bh15
          refine V.blk [(156, .bipush (-1), 1), (157, .iastore, 1)] (ps := [0 ≤ (I14 10 9) ∧ (I14 10 9) < 400]) (z' := (158, [some (aR 10), some (aI th), some (aI rl), some (aI u), some (aI e)], [], MM N (ma I14 19 (ma (I14 19) ((I14 10 9).toNat) (-1))) J)) (by decide +kernel) rfl (show (0 ≤ (I14 10 9) ∧ (I14 10 9) < 400) from (by omega)) ?_
          refine V.nI (fun I17 eI17 => ?_)
          have zI17 : I17 10 = I 10 := by
            rw [eI17]
            simp [ma_ne, *]
          have yI17 : I17 10 9 = I 10 9 ∧ I17 10 11 = I 10 11 ∧ I17 10 13 = I 10 13 := by rw [zI17]; exact ⟨rfl, rfl, rfl⟩
          refine V.blk [(158, .aload 0, 1), (159, .bipush 2, 1), (160, .aload 0, 1), (161, .getfield 3009, 3), (164, .imul, 1)] (ps := [inR (2 * (I17 10 9))]) (z' := (165, [some (aR 10), some (aI th), some (aI rl), some (aI u), some (aI e)], [aI (2 * (I17 10 9)), aR 10], MM N I17 J)) (by decide +kernel) rfl (show (inR (2 * (I17 10 9))) from (by unfold inR; omega)) ?_
          refine V.cv (c := 30) (na := 2) (o := 3) (a := 10) [aI (2 * (I17 10 9))] [] (by decide +kernel) rfl rfl rfl rfl rfl ((c_note (by omega)).mono (fun rv M1 q => ?_))
          obtain ⟨rfl, rfl⟩ := q
          show V 28 (168, [some (aR 10), some (aI th), some (aI rl), some (aI u), some (aI e)], [], MM N ((noteU I17 (2 * (I17 10 9)))) J) _
          refine V.nI (fun I18 eI18 => ?_)
          have yI18 : I18 10 9 = I 10 9 := by
            rw [eI18]
            unfold noteU
            rw [ma_self, ma_ne _ _ (by decide)]
            omega
          refine V.blk [(168, .aload 0, 1), (169, .dup, 1), (170, .getfield 3009, 3), (173, .bipush 1, 1), (174, .iadd, 1), (175, .putfield 3009, 3), (178, .bipush 1, 1)] (ps := [inR ((I18 10 9) + 1)]) (z' := (179, [some (aR 10), some (aI th), some (aI rl), some (aI u), some (aI e)], [aI 1], MM N (ma I18 10 (ma (I18 10) 9 ((I18 10 9) + 1))) J)) (by decide +kernel) rfl (show (inR ((I18 10 9) + 1)) from (by unfold inR; omega)) ?_
          refine V.nI (fun I19 eI19 => ?_)
          refine V.rz (by decide +kernel) (by first | exact b2_in _ | omega) ?_
          have hb : adB I th rl u = true := decide_eq_true ⟨by omega, by assumption⟩
          rw [hb]
          refine ⟨rfl, congrArg (fun w => MM N w J) ?_⟩
          rw [if_pos rfl]
          try clear zI10
          try clear yI10
          try clear zI11
          try clear yI11
          try clear zI14
          try clear yI14
          try clear zI17
          try clear yI17
          try clear zI5
          try clear yI5
          try clear zI6
          try clear yI6
          try clear zI7
          try clear yI7
          try clear zI8
          try clear yI8
          try clear zI9
          try clear yI9
          subst_vars
          unfold addU noteU addV
          first
          | rw [show clubOf u = (u - 1000) / 10 * 8 + (u - 1000) % 10 from if_pos (by omega)]
          | rw [show clubOf u = -1 from if_neg (by omega)]
          first
          | rw [show toldOf u = u - 100 from if_pos (by omega)]
          | rw [show toldOf u = -1 from if_neg (by omega)]
          simp [ma_ne, ma_self]
        · skip
          try simp only [b2_cast, b2_ncast, Classical.not_not, lcm_lt, lcm_ge, lcm_gt, lcm_le, lcm_eq, b2_0, b2_n0, Bool.not_eq_false, Bool.not_eq_true, decide_eq_true_eq, decide_eq_false_iff_not] at bh16
          refine V.blk [(149, .iload 3, 1), (150, .bipush 100, 2), (152, .isub, 1), (153, .goto 157, 3), (157, .iastore, 1)] (ps := [inR (u - 100), 0 ≤ (I14 10 9) ∧ (I14 10 9) < 400]) (z' := (158, [some (aR 10), some (aI th), some (aI rl), some (aI u), some (aI e)], [], MM N (ma I14 19 (ma (I14 19) ((I14 10 9).toNat) (u - 100))) J)) (by decide +kernel) rfl (show (inR (u - 100)) ∧ (0 ≤ (I14 10 9) ∧ (I14 10 9) < 400) from ⟨(by unfold inR; omega), (by omega)⟩) ?_
          refine V.nI (fun I20 eI20 => ?_)
          have zI20 : I20 10 = I 10 := by
            rw [eI20]
            simp [ma_ne, *]
          have yI20 : I20 10 9 = I 10 9 ∧ I20 10 11 = I 10 11 ∧ I20 10 13 = I 10 13 := by rw [zI20]; exact ⟨rfl, rfl, rfl⟩
          refine V.blk [(158, .aload 0, 1), (159, .bipush 2, 1), (160, .aload 0, 1), (161, .getfield 3009, 3), (164, .imul, 1)] (ps := [inR (2 * (I20 10 9))]) (z' := (165, [some (aR 10), some (aI th), some (aI rl), some (aI u), some (aI e)], [aI (2 * (I20 10 9)), aR 10], MM N I20 J)) (by decide +kernel) rfl (show (inR (2 * (I20 10 9))) from (by unfold inR; omega)) ?_
          refine V.cv (c := 30) (na := 2) (o := 3) (a := 10) [aI (2 * (I20 10 9))] [] (by decide +kernel) rfl rfl rfl rfl rfl ((c_note (by omega)).mono (fun rv M1 q => ?_))
          obtain ⟨rfl, rfl⟩ := q
          show V 28 (168, [some (aR 10), some (aI th), some (aI rl), some (aI u), some (aI e)], [], MM N ((noteU I20 (2 * (I20 10 9)))) J) _
          refine V.nI (fun I21 eI21 => ?_)
          have yI21 : I21 10 9 = I 10 9 := by
            rw [eI21]
            unfold noteU
            rw [ma_self, ma_ne _ _ (by decide)]
            omega
          refine V.blk [(168, .aload 0, 1), (169, .dup, 1), (170, .getfield 3009, 3), (173, .bipush 1, 1), (174, .iadd, 1), (175, .putfield 3009, 3), (178, .bipush 1, 1)] (ps := [inR ((I21 10 9) + 1)]) (z' := (179, [some (aR 10), some (aI th), some (aI rl), some (aI u), some (aI e)], [aI 1], MM N (ma I21 10 (ma (I21 10) 9 ((I21 10 9) + 1))) J)) (by decide +kernel) rfl (show (inR ((I21 10 9) + 1)) from (by unfold inR; omega)) ?_
          refine V.nI (fun I22 eI22 => ?_)
          refine V.rz (by decide +kernel) (by first | exact b2_in _ | omega) ?_
          have hb : adB I th rl u = true := decide_eq_true ⟨by omega, by assumption⟩
          rw [hb]
          refine ⟨rfl, congrArg (fun w => MM N w J) ?_⟩
          rw [if_pos rfl]
          try clear zI10
          try clear yI10
          try clear zI11
          try clear yI11
          try clear zI14
          try clear yI14
          try clear zI17
          try clear yI17
          try clear zI20
          try clear yI20
          try clear zI5
          try clear yI5
          try clear zI6
          try clear yI6
          try clear zI7
          try clear yI7
          try clear zI8
          try clear yI8
          try clear zI9
          try clear yI9
          subst_vars
          unfold addU noteU addV
          first
          | rw [show clubOf u = (u - 1000) / 10 * 8 + (u - 1000) % 10 from if_pos (by omega)]
          | rw [show clubOf u = -1 from if_neg (by omega)]
          first
          | rw [show toldOf u = u - 100 from if_pos (by omega)]
          | rw [show toldOf u = -1 from if_neg (by omega)]
          simp [ma_ne, ma_self]
      · skip
        try simp only [b2_cast, b2_ncast, Classical.not_not, lcm_lt, lcm_ge, lcm_gt, lcm_le, lcm_eq, b2_0, b2_n0, Bool.not_eq_false, Bool.not_eq_true, decide_eq_true_eq, decide_eq_false_iff_not] at bh13
        refine V.blk [(118, .iload 3, 1)] (ps := []) (z' := (119, [some (aR 10), some (aI th), some (aI rl), some (aI u), some (aI e)], [aI u, aI (I11 10 9), aR 18], MM N I11 J)) (by decide +kernel) rfl trivial ?_
        refine V.cs (c := 112) (na := 1) [aI u] [aI (I11 10 9), aR 18] (by decide +kernel) rfl rfl (V.pr (c_X9_clubThing (by omega)) ?_)
        show V 28 (122, [some (aR 10), some (aI th), some (aI rl), some (aI u), some (aI e)], [aI ((u - 1000) / 10), aI (I11 10 9), aR 18], MM N I11 J) _
        refine V.blk [(122, .iload 3, 1)] (ps := []) (z' := (123, [some (aR 10), some (aI th), some (aI rl), some (aI u), some (aI e)], [aI u, aI ((u - 1000) / 10), aI (I11 10 9), aR 18], MM N I11 J)) (by decide +kernel) rfl trivial ?_
        refine V.cs (c := 113) (na := 1) [aI u] [aI ((u - 1000) / 10), aI (I11 10 9), aR 18] (by decide +kernel) rfl rfl (V.pr (c_X9_clubRelation (by omega)) ?_)
        show V 28 (126, [some (aR 10), some (aI th), some (aI rl), some (aI u), some (aI e)], [aI ((u - 1000) % 10), aI ((u - 1000) / 10), aI (I11 10 9), aR 18], MM N I11 J) _
        refine V.cs (c := 108) (na := 2) [aI ((u - 1000) % 10), aI ((u - 1000) / 10)] [aI (I11 10 9), aR 18] (by decide +kernel) rfl rfl (V.pr (c_X9_spotOf (by omega)) ?_)
        show V 28 (129, [some (aR 10), some (aI th), some (aI rl), some (aI u), some (aI e)], [aI (((u - 1000) / 10) * 8 + ((u - 1000) % 10)), aI (I11 10 9), aR 18], MM N I11 J) _
        refine V.blk [(129, .goto 133, 3), (133, .iastore, 1)] (ps := [0 ≤ (I11 10 9) ∧ (I11 10 9) < 400]) (z' := (134, [some (aR 10), some (aI th), some (aI rl), some (aI u), some (aI e)], [], MM N (ma I11 18 (ma (I11 18) ((I11 10 9).toNat) (((u - 1000) / 10) * 8 + ((u - 1000) % 10)))) J)) (by decide +kernel) rfl (show (0 ≤ (I11 10 9) ∧ (I11 10 9) < 400) from (by omega)) ?_
        refine V.nI (fun I23 eI23 => ?_)
        have zI23 : I23 10 = I 10 := by
          rw [eI23]
          simp [ma_ne, *]
        have yI23 : I23 10 9 = I 10 9 ∧ I23 10 11 = I 10 11 ∧ I23 10 13 = I 10 13 := by rw [zI23]; exact ⟨rfl, rfl, rfl⟩
        refine V.blk [(134, .aload 0, 1), (135, .getfield 3008, 3), (138, .aload 0, 1), (139, .getfield 3009, 3), (142, .iload 3, 1)] (ps := []) (z' := (143, [some (aR 10), some (aI th), some (aI rl), some (aI u), some (aI e)], [aI u, aI (I23 10 9), aR 19], MM N I23 J)) (by decide +kernel) rfl trivial ?_
        refine V.cs (c := 110) (na := 1) [aI u] [aI (I23 10 9), aR 19] (by decide +kernel) rfl rfl (V.pr (c_X9_isThingUser) ?_)
        show V 28 (146, [some (aR 10), some (aI th), some (aI rl), some (aI u), some (aI e)], [aI (b2 (decide (100 ≤ u ∧ u < 1000))), aI (I23 10 9), aR 19], MM N I23 J) _
        refine V.blk [(146, .ifCond .eq 156, 3)] (ps := []) (z' := (brc .eq (b2 (decide (100 ≤ u ∧ u < 1000))) 0 156 149, [some (aR 10), some (aI th), some (aI rl), some (aI u), some (aI e)], [aI (I23 10 9), aR 19], MM N I23 J)) (by decide +kernel) rfl trivial ?_
        refine V.eq (fun bh24 => ?_) (fun bh25 => ?_)
        · skip
          try simp only [b2_cast, b2_ncast, Classical.not_not, lcm_lt, lcm_ge, lcm_gt, lcm_le, lcm_eq, b2_0, b2_n0, Bool.not_eq_false, Bool.not_eq_true, decide_eq_true_eq, decide_eq_false_iff_not] at bh24
          refine V.blk [(156, .bipush (-1), 1), (157, .iastore, 1)] (ps := [0 ≤ (I23 10 9) ∧ (I23 10 9) < 400]) (z' := (158, [some (aR 10), some (aI th), some (aI rl), some (aI u), some (aI e)], [], MM N (ma I23 19 (ma (I23 19) ((I23 10 9).toNat) (-1))) J)) (by decide +kernel) rfl (show (0 ≤ (I23 10 9) ∧ (I23 10 9) < 400) from (by omega)) ?_
          refine V.nI (fun I26 eI26 => ?_)
          have zI26 : I26 10 = I 10 := by
            rw [eI26]
            simp [ma_ne, *]
          have yI26 : I26 10 9 = I 10 9 ∧ I26 10 11 = I 10 11 ∧ I26 10 13 = I 10 13 := by rw [zI26]; exact ⟨rfl, rfl, rfl⟩
          refine V.blk [(158, .aload 0, 1), (159, .bipush 2, 1), (160, .aload 0, 1), (161, .getfield 3009, 3), (164, .imul, 1)] (ps := [inR (2 * (I26 10 9))]) (z' := (165, [some (aR 10), some (aI th), some (aI rl), some (aI u), some (aI e)], [aI (2 * (I26 10 9)), aR 10], MM N I26 J)) (by decide +kernel) rfl (show (inR (2 * (I26 10 9))) from (by unfold inR; omega)) ?_
          refine V.cv (c := 30) (na := 2) (o := 3) (a := 10) [aI (2 * (I26 10 9))] [] (by decide +kernel) rfl rfl rfl rfl rfl ((c_note (by omega)).mono (fun rv M1 q => ?_))
          obtain ⟨rfl, rfl⟩ := q
          show V 28 (168, [some (aR 10), some (aI th), some (aI rl), some (aI u), some (aI e)], [], MM N ((noteU I26 (2 * (I26 10 9)))) J) _
          refine V.nI (fun I27 eI27 => ?_)
          have yI27 : I27 10 9 = I 10 9 := by
            rw [eI27]
            unfold noteU
            rw [ma_self, ma_ne _ _ (by decide)]
            omega
          refine V.blk [(168, .aload 0, 1), (169, .dup, 1), (170, .getfield 3009, 3), (173, .bipush 1, 1), (174, .iadd, 1), (175, .putfield 3009, 3), (178, .bipush 1, 1)] (ps := [inR ((I27 10 9) + 1)]) (z' := (179, [some (aR 10), some (aI th), some (aI rl), some (aI u), some (aI e)], [aI 1], MM N (ma I27 10 (ma (I27 10) 9 ((I27 10 9) + 1))) J)) (by decide +kernel) rfl (show (inR ((I27 10 9) + 1)) from (by unfold inR; omega)) ?_
          refine V.nI (fun I28 eI28 => ?_)
          refine V.rz (by decide +kernel) (by first | exact b2_in _ | omega) ?_
          have hb : adB I th rl u = true := decide_eq_true ⟨by omega, by assumption⟩
          rw [hb]
          refine ⟨rfl, congrArg (fun w => MM N w J) ?_⟩
          rw [if_pos rfl]
          try clear zI10
          try clear yI10
          try clear zI11
          try clear yI11
          try clear zI14
          try clear yI14
          try clear zI17
          try clear yI17
          try clear zI20
          try clear yI20
          try clear zI23
          try clear yI23
          try clear zI26
          try clear yI26
          try clear zI5
          try clear yI5
          try clear zI6
          try clear yI6
          try clear zI7
          try clear yI7
          try clear zI8
          try clear yI8
          try clear zI9
          try clear yI9
          subst_vars
          unfold addU noteU addV
          first
          | rw [show clubOf u = (u - 1000) / 10 * 8 + (u - 1000) % 10 from if_pos (by omega)]
          | rw [show clubOf u = -1 from if_neg (by omega)]
          first
          | rw [show toldOf u = u - 100 from if_pos (by omega)]
          | rw [show toldOf u = -1 from if_neg (by omega)]
          simp [ma_ne, ma_self]
        · skip
          try simp only [b2_cast, b2_ncast, Classical.not_not, lcm_lt, lcm_ge, lcm_gt, lcm_le, lcm_eq, b2_0, b2_n0, Bool.not_eq_false, Bool.not_eq_true, decide_eq_true_eq, decide_eq_false_iff_not] at bh25
          refine V.blk [(149, .iload 3, 1), (150, .bipush 100, 2), (152, .isub, 1), (153, .goto 157, 3), (157, .iastore, 1)] (ps := [inR (u - 100), 0 ≤ (I23 10 9) ∧ (I23 10 9) < 400]) (z' := (158, [some (aR 10), some (aI th), some (aI rl), some (aI u), some (aI e)], [], MM N (ma I23 19 (ma (I23 19) ((I23 10 9).toNat) (u - 100))) J)) (by decide +kernel) rfl (show (inR (u - 100)) ∧ (0 ≤ (I23 10 9) ∧ (I23 10 9) < 400) from ⟨(by unfold inR; omega), (by omega)⟩) ?_
          refine V.nI (fun I29 eI29 => ?_)
          have zI29 : I29 10 = I 10 := by
            rw [eI29]
            simp [ma_ne, *]
          have yI29 : I29 10 9 = I 10 9 ∧ I29 10 11 = I 10 11 ∧ I29 10 13 = I 10 13 := by rw [zI29]; exact ⟨rfl, rfl, rfl⟩
          refine V.blk [(158, .aload 0, 1), (159, .bipush 2, 1), (160, .aload 0, 1), (161, .getfield 3009, 3), (164, .imul, 1)] (ps := [inR (2 * (I29 10 9))]) (z' := (165, [some (aR 10), some (aI th), some (aI rl), some (aI u), some (aI e)], [aI (2 * (I29 10 9)), aR 10], MM N I29 J)) (by decide +kernel) rfl (show (inR (2 * (I29 10 9))) from (by unfold inR; omega)) ?_
          refine V.cv (c := 30) (na := 2) (o := 3) (a := 10) [aI (2 * (I29 10 9))] [] (by decide +kernel) rfl rfl rfl rfl rfl ((c_note (by omega)).mono (fun rv M1 q => ?_))
          obtain ⟨rfl, rfl⟩ := q
          show V 28 (168, [some (aR 10), some (aI th), some (aI rl), some (aI u), some (aI e)], [], MM N ((noteU I29 (2 * (I29 10 9)))) J) _
          refine V.nI (fun I30 eI30 => ?_)
          have yI30 : I30 10 9 = I 10 9 := by
            rw [eI30]
            unfold noteU
            rw [ma_self, ma_ne _ _ (by decide)]
            omega
          refine V.blk [(168, .aload 0, 1), (169, .dup, 1), (170, .getfield 3009, 3), (173, .bipush 1, 1), (174, .iadd, 1), (175, .putfield 3009, 3), (178, .bipush 1, 1)] (ps := [inR ((I30 10 9) + 1)]) (z' := (179, [some (aR 10), some (aI th), some (aI rl), some (aI u), some (aI e)], [aI 1], MM N (ma I30 10 (ma (I30 10) 9 ((I30 10 9) + 1))) J)) (by decide +kernel) rfl (show (inR ((I30 10 9) + 1)) from (by unfold inR; omega)) ?_
          refine V.nI (fun I31 eI31 => ?_)
          refine V.rz (by decide +kernel) (by first | exact b2_in _ | omega) ?_
          have hb : adB I th rl u = true := decide_eq_true ⟨by omega, by assumption⟩
          rw [hb]
          refine ⟨rfl, congrArg (fun w => MM N w J) ?_⟩
          rw [if_pos rfl]
          try clear zI10
          try clear yI10
          try clear zI11
          try clear yI11
          try clear zI14
          try clear yI14
          try clear zI17
          try clear yI17
          try clear zI20
          try clear yI20
          try clear zI23
          try clear yI23
          try clear zI26
          try clear yI26
          try clear zI29
          try clear yI29
          try clear zI5
          try clear yI5
          try clear zI6
          try clear yI6
          try clear zI7
          try clear yI7
          try clear zI8
          try clear yI8
          try clear zI9
          try clear yI9
          subst_vars
          unfold addU noteU addV
          first
          | rw [show clubOf u = (u - 1000) / 10 * 8 + (u - 1000) % 10 from if_pos (by omega)]
          | rw [show clubOf u = -1 from if_neg (by omega)]
          first
          | rw [show toldOf u = u - 100 from if_pos (by omega)]
          | rw [show toldOf u = -1 from if_neg (by omega)]
          simp [ma_ne, ma_self]
    · skip
      try simp only [b2_cast, b2_ncast, Classical.not_not, lcm_lt, lcm_ge, lcm_gt, lcm_le, lcm_eq, b2_0, b2_n0, Bool.not_eq_false, Bool.not_eq_true, decide_eq_true_eq, decide_eq_false_iff_not] at bh4
      refine V.blk [(21, .bipush 0, 1)] (ps := []) (z' := (22, [some (aR 10), some (aI th), some (aI rl), some (aI u), some (aI e)], [aI 0], MM N I J)) (by decide +kernel) rfl trivial ?_
      refine V.rz (by decide +kernel) (by first | exact b2_in _ | omega) ?_
      have hb : adB I th rl u = false := decide_eq_false (by omega)
      rw [hb]
      exact ⟨rfl, rfl⟩
theorem stF_in {K : MI} {th rl u : Int} (h : 0 ≤ K 10 9) : stF K th rl u = -1 ∨ (0 ≤ stF K th rl u ∧ stF K th rl u < K 10 9 ∧ stB K th rl u (stF K th rl u).toNat = true) := by
  unfold stF
  rcases fndF_cases (stB K th rl u) (K 10 9).toNat with ⟨a, b⟩ | ⟨k, a, b, c, d⟩
  · exact Or.inl a
  · rw [b]
    exact Or.inr ⟨by omega, by omega, c⟩
theorem cS_in (K : MI) : ∀ n : Nat, 0 ≤ cS K n ∧ cS K n ≤ n
  | 0 => ⟨Int.le_refl _, Int.le_refl _⟩
  | n + 1 => by
    have := cS_in K n
    unfold cS
    split <;> omega
theorem cS_lt {K : MI} {p : Nat} (h : K 16 p = -1) : ∀ n : Nat, p < n → cS K n + 1 ≤ n
  | 0, q => by omega
  | n + 1, q => by
    have a := cS_in K n
    unfold cS
    by_cases e : p = n
    · subst e
      rw [if_pos h]
      omega
    · have := cS_lt h n (by omega)
      split <;> omega
theorem cS_same {K K' : MI} : ∀ n : Nat, (∀ p, p < n → K' 16 p = K 16 p) → cS K' n = cS K n
  | 0, _ => rfl
  | n + 1, h => by
    unfold cS
    rw [cS_same n (fun p hp => h p (by omega)), h n (by omega)]
theorem cS_put {K K' : MI} {p : Nat} {v : Int} (h : K 16 p = -1) (hv : v ≠ -1) (e : K' 16 = ma (K 16) p v) : ∀ n : Nat, p < n → cS K' n = cS K n + 1
  | 0, q => by omega
  | n + 1, q => by
    unfold cS
    by_cases c : p = n
    · subst c
      rw [cS_same (K := K) (K' := K') p (fun r hr => by rw [e, ma_ne _ _ (show r ≠ p by omega)]), e, ma_self, if_neg hv, if_pos h]
      omega
    · rw [cS_put h hv e n (by omega), e, ma_ne _ _ (show n ≠ p by omega)]
      omega
/-- pairs and changes, a turn being open -/
def WOp (K : MI) : Prop := (0 ≤ K 10 9 ∧ K 10 9 ≤ 400) ∧ (0 ≤ K 10 13 ∧ K 10 13 ≤ 199) ∧ K 10 11 = K 10 9 + cS K (K 10 9).toNat ∧
  (∀ p : Nat, (p : Int) < K 10 9 → WPr K p ∧ 1 ≤ K 15 p ∧ K 15 p ≤ K 10 13 + 1 ∧ (K 16 p = -1 ∨ (K 15 p ≤ K 16 p ∧ K 16 p ≤ K 10 13 + 1))) ∧ ∀ c : Nat, (c : Int) < K 10 11 → 0 ≤ K 20 c ∧ K 20 c / 2 < K 10 9
theorem WOp.ch {K : MI} (h : WOp K) : (K 10 9 < 400 → 0 ≤ K 10 11 ∧ K 10 11 < 800) ∧ ∀ th rl u, stF K th rl u ≠ -1 → 0 ≤ K 10 11 ∧ K 10 11 < 800 := by
  obtain ⟨a, b, c, d, e⟩ := h
  have s := cS_in K (K 10 9).toNat
  refine ⟨fun q => by omega, fun th rl u q => ?_⟩
  rcases stF_in (K := K) (th := th) (rl := rl) (u := u) a.1 with w | ⟨w1, w2, w3⟩
  · exact absurd w q
  · have := cS_lt (K := K) (of_decide_eq_true w3).1 (K 10 9).toNat (by omega)
    omega
theorem addU_v (K : MI) (th rl u e : Int) : (∀ i, i ≠ 10 → i ≠ 11 → i ≠ 12 → i ≠ 13 → i ≠ 14 → i ≠ 15 → i ≠ 16 → i ≠ 17 → i ≠ 18 → i ≠ 19 → i ≠ 20 → addU K th rl u e i = K i) ∧ addU K th rl u e 11 = ma (K 11) (K 10 9).toNat th ∧ addU K th rl u e 12 = ma (K 12) (K 10 9).toNat rl ∧ addU K th rl u e 13 = ma (K 13) (K 10 9).toNat u ∧ addU K th rl u e 14 = ma (K 14) (K 10 9).toNat e ∧ addU K th rl u e 15 = ma (K 15) (K 10 9).toNat (K 10 13 + 1) ∧ addU K th rl u e 16 = ma (K 16) (K 10 9).toNat (-1) ∧ addU K th rl u e 17 = ma (K 17) (K 10 9).toNat (th * 8 + rl) ∧ addU K th rl u e 18 = ma (K 18) (K 10 9).toNat (clubOf u) ∧ addU K th rl u e 19 = ma (K 19) (K 10 9).toNat (toldOf u) ∧ addU K th rl u e 20 = ma (K 20) (K 10 11).toNat (2 * K 10 9) ∧ addU K th rl u e 10 9 = K 10 9 + 1 ∧ addU K th rl u e 10 11 = K 10 11 + 1 ∧ ∀ k, k ≠ 9 → k ≠ 11 → addU K th rl u e 10 k = K 10 k := by
  refine ⟨fun i h10 h11 h12 h13 h14 h15 h16 h17 h18 h19 h20 => ?_, ?_, ?_, ?_, ?_, ?_, ?_, ?_, ?_, ?_, ?_, ?_, ?_, fun k h9 h11 => ?_⟩
  · unfold addU noteU addV
    simp only [ma_ne _ _ h10, ma_ne _ _ h11, ma_ne _ _ h12, ma_ne _ _ h13, ma_ne _ _ h14, ma_ne _ _ h15, ma_ne _ _ h16, ma_ne _ _ h17, ma_ne _ _ h18, ma_ne _ _ h19, ma_ne _ _ h20]
  all_goals (unfold addU noteU addV; simp [ma_ne, ma_self, *])
theorem remU_v (K : MI) (p : Int) : (∀ i, i ≠ 10 → i ≠ 16 → i ≠ 20 → remU K p i = K i) ∧ remU K p 16 = ma (K 16) p.toNat (K 10 13 + 1) ∧ remU K p 20 = ma (K 20) (K 10 11).toNat (2 * p + 1) ∧ remU K p 10 11 = K 10 11 + 1 ∧ ∀ k, k ≠ 11 → remU K p 10 k = K 10 k := by
  refine ⟨fun i h10 h16 h20 => ?_, ?_, ?_, ?_, fun k h11 => ?_⟩
  · unfold remU noteU
    simp only [ma_ne _ _ h10, ma_ne _ _ h16, ma_ne _ _ h20]
  all_goals (unfold remU noteU; simp [ma_ne, ma_self, *])
theorem usr_in {n u : Int} (hn : n ≤ 40) (h : isUsr n u) : 0 ≤ u ∧ u ≤ 2000 := by
  rcases h with h | h | h <;> omega
theorem WPr_congr {K K' : MI} {p : Nat} (h : WPr K p) (h1 : K' 1 = K 1) (e : ∀ i, 11 ≤ i → i ≤ 19 → i ≠ 15 → i ≠ 16 → K' i p = K i p) : WPr K' p := by
  unfold WPr at h ⊢
  rw [h1, e 11 (by omega) (by omega) (by omega) (by omega), e 12 (by omega) (by omega) (by omega) (by omega), e 13 (by omega) (by omega) (by omega) (by omega), e 14 (by omega) (by omega) (by omega) (by omega), e 17 (by omega) (by omega) (by omega) (by omega), e 18 (by omega) (by omega) (by omega) (by omega), e 19 (by omega) (by omega) (by omega) (by omega)]
  exact h
theorem WOp.add {K : MI} {th rl u e : Int} (h : WOp K) (hb : adB K th rl u = true) (ht : 0 ≤ th ∧ th < K 1 1) (hr : 0 ≤ rl ∧ rl < 8) (hu : isUsr (K 1 1) u) (he : 0 ≤ e ∧ e ≤ 1000000) : WOp (addU K th rl u e) := by
  obtain ⟨v0, v11, v12, v13, v14, v15, v16, v17, v18, v19, v20, w9, w11, w⟩ := addU_v K th rl u e
  obtain ⟨a, b, c, d, f⟩ := h
  obtain ⟨b1, b2⟩ := of_decide_eq_true hb
  have s := cS_in K (K 10 9).toNat
  have e1 := v0 1 (by decide) (by decide) (by decide) (by decide) (by decide) (by decide) (by decide) (by decide) (by decide) (by decide) (by decide)
  obtain ⟨m, hm⟩ : ∃ m : Nat, K 10 9 = m := ⟨(K 10 9).toNat, by omega⟩
  rw [hm] at v11 v12 v13 v14 v15 v16 v17 v18 v19 v20 w9 s c
  rw [show ((m : Int)).toNat = m from rfl] at v11 v12 v13 v14 v15 v16 v17 v18 v19 s c
  have w13 := w 13 (by decide) (by decide)
  have sc : cS (addU K th rl u e) (m + 1) = cS K m := by
    show cS _ m + _ = _
    rw [v16, ma_self, if_pos rfl, cS_same m (fun p hp => by rw [v16, ma_ne _ _ (show p ≠ m by omega)])]
    omega
  refine ⟨by omega, by omega, ?_, fun p hp => ?_, fun q hq => ?_⟩
  · rw [w9, w11, show ((m : Int) + 1).toNat = m + 1 by omega, sc]
    omega
  · rw [w9] at hp
    rw [w13, v15, v16]
    by_cases ep : p = m
    · subst ep
      rw [ma_self, ma_self]
      refine ⟨?_, by omega, by omega, Or.inl rfl⟩
      unfold WPr
      rw [e1, v11, v12, v13, v14, v17, v18, v19]
      simp only [ma_self]
      refine ⟨ht.1, ht.2, hr.1, hr.2, hu, he.1, he.2, ?_, ?_, ?_⟩ <;> first | rfl | trivial
    · rw [ma_ne _ _ ep, ma_ne _ _ ep]
      have dp := d p (by omega)
      refine ⟨WPr_congr dp.1 e1 (fun i i1 i2 i3 i4 => ?_), by omega, by omega, by omega⟩
      rcases (show i = 11 ∨ i = 12 ∨ i = 13 ∨ i = 14 ∨ i = 17 ∨ i = 18 ∨ i = 19 by omega) with q | q | q | q | q | q | q
      · subst q; rw [v11, ma_ne _ _ ep]
      · subst q; rw [v12, ma_ne _ _ ep]
      · subst q; rw [v13, ma_ne _ _ ep]
      · subst q; rw [v14, ma_ne _ _ ep]
      · subst q; rw [v17, ma_ne _ _ ep]
      · subst q; rw [v18, ma_ne _ _ ep]
      · subst q; rw [v19, ma_ne _ _ ep]
  · rw [w11] at hq
    rw [w9, v20]
    unfold ma
    split
    · omega
    · have := f q (by omega)
      omega
theorem WOp.rem {K : MI} {th rl u : Int} (h : WOp K) (hb : rmB K th rl u = true) : WOp (remU K (stF K th rl u)) := by
  obtain ⟨v0, v16, v20, w11, w⟩ := remU_v K (stF K th rl u)
  obtain ⟨a, b, c, d, f⟩ := h
  have b1 := of_decide_eq_true hb
  rcases stF_in (K := K) (th := th) (rl := rl) (u := u) a.1 with q | ⟨q1, q2, q3⟩
  · exact absurd q b1
  obtain ⟨p0, hp0⟩ : ∃ p : Nat, stF K th rl u = p := ⟨(stF K th rl u).toNat, by omega⟩
  rw [hp0] at v0 v16 v20 w11 w q1 q2 q3 ⊢
  have q4 := (of_decide_eq_true q3).1
  rw [show ((p0 : Int)).toNat = p0 from rfl] at v16 q4
  have w9 := w 9 (by decide)
  have w13 := w 13 (by decide)
  have e1 := v0 1 (by decide) (by decide) (by decide)
  have s := cS_in K (K 10 9).toNat
  refine ⟨by omega, by omega, ?_, fun p hp => ?_, fun r hr => ?_⟩
  · rw [w9, w11, cS_put q4 (by omega) v16 _ (by omega)]
    omega
  · rw [w9] at hp
    have dp := d p (by omega)
    rw [w13, v0 15 (by decide) (by decide) (by decide), v16]
    refine ⟨WPr_congr dp.1 e1 (fun i i1 i2 i3 i4 => by rw [v0 i (by omega) (by omega) (by omega)]), by omega, by omega, ?_⟩
    unfold ma
    split
    · right; omega
    · exact dp.2.2.2
  · rw [w11] at hr
    rw [w9, v20]
    unfold ma
    split
    · omega
    · exact f r (by omega)
def aoB (K : MI) (a : Nat) : Bool := if K 26 a = -1 then rmB K (K 23 a) (K 24 a) (K 25 a) else adB K (K 23 a) (K 24 a) (K 25 a)
def aoU (K : MI) (a : Nat) : MI := if K 26 a = -1 then remU K (stF K (K 23 a) (K 24 a) (K 25 a)) else addU K (K 23 a) (K 24 a) (K 25 a) (K 26 a)
def runU (K : MI) : Nat → MI
  | 0 => K
  | a + 1 => aoU (runU K a) a
theorem aoU_ne (K : MI) (a : Nat) {i : Nat} (h : i < 10 ∨ 20 < i) : aoU K a i = K i := by
  unfold aoU
  split
  · exact (remU_v K _).1 i (by omega) (by omega) (by omega)
  · exact (addU_v K _ _ _ _).1 i (by omega) (by omega) (by omega) (by omega) (by omega) (by omega) (by omega) (by omega) (by omega) (by omega) (by omega)
theorem aoU_10 (K : MI) (a : Nat) {k : Nat} (h : k ≠ 9) (g : k ≠ 11) : aoU K a 10 k = K 10 k := by
  unfold aoU
  split
  · exact (remU_v K _).2.2.2.2 k g
  · exact (addU_v K _ _ _ _).2.2.2.2.2.2.2.2.2.2.2.2.2 k h g
theorem runU_ne (K : MI) {i : Nat} (h : i < 10 ∨ 20 < i) : ∀ a, runU K a i = K i
  | 0 => rfl
  | a + 1 => by
    show aoU (runU K a) a i = _
    rw [aoU_ne _ _ h, runU_ne K h a]
theorem runU_10 (K : MI) {k : Nat} (h : k ≠ 9) (g : k ≠ 11) : ∀ a, runU K a 10 k = K 10 k
  | 0 => rfl
  | a + 1 => by
    show aoU (runU K a) a 10 k = _
    rw [aoU_10 _ _ h g, runU_10 K h g a]
theorem WOp.act {K : MI} {a : Nat} (h : WOp K) (hA : WAct K a) (hb : aoB K a = true) : WOp (aoU K a) := by
  obtain ⟨a1, a2, a3, a4, a5, a6, a7⟩ := hA
  unfold aoB at hb
  unfold aoU
  split
  · rename_i e
    rw [if_pos e] at hb
    exact h.rem hb
  · rename_i e
    rw [if_neg e] at hb
    exact h.add hb ⟨a1, a2⟩ ⟨a3, a4⟩ a5 ⟨by omega, a7⟩
theorem WAct_congr {K K' : MI} {a : Nat} (h : WAct K a) (e : ∀ i, (i < 10 ∨ 20 < i) → K' i = K i) : WAct K' a := by
  unfold WAct at h ⊢
  rw [e 1 (by omega), e 23 (by omega), e 24 (by omega), e 25 (by omega), e 26 (by omega)]
  exact h
theorem WOp.run {K : MI} (h : WOp K) : ∀ a : Nat, (∀ b, b < a → WAct K b) → (∀ b, b < a → aoB (runU K b) b = true) → WOp (runU K a)
  | 0, _, _ => h
  | a + 1, hA, hb => (h.run a (fun b q => hA b (by omega)) (fun b q => hb b (by omega))).act (WAct_congr (hA a (by omega)) (fun i hi => runU_ne K hi a)) (hb a (by omega))
theorem WLe.op {I : MI} (h : WLe I) (hl : I 10 13 < 200) : WOp I := by
  obtain ⟨a, b, c, d, e, f, g, -⟩ := h
  exact ⟨⟨a, b⟩, ⟨c, by omega⟩, e, fun p hp => by have := f p hp; exact ⟨this.1, by omega, by omega, by omega⟩, g⟩
theorem c_remove {N : Nat} {I : MI} {J : MJ} {th rl u : Int} (hO : WOp I) : CT 29 [aR 10, aI th, aI rl, aI u] (MM N I J) (fun r M' => r = some (aI (b2 (rmB I th rl u))) ∧ M' = MM N (if rmB I th rl u = true then remU I (stF I th rl u) else I) J) := by
  have hc := hO.ch.2 th rl u
  have hm := hO.1
  have hl := hO.2.1
  have hs := stF_in (K := I) (th := th) (rl := rl) (u := u) hm.1
  refine CT.ofV (n := 5) (ls := [some (aR 10), some (aI th), some (aI rl), some (aI u), none]) rfl rfl rfl ?_
  refine V.blk [(0, .aload 0, 1), (1, .iload 1, 1), (2, .iload 2, 1), (3, .iload 3, 1)] (ps := []) (z' := (4, [some (aR 10), some (aI th), some (aI rl), some (aI u), none], [aI u, aI rl, aI th, aR 10], MM N I J)) (by decide +kernel) rfl trivial ?_
  refine V.cv (c := 27) (na := 4) (o := 3) (a := 10) [aI u, aI rl, aI th] [] (by decide +kernel) rfl rfl rfl rfl rfl (V.pr (c_stand (by omega)) ?_)
  show V 29 (7, [some (aR 10), some (aI th), some (aI rl), some (aI u), none], [aI (stF I th rl u)], MM N I J) _
  refine V.blk [(7, .istore 4, 2), (9, .iload 4, 2), (11, .bipush (-1), 1), (12, .if_icmp .ne 17, 3)] (ps := []) (z' := (brc .ne (stF I th rl u) (-1) 17 15, [some (aR 10), some (aI th), some (aI rl), some (aI u), some (aI (stF I th rl u))], [], MM N I J)) (by decide +kernel) rfl trivial ?_
  refine V.ne (fun bh1 => ?_) (fun bh2 => ?_)
  · skip
    refine V.blk [(17, .aload 0, 1), (18, .getfield 3005, 3), (21, .iload 4, 2), (23, .aload 0, 1), (24, .getfield 3013, 3), (27, .bipush 1, 1), (28, .iadd, 1), (29, .iastore, 1)] (ps := [inR ((I 10 13) + 1), 0 ≤ (stF I th rl u) ∧ (stF I th rl u) < 400]) (z' := (30, [some (aR 10), some (aI th), some (aI rl), some (aI u), some (aI (stF I th rl u))], [], MM N (ma I 16 (ma (I 16) ((stF I th rl u).toNat) ((I 10 13) + 1))) J)) (by decide +kernel) rfl (show (inR ((I 10 13) + 1)) ∧ (0 ≤ (stF I th rl u) ∧ (stF I th rl u) < 400) from ⟨(by unfold inR; omega), (by omega)⟩) ?_
    refine V.nI (fun I3 eI3 => ?_)
    have zz : I3 10 11 = I 10 11 := by rw [eI3, ma_ne _ _ (show (10 : Nat) ≠ 16 by decide)]
    refine V.blk [(30, .aload 0, 1), (31, .bipush 2, 1), (32, .iload 4, 2), (34, .imul, 1), (35, .bipush 1, 1), (36, .iadd, 1)] (ps := [inR (2 * (stF I th rl u)), inR ((2 * (stF I th rl u)) + 1)]) (z' := (37, [some (aR 10), some (aI th), some (aI rl), some (aI u), some (aI (stF I th rl u))], [aI ((2 * (stF I th rl u)) + 1), aR 10], MM N I3 J)) (by decide +kernel) rfl (show (inR (2 * (stF I th rl u))) ∧ (inR ((2 * (stF I th rl u)) + 1)) from ⟨(by unfold inR; omega), (by unfold inR; omega)⟩) ?_
    refine V.cv (c := 30) (na := 2) (o := 3) (a := 10) [aI ((2 * (stF I th rl u)) + 1)] [] (by decide +kernel) rfl rfl rfl rfl rfl ((c_note (by omega)).mono (fun rv M1 q => ?_))
    obtain ⟨rfl, rfl⟩ := q
    show V 29 (40, [some (aR 10), some (aI th), some (aI rl), some (aI u), some (aI (stF I th rl u))], [], MM N ((noteU I3 ((2 * (stF I th rl u)) + 1))) J) _
    refine V.blk [(40, .bipush 1, 1)] (ps := []) (z' := (41, [some (aR 10), some (aI th), some (aI rl), some (aI u), some (aI (stF I th rl u))], [aI 1], MM N ((noteU I3 ((2 * (stF I th rl u)) + 1))) J)) (by decide +kernel) rfl trivial ?_
    refine V.nI (fun I4 eI4 => ?_)
    refine V.rz (by decide +kernel) (by first | exact b2_in _ | omega) ?_
    have hb : rmB I th rl u = true := decide_eq_true (by assumption)
    rw [hb]
    refine ⟨rfl, congrArg (fun w => MM N w J) ?_⟩
    rw [if_pos rfl]
    subst_vars
    rfl
  · skip
    refine V.blk [(15, .bipush 0, 1)] (ps := []) (z' := (16, [some (aR 10), some (aI th), some (aI rl), some (aI u), some (aI (stF I th rl u))], [aI 0], MM N I J)) (by decide +kernel) rfl trivial ?_
    refine V.rz (by decide +kernel) (by first | exact b2_in _ | omega) ?_
    have hb : rmB I th rl u = false := decide_eq_false (by omega)
    rw [hb]
    exact ⟨rfl, rfl⟩
theorem c_X3_hasRoom {N : Nat} {I : MI} {J : MJ} {n : Int} (h : 0 ≤ I 10 9 ∧ I 10 9 ≤ 400 ∧ 0 ≤ n ∧ n ≤ 400) : CT 24 [aR 10, aI n] (MM N I J) (pure1 N I J (aI (b2 (decide (I 10 13 < 200 ∧ I 10 9 + n ≤ 400))))) := by
  refine CT.ofV (n := 2) (ls := [some (aR 10), some (aI n)]) rfl rfl rfl ?_
  refine V.blk [(0, .aload 0, 1), (1, .getfield 3013, 3), (4, .bipush 200, 3), (7, .if_icmp .ge 26, 3)] (ps := []) (z' := (brc .ge (I 10 13) 200 26 10, [some (aR 10), some (aI n)], [], MM N I J)) (by decide +kernel) rfl trivial ?_
  refine V.ge (fun bh1 => ?_) (fun bh2 => ?_)
  · skip
    try simp only [b2_cast, b2_ncast, Classical.not_not, lcm_lt, lcm_ge, lcm_gt, lcm_le, lcm_eq] at bh1
    refine V.blk [(26, .bipush 0, 1)] (ps := []) (z' := (27, [some (aR 10), some (aI n)], [aI 0], MM N I J)) (by decide +kernel) rfl trivial ?_
    refine V.rz (by decide +kernel) (by first | exact b2_in _ | omega) ?_
    refine ⟨congrArg (fun w => some (aI w)) ?_, rfl⟩
    first | exact b2_td (by omega) | exact b2_fd (by omega)
  · skip
    try simp only [b2_cast, b2_ncast, Classical.not_not, lcm_lt, lcm_ge, lcm_gt, lcm_le, lcm_eq] at bh2
    refine V.blk [(10, .aload 0, 1), (11, .getfield 3009, 3), (14, .iload 1, 1), (15, .iadd, 1), (16, .bipush 400, 3), (19, .if_icmp .gt 26, 3)] (ps := [inR ((I 10 9) + n)]) (z' := (brc .gt ((I 10 9) + n) 400 26 22, [some (aR 10), some (aI n)], [], MM N I J)) (by decide +kernel) rfl (show (inR ((I 10 9) + n)) from (by unfold inR; omega)) ?_
    refine V.gt (fun bh3 => ?_) (fun bh4 => ?_)
    · skip
      try simp only [b2_cast, b2_ncast, Classical.not_not, lcm_lt, lcm_ge, lcm_gt, lcm_le, lcm_eq] at bh3
      refine V.blk [(26, .bipush 0, 1)] (ps := []) (z' := (27, [some (aR 10), some (aI n)], [aI 0], MM N I J)) (by decide +kernel) rfl trivial ?_
      refine V.rz (by decide +kernel) (by first | exact b2_in _ | omega) ?_
      refine ⟨congrArg (fun w => some (aI w)) ?_, rfl⟩
      first | exact b2_td (by omega) | exact b2_fd (by omega)
    · skip
      try simp only [b2_cast, b2_ncast, Classical.not_not, lcm_lt, lcm_ge, lcm_gt, lcm_le, lcm_eq] at bh4
      refine V.blk [(22, .bipush 1, 1), (23, .goto 27, 3)] (ps := []) (z' := (27, [some (aR 10), some (aI n)], [aI 1], MM N I J)) (by decide +kernel) rfl trivial ?_
      refine V.rz (by decide +kernel) (by first | exact b2_in _ | omega) ?_
      refine ⟨congrArg (fun w => some (aI w)) ?_, rfl⟩
      first | exact b2_td (by omega) | exact b2_fd (by omega)
def closeU (K : MI) : MI := ma (ma K 10 (ma (K 10) 13 (K 10 13 + 1))) 21 (ma (K 21) (K 10 13 + 1).toNat (K 10 11))
theorem c_close {N : Nat} {I : MI} {J : MJ} (h : 0 ≤ I 10 13 ∧ I 10 13 < 200) : CT 31 [aR 10] (MM N I J) (QV N J (closeU I)) := by
  refine CT.ofV (n := 1) (ls := [some (aR 10)]) rfl rfl rfl ?_
  refine V.blk [(0, .aload 0, 1), (1, .getfield 3013, 3), (4, .bipush 200, 3), (7, .if_icmp .ge 33, 3)] (ps := []) (z' := (brc .ge (I 10 13) 200 33 10, [some (aR 10)], [], MM N I J)) (by decide +kernel) rfl trivial ?_
  refine V.ge (fun bh1 => ?_) (fun bh2 => ?_)
  · skip
    refine V.rv (by decide +kernel) ?_
    first
    | (exfalso; omega)
    | (refine ⟨rfl, congrArg (fun w => MM N w J) ?_⟩
       subst_vars
       unfold closeU
       simp [ma_ne, ma_self])
  · skip
    refine V.blk [(10, .aload 0, 1), (11, .dup, 1), (12, .getfield 3013, 3), (15, .bipush 1, 1), (16, .iadd, 1), (17, .putfield 3013, 3), (20, .aload 0, 1), (21, .getfield 3012, 3), (24, .aload 0, 1), (25, .getfield 3013, 3), (28, .aload 0, 1), (29, .getfield 3011, 3), (32, .iastore, 1)] (ps := [inR ((I 10 13) + 1), 0 ≤ ((ma I 10 (ma (I 10) 13 ((I 10 13) + 1))) 10 13) ∧ ((ma I 10 (ma (I 10) 13 ((I 10 13) + 1))) 10 13) < 201]) (z' := (33, [some (aR 10)], [], MM N (ma (ma I 10 (ma (I 10) 13 ((I 10 13) + 1))) 21 (ma ((ma I 10 (ma (I 10) 13 ((I 10 13) + 1))) 21) (((ma I 10 (ma (I 10) 13 ((I 10 13) + 1))) 10 13).toNat) ((ma I 10 (ma (I 10) 13 ((I 10 13) + 1))) 10 11))) J)) (by decide +kernel) rfl (show (inR ((I 10 13) + 1)) ∧ (0 ≤ ((ma I 10 (ma (I 10) 13 ((I 10 13) + 1))) 10 13) ∧ ((ma I 10 (ma (I 10) 13 ((I 10 13) + 1))) 10 13) < 201) from ⟨(by unfold inR; first | omega | (simp only [ma_self]; omega)), (by first | omega | (simp only [ma_self]; omega))⟩) ?_
    refine V.nI (fun I3 eI3 => ?_)
    refine V.rv (by decide +kernel) ?_
    first
    | (exfalso; omega)
    | (refine ⟨rfl, congrArg (fun w => MM N w J) ?_⟩
       subst_vars
       unfold closeU
       simp [ma_ne, ma_self])
theorem c_perfAct {N : Nat} {I : MI} {J : MJ} {a : Nat} (ha : a < 20) (hO : WOp I) (hA : WAct I a) (h40 : I 1 1 ≤ 40) : CT 14 [aR 22, aR 10, aI (a : Int)] (MM N I J) (fun r M' => r = some (aI (b2 (aoB I a))) ∧ M' = MM N (if aoB I a = true then aoU I a else I) J) := by
  obtain ⟨a1, a2, a3, a4, a5, a6, a7⟩ := hA
  have hu := usr_in h40 a5
  refine CT.ofV (n := 3) (ls := [some (aR 22), some (aR 10), some (aI (a : Int))]) rfl rfl rfl ?_
  refine V.blk [(0, .aload 0, 1), (1, .getfield 1003, 3), (4, .iload 2, 1), (5, .iaload, 1), (6, .bipush (-1), 1), (7, .if_icmp .ne 33, 3)] (ps := [0 ≤ (a : Int) ∧ (a : Int) < 20]) (z' := (brc .ne (I 26 a) (-1) 33 10, [some (aR 22), some (aR 10), some (aI (a : Int))], [], MM N I J)) (by decide +kernel) rfl (show (0 ≤ (a : Int) ∧ (a : Int) < 20) from (by omega)) ?_
  refine V.ne (fun bh1 => ?_) (fun bh2 => ?_)
  · skip
    refine V.blk [(33, .aload 1, 1), (34, .aload 0, 1), (35, .getfield 1000, 3), (38, .iload 2, 1), (39, .iaload, 1), (40, .aload 0, 1), (41, .getfield 1001, 3), (44, .iload 2, 1), (45, .iaload, 1), (46, .aload 0, 1), (47, .getfield 1002, 3), (50, .iload 2, 1), (51, .iaload, 1), (52, .aload 0, 1), (53, .getfield 1003, 3), (56, .iload 2, 1), (57, .iaload, 1)] (ps := [0 ≤ (a : Int) ∧ (a : Int) < 20, 0 ≤ (a : Int) ∧ (a : Int) < 20, 0 ≤ (a : Int) ∧ (a : Int) < 20, 0 ≤ (a : Int) ∧ (a : Int) < 20]) (z' := (58, [some (aR 22), some (aR 10), some (aI (a : Int))], [aI (I 26 a), aI (I 25 a), aI (I 24 a), aI (I 23 a), aR 10], MM N I J)) (by decide +kernel) rfl (show (0 ≤ (a : Int) ∧ (a : Int) < 20) ∧ (0 ≤ (a : Int) ∧ (a : Int) < 20) ∧ (0 ≤ (a : Int) ∧ (a : Int) < 20) ∧ (0 ≤ (a : Int) ∧ (a : Int) < 20) from ⟨(by omega), (by omega), (by omega), (by omega)⟩) ?_
    refine V.cv (c := 28) (na := 5) (o := 3) (a := 10) [aI (I 26 a), aI (I 25 a), aI (I 24 a), aI (I 23 a)] [] (by decide +kernel) rfl rfl rfl rfl rfl ((c_add hO.1 hO.ch.1 ⟨hO.2.1.1, by have := hO.2.1.2; omega⟩ (by omega) (by omega) hu).mono (fun rv M1 q => ?_))
    obtain ⟨rfl, rfl⟩ := q
    show V 14 (61, [some (aR 22), some (aR 10), some (aI (a : Int))], [aI (b2 (adB I (I 23 a) (I 24 a) (I 25 a)))], MM N ((if adB I (I 23 a) (I 24 a) (I 25 a) = true then addU I (I 23 a) (I 24 a) (I 25 a) (I 26 a) else I)) J) _
    refine V.nI (fun I3 eI3 => ?_)
    refine V.rz (by decide +kernel) (by first | exact b2_in _ | omega) ?_
    subst_vars
    have e26 : ¬ I 26 a = -1 := by assumption
    simp [aoB, aoU, e26]
  · skip
    refine V.blk [(10, .aload 1, 1), (11, .aload 0, 1), (12, .getfield 1000, 3), (15, .iload 2, 1), (16, .iaload, 1), (17, .aload 0, 1), (18, .getfield 1001, 3), (21, .iload 2, 1), (22, .iaload, 1), (23, .aload 0, 1), (24, .getfield 1002, 3), (27, .iload 2, 1), (28, .iaload, 1)] (ps := [0 ≤ (a : Int) ∧ (a : Int) < 20, 0 ≤ (a : Int) ∧ (a : Int) < 20, 0 ≤ (a : Int) ∧ (a : Int) < 20]) (z' := (29, [some (aR 22), some (aR 10), some (aI (a : Int))], [aI (I 25 a), aI (I 24 a), aI (I 23 a), aR 10], MM N I J)) (by decide +kernel) rfl (show (0 ≤ (a : Int) ∧ (a : Int) < 20) ∧ (0 ≤ (a : Int) ∧ (a : Int) < 20) ∧ (0 ≤ (a : Int) ∧ (a : Int) < 20) from ⟨(by omega), (by omega), (by omega)⟩) ?_
    refine V.cv (c := 29) (na := 4) (o := 3) (a := 10) [aI (I 25 a), aI (I 24 a), aI (I 23 a)] [] (by decide +kernel) rfl rfl rfl rfl rfl ((c_remove hO).mono (fun rv M1 q => ?_))
    obtain ⟨rfl, rfl⟩ := q
    show V 14 (32, [some (aR 22), some (aR 10), some (aI (a : Int))], [aI (b2 (rmB I (I 23 a) (I 24 a) (I 25 a)))], MM N ((if rmB I (I 23 a) (I 24 a) (I 25 a) = true then remU I (stF I (I 23 a) (I 24 a) (I 25 a)) else I)) J) _
    refine V.nI (fun I4 eI4 => ?_)
    refine V.rz (by decide +kernel) (by first | exact b2_in _ | omega) ?_
    subst_vars
    have e26 : I 26 a = -1 := by assumption
    simp [aoB, aoU, e26]
