/-! ===== the class: the turn that is made; counting ===== -/
def cntF (f : Nat → Bool) : Nat → Int
  | 0 => 0
  | n + 1 => cntF f n + (if f n = true then 1 else 0)
theorem cntF_t {f : Nat → Bool} {n : Nat} (h : f n = true) : cntF f (n + 1) = cntF f n + 1 := by simp [cntF, h]
theorem cntF_f {f : Nat → Bool} {n : Nat} (h : f n = false) : cntF f (n + 1) = cntF f n := by simp [cntF, h]
theorem cntF_in (f : Nat → Bool) : ∀ n : Nat, 0 ≤ cntF f n ∧ cntF f n ≤ n
  | 0 => ⟨Int.le_refl _, Int.le_refl _⟩
  | n + 1 => by
    have := cntF_in f n
    unfold cntF
    split <;> omega
theorem cntF_congr {f g : Nat → Bool} : ∀ n : Nat, (∀ k, k < n → f k = g k) → cntF f n = cntF g n
  | 0, _ => rfl
  | n + 1, h => by
    unfold cntF
    rw [cntF_congr n (fun k hk => h k (by omega)), h n (by omega)]
def actU (I : MI) (t r u e : Int) : MI := ma (ma (ma (ma (ma I 23 (ma (I 23) (I 22 4).toNat t)) 24 (ma (I 24) (I 22 4).toNat r)) 25 (ma (I 25) (I 22 4).toNat u)) 26 (ma (I 26) (I 22 4).toNat e)) 22 (ma (I 22) 4 (I 22 4 + 1))
def cndU (I : MI) (t r u b : Int) : MI := ma (ma (ma (ma (ma I 27 (ma (I 27) (I 22 9).toNat t)) 28 (ma (I 28) (I 22 9).toNat r)) 29 (ma (I 29) (I 22 9).toNat u)) 30 (ma (I 30) (I 22 9).toNat b)) 22 (ma (I 22) 9 (I 22 9 + 1))
def clrU (I : MI) : MI := ma I 22 (ma (ma (I 22) 4 0) 9 0)
abbrev QV (N : Nat) (J : MJ) (I1 : MI) : Option AV → M5 → Prop := fun r M' => r = none ∧ M' = MM N I1 J
theorem c_addAct {N : Nat} {I : MI} {J : MJ} {t r u e : Int} (h : 0 ≤ I 22 4 ∧ I 22 4 < 20) : CT 10 [aR 22, aI t, aI r, aI u, aI e] (MM N I J) (QV N J (actU I t r u e)) := by
  refine CT.ofV (n := 5) (ls := [some (aR 22), some (aI t), some (aI r), some (aI u), some (aI e)]) rfl rfl rfl ?_
  refine V.blk [(0, .aload 0, 1), (1, .getfield 1004, 3), (4, .bipush 20, 2), (6, .if_icmp .ge 60, 3)] (ps := []) (z' := (brc .ge (I 22 4) 20 60 9, [some (aR 22), some (aI t), some (aI r), some (aI u), some (aI e)], [], MM N I J)) (by decide +kernel) rfl trivial ?_
  refine V.ge (fun h1 => ?_) (fun h2 => ?_)
  · skip
    refine V.rv (by decide +kernel) ?_
    exfalso; omega
  · skip
    refine V.blk [(9, .aload 0, 1), (10, .getfield 1000, 3), (13, .aload 0, 1), (14, .getfield 1004, 3), (17, .iload 1, 1), (18, .iastore, 1), (19, .aload 0, 1), (20, .getfield 1001, 3), (23, .aload 0, 1), (24, .getfield 1004, 3), (27, .iload 2, 1), (28, .iastore, 1), (29, .aload 0, 1), (30, .getfield 1002, 3), (33, .aload 0, 1), (34, .getfield 1004, 3), (37, .iload 3, 1), (38, .iastore, 1), (39, .aload 0, 1), (40, .getfield 1003, 3), (43, .aload 0, 1), (44, .getfield 1004, 3), (47, .iload 4, 2), (49, .iastore, 1), (50, .aload 0, 1), (51, .dup, 1), (52, .getfield 1004, 3), (55, .bipush 1, 1), (56, .iadd, 1), (57, .putfield 1004, 3)] (ps := [0 ≤ (I 22 4) ∧ (I 22 4) < 20, 0 ≤ ((ma I 23 (ma (I 23) ((I 22 4).toNat) t)) 22 4) ∧ ((ma I 23 (ma (I 23) ((I 22 4).toNat) t)) 22 4) < 20, 0 ≤ ((ma (ma I 23 (ma (I 23) ((I 22 4).toNat) t)) 24 (ma ((ma I 23 (ma (I 23) ((I 22 4).toNat) t)) 24) (((ma I 23 (ma (I 23) ((I 22 4).toNat) t)) 22 4).toNat) r)) 22 4) ∧ ((ma (ma I 23 (ma (I 23) ((I 22 4).toNat) t)) 24 (ma ((ma I 23 (ma (I 23) ((I 22 4).toNat) t)) 24) (((ma I 23 (ma (I 23) ((I 22 4).toNat) t)) 22 4).toNat) r)) 22 4) < 20, 0 ≤ ((ma (ma (ma I 23 (ma (I 23) ((I 22 4).toNat) t)) 24 (ma ((ma I 23 (ma (I 23) ((I 22 4).toNat) t)) 24) (((ma I 23 (ma (I 23) ((I 22 4).toNat) t)) 22 4).toNat) r)) 25 (ma ((ma (ma I 23 (ma (I 23) ((I 22 4).toNat) t)) 24 (ma ((ma I 23 (ma (I 23) ((I 22 4).toNat) t)) 24) (((ma I 23 (ma (I 23) ((I 22 4).toNat) t)) 22 4).toNat) r)) 25) (((ma (ma I 23 (ma (I 23) ((I 22 4).toNat) t)) 24 (ma ((ma I 23 (ma (I 23) ((I 22 4).toNat) t)) 24) (((ma I 23 (ma (I 23) ((I 22 4).toNat) t)) 22 4).toNat) r)) 22 4).toNat) u)) 22 4) ∧ ((ma (ma (ma I 23 (ma (I 23) ((I 22 4).toNat) t)) 24 (ma ((ma I 23 (ma (I 23) ((I 22 4).toNat) t)) 24) (((ma I 23 (ma (I 23) ((I 22 4).toNat) t)) 22 4).toNat) r)) 25 (ma ((ma (ma I 23 (ma (I 23) ((I 22 4).toNat) t)) 24 (ma ((ma I 23 (ma (I 23) ((I 22 4).toNat) t)) 24) (((ma I 23 (ma (I 23) ((I 22 4).toNat) t)) 22 4).toNat) r)) 25) (((ma (ma I 23 (ma (I 23) ((I 22 4).toNat) t)) 24 (ma ((ma I 23 (ma (I 23) ((I 22 4).toNat) t)) 24) (((ma I 23 (ma (I 23) ((I 22 4).toNat) t)) 22 4).toNat) r)) 22 4).toNat) u)) 22 4) < 20, inR (((ma (ma (ma (ma I 23 (ma (I 23) ((I 22 4).toNat) t)) 24 (ma ((ma I 23 (ma (I 23) ((I 22 4).toNat) t)) 24) (((ma I 23 (ma (I 23) ((I 22 4).toNat) t)) 22 4).toNat) r)) 25 (ma ((ma (ma I 23 (ma (I 23) ((I 22 4).toNat) t)) 24 (ma ((ma I 23 (ma (I 23) ((I 22 4).toNat) t)) 24) (((ma I 23 (ma (I 23) ((I 22 4).toNat) t)) 22 4).toNat) r)) 25) (((ma (ma I 23 (ma (I 23) ((I 22 4).toNat) t)) 24 (ma ((ma I 23 (ma (I 23) ((I 22 4).toNat) t)) 24) (((ma I 23 (ma (I 23) ((I 22 4).toNat) t)) 22 4).toNat) r)) 22 4).toNat) u)) 26 (ma ((ma (ma (ma I 23 (ma (I 23) ((I 22 4).toNat) t)) 24 (ma ((ma I 23 (ma (I 23) ((I 22 4).toNat) t)) 24) (((ma I 23 (ma (I 23) ((I 22 4).toNat) t)) 22 4).toNat) r)) 25 (ma ((ma (ma I 23 (ma (I 23) ((I 22 4).toNat) t)) 24 (ma ((ma I 23 (ma (I 23) ((I 22 4).toNat) t)) 24) (((ma I 23 (ma (I 23) ((I 22 4).toNat) t)) 22 4).toNat) r)) 25) (((ma (ma I 23 (ma (I 23) ((I 22 4).toNat) t)) 24 (ma ((ma I 23 (ma (I 23) ((I 22 4).toNat) t)) 24) (((ma I 23 (ma (I 23) ((I 22 4).toNat) t)) 22 4).toNat) r)) 22 4).toNat) u)) 26) (((ma (ma (ma I 23 (ma (I 23) ((I 22 4).toNat) t)) 24 (ma ((ma I 23 (ma (I 23) ((I 22 4).toNat) t)) 24) (((ma I 23 (ma (I 23) ((I 22 4).toNat) t)) 22 4).toNat) r)) 25 (ma ((ma (ma I 23 (ma (I 23) ((I 22 4).toNat) t)) 24 (ma ((ma I 23 (ma (I 23) ((I 22 4).toNat) t)) 24) (((ma I 23 (ma (I 23) ((I 22 4).toNat) t)) 22 4).toNat) r)) 25) (((ma (ma I 23 (ma (I 23) ((I 22 4).toNat) t)) 24 (ma ((ma I 23 (ma (I 23) ((I 22 4).toNat) t)) 24) (((ma I 23 (ma (I 23) ((I 22 4).toNat) t)) 22 4).toNat) r)) 22 4).toNat) u)) 22 4).toNat) e)) 22 4) + 1)]) (z' := (60, [some (aR 22), some (aI t), some (aI r), some (aI u), some (aI e)], [], MM N (ma (ma (ma (ma (ma I 23 (ma (I 23) ((I 22 4).toNat) t)) 24 (ma ((ma I 23 (ma (I 23) ((I 22 4).toNat) t)) 24) (((ma I 23 (ma (I 23) ((I 22 4).toNat) t)) 22 4).toNat) r)) 25 (ma ((ma (ma I 23 (ma (I 23) ((I 22 4).toNat) t)) 24 (ma ((ma I 23 (ma (I 23) ((I 22 4).toNat) t)) 24) (((ma I 23 (ma (I 23) ((I 22 4).toNat) t)) 22 4).toNat) r)) 25) (((ma (ma I 23 (ma (I 23) ((I 22 4).toNat) t)) 24 (ma ((ma I 23 (ma (I 23) ((I 22 4).toNat) t)) 24) (((ma I 23 (ma (I 23) ((I 22 4).toNat) t)) 22 4).toNat) r)) 22 4).toNat) u)) 26 (ma ((ma (ma (ma I 23 (ma (I 23) ((I 22 4).toNat) t)) 24 (ma ((ma I 23 (ma (I 23) ((I 22 4).toNat) t)) 24) (((ma I 23 (ma (I 23) ((I 22 4).toNat) t)) 22 4).toNat) r)) 25 (ma ((ma (ma I 23 (ma (I 23) ((I 22 4).toNat) t)) 24 (ma ((ma I 23 (ma (I 23) ((I 22 4).toNat) t)) 24) (((ma I 23 (ma (I 23) ((I 22 4).toNat) t)) 22 4).toNat) r)) 25) (((ma (ma I 23 (ma (I 23) ((I 22 4).toNat) t)) 24 (ma ((ma I 23 (ma (I 23) ((I 22 4).toNat) t)) 24) (((ma I 23 (ma (I 23) ((I 22 4).toNat) t)) 22 4).toNat) r)) 22 4).toNat) u)) 26) (((ma (ma (ma I 23 (ma (I 23) ((I 22 4).toNat) t)) 24 (ma ((ma I 23 (ma (I 23) ((I 22 4).toNat) t)) 24) (((ma I 23 (ma (I 23) ((I 22 4).toNat) t)) 22 4).toNat) r)) 25 (ma ((ma (ma I 23 (ma (I 23) ((I 22 4).toNat) t)) 24 (ma ((ma I 23 (ma (I 23) ((I 22 4).toNat) t)) 24) (((ma I 23 (ma (I 23) ((I 22 4).toNat) t)) 22 4).toNat) r)) 25) (((ma (ma I 23 (ma (I 23) ((I 22 4).toNat) t)) 24 (ma ((ma I 23 (ma (I 23) ((I 22 4).toNat) t)) 24) (((ma I 23 (ma (I 23) ((I 22 4).toNat) t)) 22 4).toNat) r)) 22 4).toNat) u)) 22 4).toNat) e)) 22 (ma ((ma (ma (ma (ma I 23 (ma (I 23) ((I 22 4).toNat) t)) 24 (ma ((ma I 23 (ma (I 23) ((I 22 4).toNat) t)) 24) (((ma I 23 (ma (I 23) ((I 22 4).toNat) t)) 22 4).toNat) r)) 25 (ma ((ma (ma I 23 (ma (I 23) ((I 22 4).toNat) t)) 24 (ma ((ma I 23 (ma (I 23) ((I 22 4).toNat) t)) 24) (((ma I 23 (ma (I 23) ((I 22 4).toNat) t)) 22 4).toNat) r)) 25) (((ma (ma I 23 (ma (I 23) ((I 22 4).toNat) t)) 24 (ma ((ma I 23 (ma (I 23) ((I 22 4).toNat) t)) 24) (((ma I 23 (ma (I 23) ((I 22 4).toNat) t)) 22 4).toNat) r)) 22 4).toNat) u)) 26 (ma ((ma (ma (ma I 23 (ma (I 23) ((I 22 4).toNat) t)) 24 (ma ((ma I 23 (ma (I 23) ((I 22 4).toNat) t)) 24) (((ma I 23 (ma (I 23) ((I 22 4).toNat) t)) 22 4).toNat) r)) 25 (ma ((ma (ma I 23 (ma (I 23) ((I 22 4).toNat) t)) 24 (ma ((ma I 23 (ma (I 23) ((I 22 4).toNat) t)) 24) (((ma I 23 (ma (I 23) ((I 22 4).toNat) t)) 22 4).toNat) r)) 25) (((ma (ma I 23 (ma (I 23) ((I 22 4).toNat) t)) 24 (ma ((ma I 23 (ma (I 23) ((I 22 4).toNat) t)) 24) (((ma I 23 (ma (I 23) ((I 22 4).toNat) t)) 22 4).toNat) r)) 22 4).toNat) u)) 26) (((ma (ma (ma I 23 (ma (I 23) ((I 22 4).toNat) t)) 24 (ma ((ma I 23 (ma (I 23) ((I 22 4).toNat) t)) 24) (((ma I 23 (ma (I 23) ((I 22 4).toNat) t)) 22 4).toNat) r)) 25 (ma ((ma (ma I 23 (ma (I 23) ((I 22 4).toNat) t)) 24 (ma ((ma I 23 (ma (I 23) ((I 22 4).toNat) t)) 24) (((ma I 23 (ma (I 23) ((I 22 4).toNat) t)) 22 4).toNat) r)) 25) (((ma (ma I 23 (ma (I 23) ((I 22 4).toNat) t)) 24 (ma ((ma I 23 (ma (I 23) ((I 22 4).toNat) t)) 24) (((ma I 23 (ma (I 23) ((I 22 4).toNat) t)) 22 4).toNat) r)) 22 4).toNat) u)) 22 4).toNat) e)) 22) 4 (((ma (ma (ma (ma I 23 (ma (I 23) ((I 22 4).toNat) t)) 24 (ma ((ma I 23 (ma (I 23) ((I 22 4).toNat) t)) 24) (((ma I 23 (ma (I 23) ((I 22 4).toNat) t)) 22 4).toNat) r)) 25 (ma ((ma (ma I 23 (ma (I 23) ((I 22 4).toNat) t)) 24 (ma ((ma I 23 (ma (I 23) ((I 22 4).toNat) t)) 24) (((ma I 23 (ma (I 23) ((I 22 4).toNat) t)) 22 4).toNat) r)) 25) (((ma (ma I 23 (ma (I 23) ((I 22 4).toNat) t)) 24 (ma ((ma I 23 (ma (I 23) ((I 22 4).toNat) t)) 24) (((ma I 23 (ma (I 23) ((I 22 4).toNat) t)) 22 4).toNat) r)) 22 4).toNat) u)) 26 (ma ((ma (ma (ma I 23 (ma (I 23) ((I 22 4).toNat) t)) 24 (ma ((ma I 23 (ma (I 23) ((I 22 4).toNat) t)) 24) (((ma I 23 (ma (I 23) ((I 22 4).toNat) t)) 22 4).toNat) r)) 25 (ma ((ma (ma I 23 (ma (I 23) ((I 22 4).toNat) t)) 24 (ma ((ma I 23 (ma (I 23) ((I 22 4).toNat) t)) 24) (((ma I 23 (ma (I 23) ((I 22 4).toNat) t)) 22 4).toNat) r)) 25) (((ma (ma I 23 (ma (I 23) ((I 22 4).toNat) t)) 24 (ma ((ma I 23 (ma (I 23) ((I 22 4).toNat) t)) 24) (((ma I 23 (ma (I 23) ((I 22 4).toNat) t)) 22 4).toNat) r)) 22 4).toNat) u)) 26) (((ma (ma (ma I 23 (ma (I 23) ((I 22 4).toNat) t)) 24 (ma ((ma I 23 (ma (I 23) ((I 22 4).toNat) t)) 24) (((ma I 23 (ma (I 23) ((I 22 4).toNat) t)) 22 4).toNat) r)) 25 (ma ((ma (ma I 23 (ma (I 23) ((I 22 4).toNat) t)) 24 (ma ((ma I 23 (ma (I 23) ((I 22 4).toNat) t)) 24) (((ma I 23 (ma (I 23) ((I 22 4).toNat) t)) 22 4).toNat) r)) 25) (((ma (ma I 23 (ma (I 23) ((I 22 4).toNat) t)) 24 (ma ((ma I 23 (ma (I 23) ((I 22 4).toNat) t)) 24) (((ma I 23 (ma (I 23) ((I 22 4).toNat) t)) 22 4).toNat) r)) 22 4).toNat) u)) 22 4).toNat) e)) 22 4) + 1))) J)) (by decide +kernel) rfl (show (0 ≤ (I 22 4) ∧ (I 22 4) < 20) ∧ (0 ≤ ((ma I 23 (ma (I 23) ((I 22 4).toNat) t)) 22 4) ∧ ((ma I 23 (ma (I 23) ((I 22 4).toNat) t)) 22 4) < 20) ∧ (0 ≤ ((ma (ma I 23 (ma (I 23) ((I 22 4).toNat) t)) 24 (ma ((ma I 23 (ma (I 23) ((I 22 4).toNat) t)) 24) (((ma I 23 (ma (I 23) ((I 22 4).toNat) t)) 22 4).toNat) r)) 22 4) ∧ ((ma (ma I 23 (ma (I 23) ((I 22 4).toNat) t)) 24 (ma ((ma I 23 (ma (I 23) ((I 22 4).toNat) t)) 24) (((ma I 23 (ma (I 23) ((I 22 4).toNat) t)) 22 4).toNat) r)) 22 4) < 20) ∧ (0 ≤ ((ma (ma (ma I 23 (ma (I 23) ((I 22 4).toNat) t)) 24 (ma ((ma I 23 (ma (I 23) ((I 22 4).toNat) t)) 24) (((ma I 23 (ma (I 23) ((I 22 4).toNat) t)) 22 4).toNat) r)) 25 (ma ((ma (ma I 23 (ma (I 23) ((I 22 4).toNat) t)) 24 (ma ((ma I 23 (ma (I 23) ((I 22 4).toNat) t)) 24) (((ma I 23 (ma (I 23) ((I 22 4).toNat) t)) 22 4).toNat) r)) 25) (((ma (ma I 23 (ma (I 23) ((I 22 4).toNat) t)) 24 (ma ((ma I 23 (ma (I 23) ((I 22 4).toNat) t)) 24) (((ma I 23 (ma (I 23) ((I 22 4).toNat) t)) 22 4).toNat) r)) 22 4).toNat) u)) 22 4) ∧ ((ma (ma (ma I 23 (ma (I 23) ((I 22 4).toNat) t)) 24 (ma ((ma I 23 (ma (I 23) ((I 22 4).toNat) t)) 24) (((ma I 23 (ma (I 23) ((I 22 4).toNat) t)) 22 4).toNat) r)) 25 (ma ((ma (ma I 23 (ma (I 23) ((I 22 4).toNat) t)) 24 (ma ((ma I 23 (ma (I 23) ((I 22 4).toNat) t)) 24) (((ma I 23 (ma (I 23) ((I 22 4).toNat) t)) 22 4).toNat) r)) 25) (((ma (ma I 23 (ma (I 23) ((I 22 4).toNat) t)) 24 (ma ((ma I 23 (ma (I 23) ((I 22 4).toNat) t)) 24) (((ma I 23 (ma (I 23) ((I 22 4).toNat) t)) 22 4).toNat) r)) 22 4).toNat) u)) 22 4) < 20) ∧ (inR (((ma (ma (ma (ma I 23 (ma (I 23) ((I 22 4).toNat) t)) 24 (ma ((ma I 23 (ma (I 23) ((I 22 4).toNat) t)) 24) (((ma I 23 (ma (I 23) ((I 22 4).toNat) t)) 22 4).toNat) r)) 25 (ma ((ma (ma I 23 (ma (I 23) ((I 22 4).toNat) t)) 24 (ma ((ma I 23 (ma (I 23) ((I 22 4).toNat) t)) 24) (((ma I 23 (ma (I 23) ((I 22 4).toNat) t)) 22 4).toNat) r)) 25) (((ma (ma I 23 (ma (I 23) ((I 22 4).toNat) t)) 24 (ma ((ma I 23 (ma (I 23) ((I 22 4).toNat) t)) 24) (((ma I 23 (ma (I 23) ((I 22 4).toNat) t)) 22 4).toNat) r)) 22 4).toNat) u)) 26 (ma ((ma (ma (ma I 23 (ma (I 23) ((I 22 4).toNat) t)) 24 (ma ((ma I 23 (ma (I 23) ((I 22 4).toNat) t)) 24) (((ma I 23 (ma (I 23) ((I 22 4).toNat) t)) 22 4).toNat) r)) 25 (ma ((ma (ma I 23 (ma (I 23) ((I 22 4).toNat) t)) 24 (ma ((ma I 23 (ma (I 23) ((I 22 4).toNat) t)) 24) (((ma I 23 (ma (I 23) ((I 22 4).toNat) t)) 22 4).toNat) r)) 25) (((ma (ma I 23 (ma (I 23) ((I 22 4).toNat) t)) 24 (ma ((ma I 23 (ma (I 23) ((I 22 4).toNat) t)) 24) (((ma I 23 (ma (I 23) ((I 22 4).toNat) t)) 22 4).toNat) r)) 22 4).toNat) u)) 26) (((ma (ma (ma I 23 (ma (I 23) ((I 22 4).toNat) t)) 24 (ma ((ma I 23 (ma (I 23) ((I 22 4).toNat) t)) 24) (((ma I 23 (ma (I 23) ((I 22 4).toNat) t)) 22 4).toNat) r)) 25 (ma ((ma (ma I 23 (ma (I 23) ((I 22 4).toNat) t)) 24 (ma ((ma I 23 (ma (I 23) ((I 22 4).toNat) t)) 24) (((ma I 23 (ma (I 23) ((I 22 4).toNat) t)) 22 4).toNat) r)) 25) (((ma (ma I 23 (ma (I 23) ((I 22 4).toNat) t)) 24 (ma ((ma I 23 (ma (I 23) ((I 22 4).toNat) t)) 24) (((ma I 23 (ma (I 23) ((I 22 4).toNat) t)) 22 4).toNat) r)) 22 4).toNat) u)) 22 4).toNat) e)) 22 4) + 1)) from ⟨(by first | omega | (simp [ma]; omega)), (by first | omega | (simp [ma]; omega)), (by first | omega | (simp [ma]; omega)), (by first | omega | (simp [ma]; omega)), (by unfold inR; first | omega | (simp [ma]; omega))⟩) ?_
    refine V.nI (fun I3 eI3 => ?_)
    refine V.rv (by decide +kernel) ?_
    refine ⟨rfl, congrArg (fun w => MM N w J) ?_⟩
    subst eI3
    simp [ma, actU, cndU, clrU]
theorem c_addCondition {N : Nat} {I : MI} {J : MJ} {t r u e : Int} (h : 0 ≤ I 22 9 ∧ I 22 9 < 10) (he : 0 ≤ e ∧ e ≤ 1) : CT 11 [aR 22, aI t, aI r, aI u, aI e] (MM N I J) (QV N J (cndU I t r u e)) := by
  refine CT.ofV (n := 5) (ls := [some (aR 22), some (aI t), some (aI r), some (aI u), some (aI e)]) rfl rfl rfl ?_
  refine V.blk [(0, .aload 0, 1), (1, .getfield 1009, 3), (4, .bipush 10, 2), (6, .if_icmp .ge 60, 3)] (ps := []) (z' := (brc .ge (I 22 9) 10 60 9, [some (aR 22), some (aI t), some (aI r), some (aI u), some (aI e)], [], MM N I J)) (by decide +kernel) rfl trivial ?_
  refine V.ge (fun h1 => ?_) (fun h2 => ?_)
  · skip
    refine V.rv (by decide +kernel) ?_
    exfalso; omega
  · skip
    refine V.blk [(9, .aload 0, 1), (10, .getfield 1005, 3), (13, .aload 0, 1), (14, .getfield 1009, 3), (17, .iload 1, 1), (18, .iastore, 1), (19, .aload 0, 1), (20, .getfield 1006, 3), (23, .aload 0, 1), (24, .getfield 1009, 3), (27, .iload 2, 1), (28, .iastore, 1), (29, .aload 0, 1), (30, .getfield 1007, 3), (33, .aload 0, 1), (34, .getfield 1009, 3), (37, .iload 3, 1), (38, .iastore, 1), (39, .aload 0, 1), (40, .getfield 1008, 3), (43, .aload 0, 1), (44, .getfield 1009, 3), (47, .iload 4, 2), (49, .bastore, 1), (50, .aload 0, 1), (51, .dup, 1), (52, .getfield 1009, 3), (55, .bipush 1, 1), (56, .iadd, 1), (57, .putfield 1009, 3)] (ps := [0 ≤ (I 22 9) ∧ (I 22 9) < 10, 0 ≤ ((ma I 27 (ma (I 27) ((I 22 9).toNat) t)) 22 9) ∧ ((ma I 27 (ma (I 27) ((I 22 9).toNat) t)) 22 9) < 10, 0 ≤ ((ma (ma I 27 (ma (I 27) ((I 22 9).toNat) t)) 28 (ma ((ma I 27 (ma (I 27) ((I 22 9).toNat) t)) 28) (((ma I 27 (ma (I 27) ((I 22 9).toNat) t)) 22 9).toNat) r)) 22 9) ∧ ((ma (ma I 27 (ma (I 27) ((I 22 9).toNat) t)) 28 (ma ((ma I 27 (ma (I 27) ((I 22 9).toNat) t)) 28) (((ma I 27 (ma (I 27) ((I 22 9).toNat) t)) 22 9).toNat) r)) 22 9) < 10, 0 ≤ ((ma (ma (ma I 27 (ma (I 27) ((I 22 9).toNat) t)) 28 (ma ((ma I 27 (ma (I 27) ((I 22 9).toNat) t)) 28) (((ma I 27 (ma (I 27) ((I 22 9).toNat) t)) 22 9).toNat) r)) 29 (ma ((ma (ma I 27 (ma (I 27) ((I 22 9).toNat) t)) 28 (ma ((ma I 27 (ma (I 27) ((I 22 9).toNat) t)) 28) (((ma I 27 (ma (I 27) ((I 22 9).toNat) t)) 22 9).toNat) r)) 29) (((ma (ma I 27 (ma (I 27) ((I 22 9).toNat) t)) 28 (ma ((ma I 27 (ma (I 27) ((I 22 9).toNat) t)) 28) (((ma I 27 (ma (I 27) ((I 22 9).toNat) t)) 22 9).toNat) r)) 22 9).toNat) u)) 22 9) ∧ ((ma (ma (ma I 27 (ma (I 27) ((I 22 9).toNat) t)) 28 (ma ((ma I 27 (ma (I 27) ((I 22 9).toNat) t)) 28) (((ma I 27 (ma (I 27) ((I 22 9).toNat) t)) 22 9).toNat) r)) 29 (ma ((ma (ma I 27 (ma (I 27) ((I 22 9).toNat) t)) 28 (ma ((ma I 27 (ma (I 27) ((I 22 9).toNat) t)) 28) (((ma I 27 (ma (I 27) ((I 22 9).toNat) t)) 22 9).toNat) r)) 29) (((ma (ma I 27 (ma (I 27) ((I 22 9).toNat) t)) 28 (ma ((ma I 27 (ma (I 27) ((I 22 9).toNat) t)) 28) (((ma I 27 (ma (I 27) ((I 22 9).toNat) t)) 22 9).toNat) r)) 22 9).toNat) u)) 22 9) < 10, 0 ≤ e ∧ e ≤ 1, inR (((ma (ma (ma (ma I 27 (ma (I 27) ((I 22 9).toNat) t)) 28 (ma ((ma I 27 (ma (I 27) ((I 22 9).toNat) t)) 28) (((ma I 27 (ma (I 27) ((I 22 9).toNat) t)) 22 9).toNat) r)) 29 (ma ((ma (ma I 27 (ma (I 27) ((I 22 9).toNat) t)) 28 (ma ((ma I 27 (ma (I 27) ((I 22 9).toNat) t)) 28) (((ma I 27 (ma (I 27) ((I 22 9).toNat) t)) 22 9).toNat) r)) 29) (((ma (ma I 27 (ma (I 27) ((I 22 9).toNat) t)) 28 (ma ((ma I 27 (ma (I 27) ((I 22 9).toNat) t)) 28) (((ma I 27 (ma (I 27) ((I 22 9).toNat) t)) 22 9).toNat) r)) 22 9).toNat) u)) 30 (ma ((ma (ma (ma I 27 (ma (I 27) ((I 22 9).toNat) t)) 28 (ma ((ma I 27 (ma (I 27) ((I 22 9).toNat) t)) 28) (((ma I 27 (ma (I 27) ((I 22 9).toNat) t)) 22 9).toNat) r)) 29 (ma ((ma (ma I 27 (ma (I 27) ((I 22 9).toNat) t)) 28 (ma ((ma I 27 (ma (I 27) ((I 22 9).toNat) t)) 28) (((ma I 27 (ma (I 27) ((I 22 9).toNat) t)) 22 9).toNat) r)) 29) (((ma (ma I 27 (ma (I 27) ((I 22 9).toNat) t)) 28 (ma ((ma I 27 (ma (I 27) ((I 22 9).toNat) t)) 28) (((ma I 27 (ma (I 27) ((I 22 9).toNat) t)) 22 9).toNat) r)) 22 9).toNat) u)) 30) (((ma (ma (ma I 27 (ma (I 27) ((I 22 9).toNat) t)) 28 (ma ((ma I 27 (ma (I 27) ((I 22 9).toNat) t)) 28) (((ma I 27 (ma (I 27) ((I 22 9).toNat) t)) 22 9).toNat) r)) 29 (ma ((ma (ma I 27 (ma (I 27) ((I 22 9).toNat) t)) 28 (ma ((ma I 27 (ma (I 27) ((I 22 9).toNat) t)) 28) (((ma I 27 (ma (I 27) ((I 22 9).toNat) t)) 22 9).toNat) r)) 29) (((ma (ma I 27 (ma (I 27) ((I 22 9).toNat) t)) 28 (ma ((ma I 27 (ma (I 27) ((I 22 9).toNat) t)) 28) (((ma I 27 (ma (I 27) ((I 22 9).toNat) t)) 22 9).toNat) r)) 22 9).toNat) u)) 22 9).toNat) e)) 22 9) + 1)]) (z' := (60, [some (aR 22), some (aI t), some (aI r), some (aI u), some (aI e)], [], MM N (ma (ma (ma (ma (ma I 27 (ma (I 27) ((I 22 9).toNat) t)) 28 (ma ((ma I 27 (ma (I 27) ((I 22 9).toNat) t)) 28) (((ma I 27 (ma (I 27) ((I 22 9).toNat) t)) 22 9).toNat) r)) 29 (ma ((ma (ma I 27 (ma (I 27) ((I 22 9).toNat) t)) 28 (ma ((ma I 27 (ma (I 27) ((I 22 9).toNat) t)) 28) (((ma I 27 (ma (I 27) ((I 22 9).toNat) t)) 22 9).toNat) r)) 29) (((ma (ma I 27 (ma (I 27) ((I 22 9).toNat) t)) 28 (ma ((ma I 27 (ma (I 27) ((I 22 9).toNat) t)) 28) (((ma I 27 (ma (I 27) ((I 22 9).toNat) t)) 22 9).toNat) r)) 22 9).toNat) u)) 30 (ma ((ma (ma (ma I 27 (ma (I 27) ((I 22 9).toNat) t)) 28 (ma ((ma I 27 (ma (I 27) ((I 22 9).toNat) t)) 28) (((ma I 27 (ma (I 27) ((I 22 9).toNat) t)) 22 9).toNat) r)) 29 (ma ((ma (ma I 27 (ma (I 27) ((I 22 9).toNat) t)) 28 (ma ((ma I 27 (ma (I 27) ((I 22 9).toNat) t)) 28) (((ma I 27 (ma (I 27) ((I 22 9).toNat) t)) 22 9).toNat) r)) 29) (((ma (ma I 27 (ma (I 27) ((I 22 9).toNat) t)) 28 (ma ((ma I 27 (ma (I 27) ((I 22 9).toNat) t)) 28) (((ma I 27 (ma (I 27) ((I 22 9).toNat) t)) 22 9).toNat) r)) 22 9).toNat) u)) 30) (((ma (ma (ma I 27 (ma (I 27) ((I 22 9).toNat) t)) 28 (ma ((ma I 27 (ma (I 27) ((I 22 9).toNat) t)) 28) (((ma I 27 (ma (I 27) ((I 22 9).toNat) t)) 22 9).toNat) r)) 29 (ma ((ma (ma I 27 (ma (I 27) ((I 22 9).toNat) t)) 28 (ma ((ma I 27 (ma (I 27) ((I 22 9).toNat) t)) 28) (((ma I 27 (ma (I 27) ((I 22 9).toNat) t)) 22 9).toNat) r)) 29) (((ma (ma I 27 (ma (I 27) ((I 22 9).toNat) t)) 28 (ma ((ma I 27 (ma (I 27) ((I 22 9).toNat) t)) 28) (((ma I 27 (ma (I 27) ((I 22 9).toNat) t)) 22 9).toNat) r)) 22 9).toNat) u)) 22 9).toNat) e)) 22 (ma ((ma (ma (ma (ma I 27 (ma (I 27) ((I 22 9).toNat) t)) 28 (ma ((ma I 27 (ma (I 27) ((I 22 9).toNat) t)) 28) (((ma I 27 (ma (I 27) ((I 22 9).toNat) t)) 22 9).toNat) r)) 29 (ma ((ma (ma I 27 (ma (I 27) ((I 22 9).toNat) t)) 28 (ma ((ma I 27 (ma (I 27) ((I 22 9).toNat) t)) 28) (((ma I 27 (ma (I 27) ((I 22 9).toNat) t)) 22 9).toNat) r)) 29) (((ma (ma I 27 (ma (I 27) ((I 22 9).toNat) t)) 28 (ma ((ma I 27 (ma (I 27) ((I 22 9).toNat) t)) 28) (((ma I 27 (ma (I 27) ((I 22 9).toNat) t)) 22 9).toNat) r)) 22 9).toNat) u)) 30 (ma ((ma (ma (ma I 27 (ma (I 27) ((I 22 9).toNat) t)) 28 (ma ((ma I 27 (ma (I 27) ((I 22 9).toNat) t)) 28) (((ma I 27 (ma (I 27) ((I 22 9).toNat) t)) 22 9).toNat) r)) 29 (ma ((ma (ma I 27 (ma (I 27) ((I 22 9).toNat) t)) 28 (ma ((ma I 27 (ma (I 27) ((I 22 9).toNat) t)) 28) (((ma I 27 (ma (I 27) ((I 22 9).toNat) t)) 22 9).toNat) r)) 29) (((ma (ma I 27 (ma (I 27) ((I 22 9).toNat) t)) 28 (ma ((ma I 27 (ma (I 27) ((I 22 9).toNat) t)) 28) (((ma I 27 (ma (I 27) ((I 22 9).toNat) t)) 22 9).toNat) r)) 22 9).toNat) u)) 30) (((ma (ma (ma I 27 (ma (I 27) ((I 22 9).toNat) t)) 28 (ma ((ma I 27 (ma (I 27) ((I 22 9).toNat) t)) 28) (((ma I 27 (ma (I 27) ((I 22 9).toNat) t)) 22 9).toNat) r)) 29 (ma ((ma (ma I 27 (ma (I 27) ((I 22 9).toNat) t)) 28 (ma ((ma I 27 (ma (I 27) ((I 22 9).toNat) t)) 28) (((ma I 27 (ma (I 27) ((I 22 9).toNat) t)) 22 9).toNat) r)) 29) (((ma (ma I 27 (ma (I 27) ((I 22 9).toNat) t)) 28 (ma ((ma I 27 (ma (I 27) ((I 22 9).toNat) t)) 28) (((ma I 27 (ma (I 27) ((I 22 9).toNat) t)) 22 9).toNat) r)) 22 9).toNat) u)) 22 9).toNat) e)) 22) 9 (((ma (ma (ma (ma I 27 (ma (I 27) ((I 22 9).toNat) t)) 28 (ma ((ma I 27 (ma (I 27) ((I 22 9).toNat) t)) 28) (((ma I 27 (ma (I 27) ((I 22 9).toNat) t)) 22 9).toNat) r)) 29 (ma ((ma (ma I 27 (ma (I 27) ((I 22 9).toNat) t)) 28 (ma ((ma I 27 (ma (I 27) ((I 22 9).toNat) t)) 28) (((ma I 27 (ma (I 27) ((I 22 9).toNat) t)) 22 9).toNat) r)) 29) (((ma (ma I 27 (ma (I 27) ((I 22 9).toNat) t)) 28 (ma ((ma I 27 (ma (I 27) ((I 22 9).toNat) t)) 28) (((ma I 27 (ma (I 27) ((I 22 9).toNat) t)) 22 9).toNat) r)) 22 9).toNat) u)) 30 (ma ((ma (ma (ma I 27 (ma (I 27) ((I 22 9).toNat) t)) 28 (ma ((ma I 27 (ma (I 27) ((I 22 9).toNat) t)) 28) (((ma I 27 (ma (I 27) ((I 22 9).toNat) t)) 22 9).toNat) r)) 29 (ma ((ma (ma I 27 (ma (I 27) ((I 22 9).toNat) t)) 28 (ma ((ma I 27 (ma (I 27) ((I 22 9).toNat) t)) 28) (((ma I 27 (ma (I 27) ((I 22 9).toNat) t)) 22 9).toNat) r)) 29) (((ma (ma I 27 (ma (I 27) ((I 22 9).toNat) t)) 28 (ma ((ma I 27 (ma (I 27) ((I 22 9).toNat) t)) 28) (((ma I 27 (ma (I 27) ((I 22 9).toNat) t)) 22 9).toNat) r)) 22 9).toNat) u)) 30) (((ma (ma (ma I 27 (ma (I 27) ((I 22 9).toNat) t)) 28 (ma ((ma I 27 (ma (I 27) ((I 22 9).toNat) t)) 28) (((ma I 27 (ma (I 27) ((I 22 9).toNat) t)) 22 9).toNat) r)) 29 (ma ((ma (ma I 27 (ma (I 27) ((I 22 9).toNat) t)) 28 (ma ((ma I 27 (ma (I 27) ((I 22 9).toNat) t)) 28) (((ma I 27 (ma (I 27) ((I 22 9).toNat) t)) 22 9).toNat) r)) 29) (((ma (ma I 27 (ma (I 27) ((I 22 9).toNat) t)) 28 (ma ((ma I 27 (ma (I 27) ((I 22 9).toNat) t)) 28) (((ma I 27 (ma (I 27) ((I 22 9).toNat) t)) 22 9).toNat) r)) 22 9).toNat) u)) 22 9).toNat) e)) 22 9) + 1))) J)) (by decide +kernel) rfl (show (0 ≤ (I 22 9) ∧ (I 22 9) < 10) ∧ (0 ≤ ((ma I 27 (ma (I 27) ((I 22 9).toNat) t)) 22 9) ∧ ((ma I 27 (ma (I 27) ((I 22 9).toNat) t)) 22 9) < 10) ∧ (0 ≤ ((ma (ma I 27 (ma (I 27) ((I 22 9).toNat) t)) 28 (ma ((ma I 27 (ma (I 27) ((I 22 9).toNat) t)) 28) (((ma I 27 (ma (I 27) ((I 22 9).toNat) t)) 22 9).toNat) r)) 22 9) ∧ ((ma (ma I 27 (ma (I 27) ((I 22 9).toNat) t)) 28 (ma ((ma I 27 (ma (I 27) ((I 22 9).toNat) t)) 28) (((ma I 27 (ma (I 27) ((I 22 9).toNat) t)) 22 9).toNat) r)) 22 9) < 10) ∧ (0 ≤ ((ma (ma (ma I 27 (ma (I 27) ((I 22 9).toNat) t)) 28 (ma ((ma I 27 (ma (I 27) ((I 22 9).toNat) t)) 28) (((ma I 27 (ma (I 27) ((I 22 9).toNat) t)) 22 9).toNat) r)) 29 (ma ((ma (ma I 27 (ma (I 27) ((I 22 9).toNat) t)) 28 (ma ((ma I 27 (ma (I 27) ((I 22 9).toNat) t)) 28) (((ma I 27 (ma (I 27) ((I 22 9).toNat) t)) 22 9).toNat) r)) 29) (((ma (ma I 27 (ma (I 27) ((I 22 9).toNat) t)) 28 (ma ((ma I 27 (ma (I 27) ((I 22 9).toNat) t)) 28) (((ma I 27 (ma (I 27) ((I 22 9).toNat) t)) 22 9).toNat) r)) 22 9).toNat) u)) 22 9) ∧ ((ma (ma (ma I 27 (ma (I 27) ((I 22 9).toNat) t)) 28 (ma ((ma I 27 (ma (I 27) ((I 22 9).toNat) t)) 28) (((ma I 27 (ma (I 27) ((I 22 9).toNat) t)) 22 9).toNat) r)) 29 (ma ((ma (ma I 27 (ma (I 27) ((I 22 9).toNat) t)) 28 (ma ((ma I 27 (ma (I 27) ((I 22 9).toNat) t)) 28) (((ma I 27 (ma (I 27) ((I 22 9).toNat) t)) 22 9).toNat) r)) 29) (((ma (ma I 27 (ma (I 27) ((I 22 9).toNat) t)) 28 (ma ((ma I 27 (ma (I 27) ((I 22 9).toNat) t)) 28) (((ma I 27 (ma (I 27) ((I 22 9).toNat) t)) 22 9).toNat) r)) 22 9).toNat) u)) 22 9) < 10) ∧ (0 ≤ e ∧ e ≤ 1) ∧ (inR (((ma (ma (ma (ma I 27 (ma (I 27) ((I 22 9).toNat) t)) 28 (ma ((ma I 27 (ma (I 27) ((I 22 9).toNat) t)) 28) (((ma I 27 (ma (I 27) ((I 22 9).toNat) t)) 22 9).toNat) r)) 29 (ma ((ma (ma I 27 (ma (I 27) ((I 22 9).toNat) t)) 28 (ma ((ma I 27 (ma (I 27) ((I 22 9).toNat) t)) 28) (((ma I 27 (ma (I 27) ((I 22 9).toNat) t)) 22 9).toNat) r)) 29) (((ma (ma I 27 (ma (I 27) ((I 22 9).toNat) t)) 28 (ma ((ma I 27 (ma (I 27) ((I 22 9).toNat) t)) 28) (((ma I 27 (ma (I 27) ((I 22 9).toNat) t)) 22 9).toNat) r)) 22 9).toNat) u)) 30 (ma ((ma (ma (ma I 27 (ma (I 27) ((I 22 9).toNat) t)) 28 (ma ((ma I 27 (ma (I 27) ((I 22 9).toNat) t)) 28) (((ma I 27 (ma (I 27) ((I 22 9).toNat) t)) 22 9).toNat) r)) 29 (ma ((ma (ma I 27 (ma (I 27) ((I 22 9).toNat) t)) 28 (ma ((ma I 27 (ma (I 27) ((I 22 9).toNat) t)) 28) (((ma I 27 (ma (I 27) ((I 22 9).toNat) t)) 22 9).toNat) r)) 29) (((ma (ma I 27 (ma (I 27) ((I 22 9).toNat) t)) 28 (ma ((ma I 27 (ma (I 27) ((I 22 9).toNat) t)) 28) (((ma I 27 (ma (I 27) ((I 22 9).toNat) t)) 22 9).toNat) r)) 22 9).toNat) u)) 30) (((ma (ma (ma I 27 (ma (I 27) ((I 22 9).toNat) t)) 28 (ma ((ma I 27 (ma (I 27) ((I 22 9).toNat) t)) 28) (((ma I 27 (ma (I 27) ((I 22 9).toNat) t)) 22 9).toNat) r)) 29 (ma ((ma (ma I 27 (ma (I 27) ((I 22 9).toNat) t)) 28 (ma ((ma I 27 (ma (I 27) ((I 22 9).toNat) t)) 28) (((ma I 27 (ma (I 27) ((I 22 9).toNat) t)) 22 9).toNat) r)) 29) (((ma (ma I 27 (ma (I 27) ((I 22 9).toNat) t)) 28 (ma ((ma I 27 (ma (I 27) ((I 22 9).toNat) t)) 28) (((ma I 27 (ma (I 27) ((I 22 9).toNat) t)) 22 9).toNat) r)) 22 9).toNat) u)) 22 9).toNat) e)) 22 9) + 1)) from ⟨(by first | omega | (simp [ma]; omega)), (by first | omega | (simp [ma]; omega)), (by first | omega | (simp [ma]; omega)), (by first | omega | (simp [ma]; omega)), (by first | omega | (simp [ma]; omega)), (by unfold inR; first | omega | (simp [ma]; omega))⟩) ?_
    refine V.nI (fun I3 eI3 => ?_)
    refine V.rv (by decide +kernel) ?_
    refine ⟨rfl, congrArg (fun w => MM N w J) ?_⟩
    subst eI3
    simp [ma, actU, cndU, clrU]
theorem c_clear {N : Nat} {I : MI} {J : MJ} : CT 9 [aR 22] (MM N I J) (QV N J (clrU I)) := by
  refine CT.ofV (n := 1) (ls := [some (aR 22)]) rfl rfl rfl ?_
  refine V.blk [(0, .aload 0, 1), (1, .bipush 0, 1), (2, .putfield 1004, 3), (5, .aload 0, 1), (6, .bipush 0, 1), (7, .putfield 1009, 3)] (ps := []) (z' := (10, [some (aR 22)], [], MM N (ma (ma I 22 (ma (I 22) 4 0)) 22 (ma ((ma I 22 (ma (I 22) 4 0)) 22) 9 0)) J)) (by decide +kernel) rfl trivial ?_
  refine V.nI (fun I1 eI1 => ?_)
  refine V.rv (by decide +kernel) ?_
  refine ⟨rfl, congrArg (fun w => MM N w J) ?_⟩
  subst eI1
  simp [ma_self, ma_ma, clrU]
def writeA (I : MI) (t r u e : Int) : Int := if (0 ≤ t ∧ t < I 1 1 ∧ 0 ≤ r ∧ r < 8) ∧ isUsr (I 1 1) u then (if 0 ≤ e ∧ e ≤ 1000000 then (if I 22 4 < 20 then I 22 4 + 1 else -9) else -8) else -3
def writeU (I : MI) (t r u e : Int) : MI := if (0 ≤ t ∧ t < I 1 1 ∧ 0 ≤ r ∧ r < 8) ∧ isUsr (I 1 1) u then (if 0 ≤ e ∧ e ≤ 1000000 then (if I 22 4 < 20 then actU I t r u e else rfU I (-9)) else rfU I (-8)) else rfU I (-3)
theorem c_X9_write {N : Nat} {I : MI} {J : MJ} {t r u e : Int} (hr : Rf I) (hd : 0 ≤ I 22 4) (hu : inR u) : CT 73 [aR 0, aI t, aI r, aI u, aI e] (MM N I J) (QU N J (aI (writeA I t r u e)) (writeU I t r u e)) := by
  refine CT.ofV (n := 5) (ls := [some (aR 0), some (aI t), some (aI r), some (aI u), some (aI e)]) rfl rfl rfl ?_
  refine V.blk [(0, .aload 0, 1), (1, .iload 1, 1), (2, .iload 2, 1)] (ps := []) (z' := (3, [some (aR 0), some (aI t), some (aI r), some (aI u), some (aI e)], [aI r, aI t, aR 0], MM N I J)) (by decide +kernel) rfl trivial ?_
  refine V.cv (c := 100) (na := 3) (o := 9) (a := 0) [aI r, aI t] [] (by decide +kernel) rfl rfl rfl rfl rfl (V.pr (c_X9_isSpot) ?_)
  show V 73 (6, [some (aR 0), some (aI t), some (aI r), some (aI u), some (aI e)], [aI (b2 (decide (0 ≤ t ∧ t < I 1 1 ∧ 0 ≤ r ∧ r < 8)))], MM N I J) _
  refine V.blk [(6, .ifCond .eq 20, 3)] (ps := []) (z' := (brc .eq (b2 (decide (0 ≤ t ∧ t < I 1 1 ∧ 0 ≤ r ∧ r < 8))) 0 20 9, [some (aR 0), some (aI t), some (aI r), some (aI u), some (aI e)], [], MM N I J)) (by decide +kernel) rfl trivial ?_
  refine V.eq (fun h1 => ?_) (fun h2 => ?_)
  · skip
    try simp only [b2_cast, b2_ncast, Classical.not_not] at h1
    refine V.blk [(20, .aload 0, 1), (21, .bipush (-3), 2)] (ps := []) (z' := (23, [some (aR 0), some (aI t), some (aI r), some (aI u), some (aI e)], [aI (-3), aR 0], MM N I J)) (by decide +kernel) rfl trivial ?_
    refine V.cv (c := 98) (na := 2) (o := 9) (a := 0) [aI (-3)] [] (by decide +kernel) rfl rfl rfl rfl rfl ((c_refuse (by assumption) (by omega)).mono (fun rv M1 q => ?_))
    obtain ⟨rfl, rfl⟩ := q
    show V 73 (26, [some (aR 0), some (aI t), some (aI r), some (aI u), some (aI e)], [aI (-3)], MM N ((rfU I (-3))) J) _
    refine V.nI (fun I3 eI3 => ?_)
    refine V.ri (by decide +kernel) ?_
    refine ⟨congrArg (fun w => some (aI w)) ?_, congrArg (fun w => MM N w J) ?_⟩
    all_goals (first | unfold writeA | unfold writeU)
    all_goals (repeat' split)
    all_goals first | rfl | omega | (exfalso; omega) | (simp [actU, cndU, clrU, ma])
  · skip
    try simp only [b2_cast, b2_ncast, Classical.not_not] at h2
    refine V.blk [(9, .aload 0, 1), (10, .getfield 9000, 3), (13, .iload 3, 1)] (ps := []) (z' := (14, [some (aR 0), some (aI t), some (aI r), some (aI u), some (aI e)], [aI u, aR 1], MM N I J)) (by decide +kernel) rfl trivial ?_
    refine V.cv (c := 63) (na := 2) (o := 8) (a := 1) [aI u] [] (by decide +kernel) rfl rfl rfl rfl rfl (V.pr (c_X8_hasUser (by assumption)) ?_)
    show V 73 (17, [some (aR 0), some (aI t), some (aI r), some (aI u), some (aI e)], [aI (b2 (decide (isUsr (I 1 1) u)))], MM N I J) _
    refine V.blk [(17, .ifCond .ne 27, 3)] (ps := []) (z' := (brc .ne (b2 (decide (isUsr (I 1 1) u))) 0 27 20, [some (aR 0), some (aI t), some (aI r), some (aI u), some (aI e)], [], MM N I J)) (by decide +kernel) rfl trivial ?_
    refine V.ne (fun h4 => ?_) (fun h5 => ?_)
    · skip
      try simp only [b2_cast, b2_ncast, Classical.not_not] at h4
      refine V.blk [(27, .iload 4, 2), (29, .ifCond .lt 39, 3)] (ps := []) (z' := (brc .lt e 0 39 32, [some (aR 0), some (aI t), some (aI r), some (aI u), some (aI e)], [], MM N I J)) (by decide +kernel) rfl trivial ?_
      refine V.lt (fun h6 => ?_) (fun h7 => ?_)
      · skip
        try simp only [b2_cast, b2_ncast, Classical.not_not] at h6
        refine V.blk [(39, .aload 0, 1), (40, .bipush (-8), 2)] (ps := []) (z' := (42, [some (aR 0), some (aI t), some (aI r), some (aI u), some (aI e)], [aI (-8), aR 0], MM N I J)) (by decide +kernel) rfl trivial ?_
        refine V.cv (c := 98) (na := 2) (o := 9) (a := 0) [aI (-8)] [] (by decide +kernel) rfl rfl rfl rfl rfl ((c_refuse (by assumption) (by omega)).mono (fun rv M1 q => ?_))
        obtain ⟨rfl, rfl⟩ := q
        show V 73 (45, [some (aR 0), some (aI t), some (aI r), some (aI u), some (aI e)], [aI (-8)], MM N ((rfU I (-8))) J) _
        refine V.nI (fun I8 eI8 => ?_)
        refine V.ri (by decide +kernel) ?_
        refine ⟨congrArg (fun w => some (aI w)) ?_, congrArg (fun w => MM N w J) ?_⟩
        all_goals (first | unfold writeA | unfold writeU)
        all_goals (repeat' split)
        all_goals first | rfl | omega | (exfalso; omega) | (simp [actU, cndU, clrU, ma])
      · skip
        try simp only [b2_cast, b2_ncast, Classical.not_not] at h7
        refine V.blk [(32, .iload 4, 2), (34, .bipush 1000000, 2), (36, .if_icmp .le 46, 3)] (ps := []) (z' := (brc .le e 1000000 46 39, [some (aR 0), some (aI t), some (aI r), some (aI u), some (aI e)], [], MM N I J)) (by decide +kernel) rfl trivial ?_
        refine V.le (fun h9 => ?_) (fun h10 => ?_)
        · skip
          try simp only [b2_cast, b2_ncast, Classical.not_not] at h9
          refine V.blk [(46, .aload 0, 1), (47, .getfield 9003, 3), (50, .getfield 1004, 3), (53, .bipush 20, 2), (55, .if_icmp .lt 65, 3)] (ps := []) (z' := (brc .lt (I 22 4) 20 65 58, [some (aR 0), some (aI t), some (aI r), some (aI u), some (aI e)], [], MM N I J)) (by decide +kernel) rfl trivial ?_
          refine V.lt (fun h11 => ?_) (fun h12 => ?_)
          · skip
            try simp only [b2_cast, b2_ncast, Classical.not_not] at h11
            refine V.blk [(65, .aload 0, 1), (66, .getfield 9003, 3), (69, .iload 1, 1), (70, .iload 2, 1), (71, .iload 3, 1), (72, .iload 4, 2)] (ps := []) (z' := (74, [some (aR 0), some (aI t), some (aI r), some (aI u), some (aI e)], [aI e, aI u, aI r, aI t, aR 22], MM N I J)) (by decide +kernel) rfl trivial ?_
            refine V.cv (c := 10) (na := 5) (o := 1) (a := 22) [aI e, aI u, aI r, aI t] [] (by decide +kernel) rfl rfl rfl rfl rfl ((c_addAct (by omega)).mono (fun rv M1 q => ?_))
            obtain ⟨rfl, rfl⟩ := q
            show V 73 (77, [some (aR 0), some (aI t), some (aI r), some (aI u), some (aI e)], [], MM N ((actU I t r u e)) J) _
            refine V.blk [(77, .aload 0, 1), (78, .getfield 9003, 3), (81, .getfield 1004, 3)] (ps := []) (z' := (84, [some (aR 0), some (aI t), some (aI r), some (aI u), some (aI e)], [aI ((actU I t r u e) 22 4)], MM N ((actU I t r u e)) J)) (by decide +kernel) rfl trivial ?_
            refine V.nI (fun I13 eI13 => ?_)
            refine V.ri (by decide +kernel) ?_
            refine ⟨congrArg (fun w => some (aI w)) ?_, congrArg (fun w => MM N w J) ?_⟩
            all_goals (first | unfold writeA | unfold writeU)
            all_goals (repeat' split)
            all_goals first | rfl | omega | (exfalso; omega) | (simp [actU, cndU, clrU, ma])
          · skip
            try simp only [b2_cast, b2_ncast, Classical.not_not] at h12
            refine V.blk [(58, .aload 0, 1), (59, .bipush (-9), 2)] (ps := []) (z' := (61, [some (aR 0), some (aI t), some (aI r), some (aI u), some (aI e)], [aI (-9), aR 0], MM N I J)) (by decide +kernel) rfl trivial ?_
            refine V.cv (c := 98) (na := 2) (o := 9) (a := 0) [aI (-9)] [] (by decide +kernel) rfl rfl rfl rfl rfl ((c_refuse (by assumption) (by omega)).mono (fun rv M1 q => ?_))
            obtain ⟨rfl, rfl⟩ := q
            show V 73 (64, [some (aR 0), some (aI t), some (aI r), some (aI u), some (aI e)], [aI (-9)], MM N ((rfU I (-9))) J) _
            refine V.nI (fun I14 eI14 => ?_)
            refine V.ri (by decide +kernel) ?_
            refine ⟨congrArg (fun w => some (aI w)) ?_, congrArg (fun w => MM N w J) ?_⟩
            all_goals (first | unfold writeA | unfold writeU)
            all_goals (repeat' split)
            all_goals first | rfl | omega | (exfalso; omega) | (simp [actU, cndU, clrU, ma])
        · skip
          try simp only [b2_cast, b2_ncast, Classical.not_not] at h10
          refine V.blk [(39, .aload 0, 1), (40, .bipush (-8), 2)] (ps := []) (z' := (42, [some (aR 0), some (aI t), some (aI r), some (aI u), some (aI e)], [aI (-8), aR 0], MM N I J)) (by decide +kernel) rfl trivial ?_
          refine V.cv (c := 98) (na := 2) (o := 9) (a := 0) [aI (-8)] [] (by decide +kernel) rfl rfl rfl rfl rfl ((c_refuse (by assumption) (by omega)).mono (fun rv M1 q => ?_))
          obtain ⟨rfl, rfl⟩ := q
          show V 73 (45, [some (aR 0), some (aI t), some (aI r), some (aI u), some (aI e)], [aI (-8)], MM N ((rfU I (-8))) J) _
          refine V.nI (fun I15 eI15 => ?_)
          refine V.ri (by decide +kernel) ?_
          refine ⟨congrArg (fun w => some (aI w)) ?_, congrArg (fun w => MM N w J) ?_⟩
          all_goals (first | unfold writeA | unfold writeU)
          all_goals (repeat' split)
          all_goals first | rfl | omega | (exfalso; omega) | (simp [actU, cndU, clrU, ma])
    · skip
      try simp only [b2_cast, b2_ncast, Classical.not_not] at h5
      refine V.blk [(20, .aload 0, 1), (21, .bipush (-3), 2)] (ps := []) (z' := (23, [some (aR 0), some (aI t), some (aI r), some (aI u), some (aI e)], [aI (-3), aR 0], MM N I J)) (by decide +kernel) rfl trivial ?_
      refine V.cv (c := 98) (na := 2) (o := 9) (a := 0) [aI (-3)] [] (by decide +kernel) rfl rfl rfl rfl rfl ((c_refuse (by assumption) (by omega)).mono (fun rv M1 q => ?_))
      obtain ⟨rfl, rfl⟩ := q
      show V 73 (26, [some (aR 0), some (aI t), some (aI r), some (aI u), some (aI e)], [aI (-3)], MM N ((rfU I (-3))) J) _
      refine V.nI (fun I16 eI16 => ?_)
      refine V.ri (by decide +kernel) ?_
      refine ⟨congrArg (fun w => some (aI w)) ?_, congrArg (fun w => MM N w J) ?_⟩
      all_goals (first | unfold writeA | unfold writeU)
      all_goals (repeat' split)
      all_goals first | rfl | omega | (exfalso; omega) | (simp [actU, cndU, clrU, ma])
def strikeA (I : MI) (t r u : Int) : Int := if (0 ≤ t ∧ t < I 1 1 ∧ 0 ≤ r ∧ r < 8) ∧ isUsr (I 1 1) u then (if I 22 4 < 20 then I 22 4 + 1 else -9) else -3
def strikeU (I : MI) (t r u : Int) : MI := if (0 ≤ t ∧ t < I 1 1 ∧ 0 ≤ r ∧ r < 8) ∧ isUsr (I 1 1) u then (if I 22 4 < 20 then actU I t r u (-1) else rfU I (-9)) else rfU I (-3)
theorem c_X9_strike {N : Nat} {I : MI} {J : MJ} {t r u : Int} (hr : Rf I) (hd : 0 ≤ I 22 4) (hu : inR u) : CT 74 [aR 0, aI t, aI r, aI u] (MM N I J) (QU N J (aI (strikeA I t r u)) (strikeU I t r u)) := by
  refine CT.ofV (n := 4) (ls := [some (aR 0), some (aI t), some (aI r), some (aI u)]) rfl rfl rfl ?_
  refine V.blk [(0, .aload 0, 1), (1, .iload 1, 1), (2, .iload 2, 1)] (ps := []) (z' := (3, [some (aR 0), some (aI t), some (aI r), some (aI u)], [aI r, aI t, aR 0], MM N I J)) (by decide +kernel) rfl trivial ?_
  refine V.cv (c := 100) (na := 3) (o := 9) (a := 0) [aI r, aI t] [] (by decide +kernel) rfl rfl rfl rfl rfl (V.pr (c_X9_isSpot) ?_)
  show V 74 (6, [some (aR 0), some (aI t), some (aI r), some (aI u)], [aI (b2 (decide (0 ≤ t ∧ t < I 1 1 ∧ 0 ≤ r ∧ r < 8)))], MM N I J) _
  refine V.blk [(6, .ifCond .eq 20, 3)] (ps := []) (z' := (brc .eq (b2 (decide (0 ≤ t ∧ t < I 1 1 ∧ 0 ≤ r ∧ r < 8))) 0 20 9, [some (aR 0), some (aI t), some (aI r), some (aI u)], [], MM N I J)) (by decide +kernel) rfl trivial ?_
  refine V.eq (fun h1 => ?_) (fun h2 => ?_)
  · skip
    try simp only [b2_cast, b2_ncast, Classical.not_not] at h1
    refine V.blk [(20, .aload 0, 1), (21, .bipush (-3), 2)] (ps := []) (z' := (23, [some (aR 0), some (aI t), some (aI r), some (aI u)], [aI (-3), aR 0], MM N I J)) (by decide +kernel) rfl trivial ?_
    refine V.cv (c := 98) (na := 2) (o := 9) (a := 0) [aI (-3)] [] (by decide +kernel) rfl rfl rfl rfl rfl ((c_refuse (by assumption) (by omega)).mono (fun rv M1 q => ?_))
    obtain ⟨rfl, rfl⟩ := q
    show V 74 (26, [some (aR 0), some (aI t), some (aI r), some (aI u)], [aI (-3)], MM N ((rfU I (-3))) J) _
    refine V.nI (fun I3 eI3 => ?_)
    refine V.ri (by decide +kernel) ?_
    refine ⟨congrArg (fun w => some (aI w)) ?_, congrArg (fun w => MM N w J) ?_⟩
    all_goals (first | unfold strikeA | unfold strikeU)
    all_goals (repeat' split)
    all_goals first | rfl | omega | (exfalso; omega) | (simp [actU, cndU, clrU, ma])
  · skip
    try simp only [b2_cast, b2_ncast, Classical.not_not] at h2
    refine V.blk [(9, .aload 0, 1), (10, .getfield 9000, 3), (13, .iload 3, 1)] (ps := []) (z' := (14, [some (aR 0), some (aI t), some (aI r), some (aI u)], [aI u, aR 1], MM N I J)) (by decide +kernel) rfl trivial ?_
    refine V.cv (c := 63) (na := 2) (o := 8) (a := 1) [aI u] [] (by decide +kernel) rfl rfl rfl rfl rfl (V.pr (c_X8_hasUser (by assumption)) ?_)
    show V 74 (17, [some (aR 0), some (aI t), some (aI r), some (aI u)], [aI (b2 (decide (isUsr (I 1 1) u)))], MM N I J) _
    refine V.blk [(17, .ifCond .ne 27, 3)] (ps := []) (z' := (brc .ne (b2 (decide (isUsr (I 1 1) u))) 0 27 20, [some (aR 0), some (aI t), some (aI r), some (aI u)], [], MM N I J)) (by decide +kernel) rfl trivial ?_
    refine V.ne (fun h4 => ?_) (fun h5 => ?_)
    · skip
      try simp only [b2_cast, b2_ncast, Classical.not_not] at h4
      refine V.blk [(27, .aload 0, 1), (28, .getfield 9003, 3), (31, .getfield 1004, 3), (34, .bipush 20, 2), (36, .if_icmp .lt 46, 3)] (ps := []) (z' := (brc .lt (I 22 4) 20 46 39, [some (aR 0), some (aI t), some (aI r), some (aI u)], [], MM N I J)) (by decide +kernel) rfl trivial ?_
      refine V.lt (fun h6 => ?_) (fun h7 => ?_)
      · skip
        try simp only [b2_cast, b2_ncast, Classical.not_not] at h6
        refine V.blk [(46, .aload 0, 1), (47, .getfield 9003, 3), (50, .iload 1, 1), (51, .iload 2, 1), (52, .iload 3, 1), (53, .bipush (-1), 1)] (ps := []) (z' := (54, [some (aR 0), some (aI t), some (aI r), some (aI u)], [aI (-1), aI u, aI r, aI t, aR 22], MM N I J)) (by decide +kernel) rfl trivial ?_
        refine V.cv (c := 10) (na := 5) (o := 1) (a := 22) [aI (-1), aI u, aI r, aI t] [] (by decide +kernel) rfl rfl rfl rfl rfl ((c_addAct (by omega)).mono (fun rv M1 q => ?_))
        obtain ⟨rfl, rfl⟩ := q
        show V 74 (57, [some (aR 0), some (aI t), some (aI r), some (aI u)], [], MM N ((actU I t r u (-1))) J) _
        refine V.blk [(57, .aload 0, 1), (58, .getfield 9003, 3), (61, .getfield 1004, 3)] (ps := []) (z' := (64, [some (aR 0), some (aI t), some (aI r), some (aI u)], [aI (((actU I t r u (-1))) 22 4)], MM N ((actU I t r u (-1))) J)) (by decide +kernel) rfl trivial ?_
        refine V.nI (fun I8 eI8 => ?_)
        refine V.ri (by decide +kernel) ?_
        refine ⟨congrArg (fun w => some (aI w)) ?_, congrArg (fun w => MM N w J) ?_⟩
        all_goals (first | unfold strikeA | unfold strikeU)
        all_goals (repeat' split)
        all_goals first | rfl | omega | (exfalso; omega) | (simp [actU, cndU, clrU, ma])
      · skip
        try simp only [b2_cast, b2_ncast, Classical.not_not] at h7
        refine V.blk [(39, .aload 0, 1), (40, .bipush (-9), 2)] (ps := []) (z' := (42, [some (aR 0), some (aI t), some (aI r), some (aI u)], [aI (-9), aR 0], MM N I J)) (by decide +kernel) rfl trivial ?_
        refine V.cv (c := 98) (na := 2) (o := 9) (a := 0) [aI (-9)] [] (by decide +kernel) rfl rfl rfl rfl rfl ((c_refuse (by assumption) (by omega)).mono (fun rv M1 q => ?_))
        obtain ⟨rfl, rfl⟩ := q
        show V 74 (45, [some (aR 0), some (aI t), some (aI r), some (aI u)], [aI (-9)], MM N ((rfU I (-9))) J) _
        refine V.nI (fun I9 eI9 => ?_)
        refine V.ri (by decide +kernel) ?_
        refine ⟨congrArg (fun w => some (aI w)) ?_, congrArg (fun w => MM N w J) ?_⟩
        all_goals (first | unfold strikeA | unfold strikeU)
        all_goals (repeat' split)
        all_goals first | rfl | omega | (exfalso; omega) | (simp [actU, cndU, clrU, ma])
    · skip
      try simp only [b2_cast, b2_ncast, Classical.not_not] at h5
      refine V.blk [(20, .aload 0, 1), (21, .bipush (-3), 2)] (ps := []) (z' := (23, [some (aR 0), some (aI t), some (aI r), some (aI u)], [aI (-3), aR 0], MM N I J)) (by decide +kernel) rfl trivial ?_
      refine V.cv (c := 98) (na := 2) (o := 9) (a := 0) [aI (-3)] [] (by decide +kernel) rfl rfl rfl rfl rfl ((c_refuse (by assumption) (by omega)).mono (fun rv M1 q => ?_))
      obtain ⟨rfl, rfl⟩ := q
      show V 74 (26, [some (aR 0), some (aI t), some (aI r), some (aI u)], [aI (-3)], MM N ((rfU I (-3))) J) _
      refine V.nI (fun I10 eI10 => ?_)
      refine V.ri (by decide +kernel) ?_
      refine ⟨congrArg (fun w => some (aI w)) ?_, congrArg (fun w => MM N w J) ?_⟩
      all_goals (first | unfold strikeA | unfold strikeU)
      all_goals (repeat' split)
      all_goals first | rfl | omega | (exfalso; omega) | (simp [actU, cndU, clrU, ma])
def whenA (I : MI) (t r u e : Int) : Int := if (0 ≤ t ∧ t < I 1 1 ∧ 0 ≤ r ∧ r < 8) ∧ isUsr (I 1 1) u then (if I 22 9 < 10 then I 22 9 + 1 else -9) else -3
def whenU (I : MI) (t r u e : Int) : MI := if (0 ≤ t ∧ t < I 1 1 ∧ 0 ≤ r ∧ r < 8) ∧ isUsr (I 1 1) u then (if I 22 9 < 10 then cndU I t r u e else rfU I (-9)) else rfU I (-3)
theorem c_X9_when {N : Nat} {I : MI} {J : MJ} {t r u e : Int} (hr : Rf I) (hd : 0 ≤ I 22 9) (hu : inR u) (he : 0 ≤ e ∧ e ≤ 1) : CT 75 [aR 0, aI t, aI r, aI u, aI e] (MM N I J) (QU N J (aI (whenA I t r u e)) (whenU I t r u e)) := by
  refine CT.ofV (n := 5) (ls := [some (aR 0), some (aI t), some (aI r), some (aI u), some (aI e)]) rfl rfl rfl ?_
  refine V.blk [(0, .aload 0, 1), (1, .iload 1, 1), (2, .iload 2, 1)] (ps := []) (z' := (3, [some (aR 0), some (aI t), some (aI r), some (aI u), some (aI e)], [aI r, aI t, aR 0], MM N I J)) (by decide +kernel) rfl trivial ?_
  refine V.cv (c := 100) (na := 3) (o := 9) (a := 0) [aI r, aI t] [] (by decide +kernel) rfl rfl rfl rfl rfl (V.pr (c_X9_isSpot) ?_)
  show V 75 (6, [some (aR 0), some (aI t), some (aI r), some (aI u), some (aI e)], [aI (b2 (decide (0 ≤ t ∧ t < I 1 1 ∧ 0 ≤ r ∧ r < 8)))], MM N I J) _
  refine V.blk [(6, .ifCond .eq 20, 3)] (ps := []) (z' := (brc .eq (b2 (decide (0 ≤ t ∧ t < I 1 1 ∧ 0 ≤ r ∧ r < 8))) 0 20 9, [some (aR 0), some (aI t), some (aI r), some (aI u), some (aI e)], [], MM N I J)) (by decide +kernel) rfl trivial ?_
  refine V.eq (fun h1 => ?_) (fun h2 => ?_)
  · skip
    try simp only [b2_cast, b2_ncast, Classical.not_not] at h1
    refine V.blk [(20, .aload 0, 1), (21, .bipush (-3), 2)] (ps := []) (z' := (23, [some (aR 0), some (aI t), some (aI r), some (aI u), some (aI e)], [aI (-3), aR 0], MM N I J)) (by decide +kernel) rfl trivial ?_
    refine V.cv (c := 98) (na := 2) (o := 9) (a := 0) [aI (-3)] [] (by decide +kernel) rfl rfl rfl rfl rfl ((c_refuse (by assumption) (by omega)).mono (fun rv M1 q => ?_))
    obtain ⟨rfl, rfl⟩ := q
    show V 75 (26, [some (aR 0), some (aI t), some (aI r), some (aI u), some (aI e)], [aI (-3)], MM N ((rfU I (-3))) J) _
    refine V.nI (fun I3 eI3 => ?_)
    refine V.ri (by decide +kernel) ?_
    refine ⟨congrArg (fun w => some (aI w)) ?_, congrArg (fun w => MM N w J) ?_⟩
    all_goals (first | unfold whenA | unfold whenU)
    all_goals (repeat' split)
    all_goals first | rfl | omega | (exfalso; omega) | (simp [actU, cndU, clrU, ma])
  · skip
    try simp only [b2_cast, b2_ncast, Classical.not_not] at h2
    refine V.blk [(9, .aload 0, 1), (10, .getfield 9000, 3), (13, .iload 3, 1)] (ps := []) (z' := (14, [some (aR 0), some (aI t), some (aI r), some (aI u), some (aI e)], [aI u, aR 1], MM N I J)) (by decide +kernel) rfl trivial ?_
    refine V.cv (c := 63) (na := 2) (o := 8) (a := 1) [aI u] [] (by decide +kernel) rfl rfl rfl rfl rfl (V.pr (c_X8_hasUser (by assumption)) ?_)
    show V 75 (17, [some (aR 0), some (aI t), some (aI r), some (aI u), some (aI e)], [aI (b2 (decide (isUsr (I 1 1) u)))], MM N I J) _
    refine V.blk [(17, .ifCond .ne 27, 3)] (ps := []) (z' := (brc .ne (b2 (decide (isUsr (I 1 1) u))) 0 27 20, [some (aR 0), some (aI t), some (aI r), some (aI u), some (aI e)], [], MM N I J)) (by decide +kernel) rfl trivial ?_
    refine V.ne (fun h4 => ?_) (fun h5 => ?_)
    · skip
      try simp only [b2_cast, b2_ncast, Classical.not_not] at h4
      refine V.blk [(27, .aload 0, 1), (28, .getfield 9003, 3), (31, .getfield 1009, 3), (34, .bipush 10, 2), (36, .if_icmp .lt 46, 3)] (ps := []) (z' := (brc .lt (I 22 9) 10 46 39, [some (aR 0), some (aI t), some (aI r), some (aI u), some (aI e)], [], MM N I J)) (by decide +kernel) rfl trivial ?_
      refine V.lt (fun h6 => ?_) (fun h7 => ?_)
      · skip
        try simp only [b2_cast, b2_ncast, Classical.not_not] at h6
        refine V.blk [(46, .aload 0, 1), (47, .getfield 9003, 3), (50, .iload 1, 1), (51, .iload 2, 1), (52, .iload 3, 1), (53, .iload 4, 2)] (ps := []) (z' := (55, [some (aR 0), some (aI t), some (aI r), some (aI u), some (aI e)], [aI e, aI u, aI r, aI t, aR 22], MM N I J)) (by decide +kernel) rfl trivial ?_
        refine V.cv (c := 11) (na := 5) (o := 1) (a := 22) [aI e, aI u, aI r, aI t] [] (by decide +kernel) rfl rfl rfl rfl rfl ((c_addCondition (by omega) (by assumption)).mono (fun rv M1 q => ?_))
        obtain ⟨rfl, rfl⟩ := q
        show V 75 (58, [some (aR 0), some (aI t), some (aI r), some (aI u), some (aI e)], [], MM N ((cndU I t r u e)) J) _
        refine V.blk [(58, .aload 0, 1), (59, .getfield 9003, 3), (62, .getfield 1009, 3)] (ps := []) (z' := (65, [some (aR 0), some (aI t), some (aI r), some (aI u), some (aI e)], [aI ((cndU I t r u e) 22 9)], MM N ((cndU I t r u e)) J)) (by decide +kernel) rfl trivial ?_
        refine V.nI (fun I8 eI8 => ?_)
        refine V.ri (by decide +kernel) ?_
        refine ⟨congrArg (fun w => some (aI w)) ?_, congrArg (fun w => MM N w J) ?_⟩
        all_goals (first | unfold whenA | unfold whenU)
        all_goals (repeat' split)
        all_goals first | rfl | omega | (exfalso; omega) | (simp [actU, cndU, clrU, ma])
      · skip
        try simp only [b2_cast, b2_ncast, Classical.not_not] at h7
        refine V.blk [(39, .aload 0, 1), (40, .bipush (-9), 2)] (ps := []) (z' := (42, [some (aR 0), some (aI t), some (aI r), some (aI u), some (aI e)], [aI (-9), aR 0], MM N I J)) (by decide +kernel) rfl trivial ?_
        refine V.cv (c := 98) (na := 2) (o := 9) (a := 0) [aI (-9)] [] (by decide +kernel) rfl rfl rfl rfl rfl ((c_refuse (by assumption) (by omega)).mono (fun rv M1 q => ?_))
        obtain ⟨rfl, rfl⟩ := q
        show V 75 (45, [some (aR 0), some (aI t), some (aI r), some (aI u), some (aI e)], [aI (-9)], MM N ((rfU I (-9))) J) _
        refine V.nI (fun I9 eI9 => ?_)
        refine V.ri (by decide +kernel) ?_
        refine ⟨congrArg (fun w => some (aI w)) ?_, congrArg (fun w => MM N w J) ?_⟩
        all_goals (first | unfold whenA | unfold whenU)
        all_goals (repeat' split)
        all_goals first | rfl | omega | (exfalso; omega) | (simp [actU, cndU, clrU, ma])
    · skip
      try simp only [b2_cast, b2_ncast, Classical.not_not] at h5
      refine V.blk [(20, .aload 0, 1), (21, .bipush (-3), 2)] (ps := []) (z' := (23, [some (aR 0), some (aI t), some (aI r), some (aI u), some (aI e)], [aI (-3), aR 0], MM N I J)) (by decide +kernel) rfl trivial ?_
      refine V.cv (c := 98) (na := 2) (o := 9) (a := 0) [aI (-3)] [] (by decide +kernel) rfl rfl rfl rfl rfl ((c_refuse (by assumption) (by omega)).mono (fun rv M1 q => ?_))
      obtain ⟨rfl, rfl⟩ := q
      show V 75 (26, [some (aR 0), some (aI t), some (aI r), some (aI u), some (aI e)], [aI (-3)], MM N ((rfU I (-3))) J) _
      refine V.nI (fun I10 eI10 => ?_)
      refine V.ri (by decide +kernel) ?_
      refine ⟨congrArg (fun w => some (aI w)) ?_, congrArg (fun w => MM N w J) ?_⟩
      all_goals (first | unfold whenA | unfold whenU)
      all_goals (repeat' split)
      all_goals first | rfl | omega | (exfalso; omega) | (simp [actU, cndU, clrU, ma])
def forgetA (I : MI) : Int := I 22 4
def forgetU (I : MI) : MI := clrU I
theorem c_X9_forget {N : Nat} {I : MI} {J : MJ}   : CT 76 [aR 0] (MM N I J) (QU N J (aI (forgetA I )) (forgetU I )) := by
  refine CT.ofV (n := 2) (ls := [some (aR 0), none]) rfl rfl rfl ?_
  refine V.blk [(0, .aload 0, 1), (1, .getfield 9003, 3), (4, .getfield 1004, 3), (7, .istore 1, 1), (8, .aload 0, 1), (9, .getfield 9003, 3)] (ps := []) (z' := (12, [some (aR 0), some (aI (I 22 4))], [aR 22], MM N I J)) (by decide +kernel) rfl trivial ?_
  refine V.cv (c := 9) (na := 1) (o := 1) (a := 22) [] [] (by decide +kernel) rfl rfl rfl rfl rfl ((c_clear).mono (fun rv M1 q => ?_))
  obtain ⟨rfl, rfl⟩ := q
  show V 76 (15, [some (aR 0), some (aI (I 22 4))], [], MM N ((clrU I)) J) _
  refine V.blk [(15, .iload 1, 1)] (ps := []) (z' := (16, [some (aR 0), some (aI (I 22 4))], [aI (I 22 4)], MM N ((clrU I)) J)) (by decide +kernel) rfl trivial ?_
  refine V.nI (fun I1 eI1 => ?_)
  refine V.ri (by decide +kernel) ?_
  refine ⟨congrArg (fun w => some (aI w)) ?_, congrArg (fun w => MM N w J) ?_⟩
  all_goals (first | unfold forgetA | unfold forgetU)
  all_goals (repeat' split)
  all_goals first | rfl | omega | (exfalso; omega) | (simp [actU, cndU, clrU, ma])
def infB (I : MI) (t : Int) (p : Nat) : Bool := decide (I 15 p ≤ t ∧ (I 16 p = -1 ∨ t < I 16 p))
theorem infB_t {I : MI} {t : Int} {p : Nat} (h : I 15 p ≤ t ∧ (I 16 p = -1 ∨ t < I 16 p)) : infB I t p = true := decide_eq_true h
theorem infB_f {I : MI} {t : Int} {p : Nat} (h : ¬ (I 15 p ≤ t ∧ (I 16 p = -1 ∨ t < I 16 p))) : infB I t p = false := decide_eq_false h
theorem l_inForce {N : Nat} {I : MI} {J : MJ} {t : Int} {m : Nat} (hm : I 10 9 = m) (h4 : m ≤ 400) : ∀ (n p : Nat) (c : Int), m + 1 ≤ p + n → p ≤ m → c = cntF (infB I t) p → V 82 (19, [some (aR 0), some (aI t), some (aI c), some (aI (p : Int))], [], MM N I J) (pure1 N I J (aI (cntF (infB I t) m))) := by
  intro n
  induction n with
  | zero => intro p c h1 h2; exfalso; omega
  | succ n ih =>
    intro p c h1 h2 hc
    have hcb := cntF_in (infB I t) p
    refine V.blk [(19, .iload 3, 1), (20, .aload 0, 1), (21, .getfield 9002, 3), (24, .getfield 3009, 3), (27, .if_icmp .ge 51, 3)] (ps := []) (z' := (brc .ge (p : Int) (I 10 9) 51 30, [some (aR 0), some (aI t), some (aI c), some (aI (p : Int))], [], MM N I J)) (by decide +kernel) rfl trivial ?_
    refine V.ge (fun h1 => ?_) (fun h2 => ?_)
    · skip
      try simp only [b2_cast, b2_ncast, Classical.not_not] at h1
      refine V.blk [(51, .iload 2, 1)] (ps := []) (z' := (52, [some (aR 0), some (aI t), some (aI c), some (aI (p : Int))], [aI c], MM N I J)) (by decide +kernel) rfl trivial ?_
      refine V.ri (by decide +kernel) ?_
      have e : p = m := by omega
      subst e
      exact ⟨by rw [hc], rfl⟩
    · skip
      try simp only [b2_cast, b2_ncast, Classical.not_not] at h2
      refine V.blk [(30, .aload 0, 1), (31, .getfield 9002, 3), (34, .iload 3, 1), (35, .iload 1, 1)] (ps := []) (z' := (36, [some (aR 0), some (aI t), some (aI c), some (aI (p : Int))], [aI t, aI (p : Int), aR 10], MM N I J)) (by decide +kernel) rfl trivial ?_
      refine V.cv (c := 25) (na := 3) (o := 3) (a := 10) [aI t, aI (p : Int)] [] (by decide +kernel) rfl rfl rfl rfl rfl (V.pr (c_X3_inForceAt (by omega)) ?_)
      show V 82 (39, [some (aR 0), some (aI t), some (aI c), some (aI (p : Int))], [aI (b2 (decide (I 15 p ≤ t ∧ (I 16 p = -1 ∨ t < I 16 p))))], MM N I J) _
      refine V.blk [(39, .ifCond .eq 45, 3)] (ps := []) (z' := (brc .eq (b2 (decide (I 15 p ≤ t ∧ (I 16 p = -1 ∨ t < I 16 p)))) 0 45 42, [some (aR 0), some (aI t), some (aI c), some (aI (p : Int))], [], MM N I J)) (by decide +kernel) rfl trivial ?_
      refine V.eq (fun h3 => ?_) (fun h4 => ?_)
      · skip
        try simp only [b2_cast, b2_ncast, Classical.not_not] at h3
        refine V.blk [(45, .iinc 3 1, 3), (48, .goto 19, 3)] (ps := [inR ((p : Int) + 1)]) (z' := (19, [some (aR 0), some (aI t), some (aI c), some (aI ((p + 1 : Nat) : Int))], [], MM N I J)) (by decide +kernel) rfl (show (inR ((p : Int) + 1)) from (by unfold inR; omega)) ?_
        exact ih (p + 1) c (by omega) (by omega) (by first | (rw [cntF_t (infB_t (by assumption))]; omega) | (rw [cntF_f (infB_f (by assumption))]; omega))
      · skip
        try simp only [b2_cast, b2_ncast, Classical.not_not] at h4
        refine V.blk [(42, .iinc 2 1, 3), (45, .iinc 3 1, 3), (48, .goto 19, 3)] (ps := [inR (c + 1), inR ((p : Int) + 1)]) (z' := (19, [some (aR 0), some (aI t), some (aI (c + 1)), some (aI ((p + 1 : Nat) : Int))], [], MM N I J)) (by decide +kernel) rfl (show (inR (c + 1)) ∧ (inR ((p : Int) + 1)) from ⟨(by unfold inR; omega), (by unfold inR; omega)⟩) ?_
        exact ih (p + 1) (c + 1) (by omega) (by omega) (by first | (rw [cntF_t (infB_t (by assumption))]; omega) | (rw [cntF_f (infB_f (by assumption))]; omega))
def inForceA (I : MI) (t : Int) : Int := if 0 ≤ t ∧ t ≤ I 10 13 then cntF (infB I t) (I 10 9).toNat else -3
def inForceU (I : MI) (t : Int) : MI := if 0 ≤ t ∧ t ≤ I 10 13 then I else rfU I (-3)
theorem c_X9_inForce {N : Nat} {I : MI} {J : MJ} {t : Int} (hr : Rf I) (hm : 0 ≤ I 10 9 ∧ I 10 9 ≤ 400) : CT 82 [aR 0, aI t] (MM N I J) (QU N J (aI (inForceA I t)) (inForceU I t)) := by
  refine CT.ofV (n := 4) (ls := [some (aR 0), some (aI t), none, none]) rfl rfl rfl ?_
  refine V.blk [(0, .aload 0, 1), (1, .iload 1, 1)] (ps := []) (z' := (2, [some (aR 0), some (aI t), none, none], [aI t, aR 0], MM N I J)) (by decide +kernel) rfl trivial ?_
  refine V.cv (c := 101) (na := 2) (o := 9) (a := 0) [aI t] [] (by decide +kernel) rfl rfl rfl rfl rfl (V.pr (c_X9_isTurn) ?_)
  show V 82 (5, [some (aR 0), some (aI t), none, none], [aI (b2 (decide (0 ≤ t ∧ t ≤ I 10 13)))], MM N I J) _
  refine V.blk [(5, .ifCond .ne 15, 3)] (ps := []) (z' := (brc .ne (b2 (decide (0 ≤ t ∧ t ≤ I 10 13))) 0 15 8, [some (aR 0), some (aI t), none, none], [], MM N I J)) (by decide +kernel) rfl trivial ?_
  refine V.ne (fun h1 => ?_) (fun h2 => ?_)
  · skip
    try simp only [b2_cast, b2_ncast, Classical.not_not] at h1
    refine V.blk [(15, .bipush 0, 1), (16, .istore 2, 1), (17, .bipush 0, 1), (18, .istore 3, 1)] (ps := []) (z' := (19, [some (aR 0), some (aI t), some (aI 0), some (aI 0)], [], MM N I J)) (by decide +kernel) rfl trivial ?_
    refine (l_inForce (m := (I 10 9).toNat) (by omega) (by omega) ((I 10 9).toNat + 1) 0 0 (by omega) (by omega) rfl).mono (fun r M' q => ?_)
    obtain ⟨rfl, rfl⟩ := q
    refine ⟨congrArg (fun w => some (aI w)) ?_, congrArg (fun w => MM N w J) ?_⟩
    · rw [inForceA, if_pos (by omega)]
    · rw [inForceU, if_pos (by omega)]
  · skip
    try simp only [b2_cast, b2_ncast, Classical.not_not] at h2
    refine V.blk [(8, .aload 0, 1), (9, .bipush (-3), 2)] (ps := []) (z' := (11, [some (aR 0), some (aI t), none, none], [aI (-3), aR 0], MM N I J)) (by decide +kernel) rfl trivial ?_
    refine V.cv (c := 98) (na := 2) (o := 9) (a := 0) [aI (-3)] [] (by decide +kernel) rfl rfl rfl rfl rfl ((c_refuse (by assumption) (by omega)).mono (fun rv M1 q => ?_))
    obtain ⟨rfl, rfl⟩ := q
    show V 82 (14, [some (aR 0), some (aI t), none, none], [aI (-3)], MM N ((rfU I (-3))) J) _
    refine V.nI (fun I3 eI3 => ?_)
    refine V.ri (by decide +kernel) ?_
    refine ⟨congrArg (fun w => some (aI w)) ?_, congrArg (fun w => MM N w J) ?_⟩
    subst eI3
    all_goals (first | unfold inForceA | unfold inForceU)
    all_goals (repeat' split)
    all_goals first | rfl | omega | (exfalso; omega)
def wrB (I : MI) (p : Nat) : Bool := decide (¬ I 26 p = -1)
theorem l_writes {N : Nat} {I : MI} {J : MJ} {m : Nat} (hm : I 22 4 = m) (h4 : m ≤ 20) : ∀ (n p : Nat) (c : Int), m + 1 ≤ p + n → p ≤ m → c = cntF (wrB I) p → V 12 (4, [some (aR 22), some (aI c), some (aI (p : Int))], [], MM N I J) (pure1 N I J (aI (cntF (wrB I) m))) := by
  intro n
  induction n with
  | zero => intro p c h1 h2; exfalso; omega
  | succ n ih =>
    intro p c h1 h2 hc
    have hcb := cntF_in (wrB I) p
    refine V.blk [(4, .iload 2, 1), (5, .aload 0, 1), (6, .getfield 1004, 3), (9, .if_icmp .ge 31, 3)] (ps := []) (z' := (brc .ge (p : Int) (I 22 4) 31 12, [some (aR 22), some (aI c), some (aI (p : Int))], [], MM N I J)) (by decide +kernel) rfl trivial ?_
    refine V.ge (fun h1 => ?_) (fun h2 => ?_)
    · skip
      try simp only [b2_cast, b2_ncast, Classical.not_not] at h1
      refine V.blk [(31, .iload 1, 1)] (ps := []) (z' := (32, [some (aR 22), some (aI c), some (aI (p : Int))], [aI c], MM N I J)) (by decide +kernel) rfl trivial ?_
      refine V.ri (by decide +kernel) ?_
      have e : p = m := by omega
      subst e
      exact ⟨by rw [hc], rfl⟩
    · skip
      try simp only [b2_cast, b2_ncast, Classical.not_not] at h2
      refine V.blk [(12, .aload 0, 1), (13, .getfield 1003, 3), (16, .iload 2, 1), (17, .iaload, 1), (18, .bipush (-1), 1), (19, .if_icmp .eq 25, 3)] (ps := [0 ≤ (p : Int) ∧ (p : Int) < 20]) (z' := (brc .eq (I 26 p) (-1) 25 22, [some (aR 22), some (aI c), some (aI (p : Int))], [], MM N I J)) (by decide +kernel) rfl (show (0 ≤ (p : Int) ∧ (p : Int) < 20) from (by omega)) ?_
      refine V.eq (fun h3 => ?_) (fun h4 => ?_)
      · skip
        try simp only [b2_cast, b2_ncast, Classical.not_not] at h3
        refine V.blk [(25, .iinc 2 1, 3), (28, .goto 4, 3)] (ps := [inR ((p : Int) + 1)]) (z' := (4, [some (aR 22), some (aI c), some (aI ((p + 1 : Nat) : Int))], [], MM N I J)) (by decide +kernel) rfl (show (inR ((p : Int) + 1)) from (by unfold inR; omega)) ?_
        exact ih (p + 1) c (by omega) (by omega) (by first | (rw [cntF_t (decide_eq_true (by assumption))]; omega) | (rw [cntF_f (decide_eq_false (fun w => w (by assumption)))]; omega))
      · skip
        try simp only [b2_cast, b2_ncast, Classical.not_not] at h4
        refine V.blk [(22, .iinc 1 1, 3), (25, .iinc 2 1, 3), (28, .goto 4, 3)] (ps := [inR (c + 1), inR ((p : Int) + 1)]) (z' := (4, [some (aR 22), some (aI (c + 1)), some (aI ((p + 1 : Nat) : Int))], [], MM N I J)) (by decide +kernel) rfl (show (inR (c + 1)) ∧ (inR ((p : Int) + 1)) from ⟨(by unfold inR; omega), (by unfold inR; omega)⟩) ?_
        exact ih (p + 1) (c + 1) (by omega) (by omega) (by first | (rw [cntF_t (decide_eq_true (by assumption))]; omega) | (rw [cntF_f (decide_eq_false (fun w => w (by assumption)))]; omega))
theorem c_writes {N : Nat} {I : MI} {J : MJ} {m : Nat} (hm : I 22 4 = m) (h4 : m ≤ 20) : CT 12 [aR 22] (MM N I J) (pure1 N I J (aI (cntF (wrB I) m))) := by
  refine CT.ofV (n := 3) (ls := [some (aR 22), none, none]) rfl rfl rfl ?_
  refine V.blk [(0, .bipush 0, 1), (1, .istore 1, 1), (2, .bipush 0, 1), (3, .istore 2, 1)] (ps := []) (z' := (4, [some (aR 22), some (aI 0), some (aI 0)], [], MM N I J)) (by decide +kernel) rfl trivial ?_
  exact l_writes hm h4 (m + 1) 0 0 (by omega) (by omega) rfl
