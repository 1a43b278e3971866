/-! ===== the class: levels ===== -/
def hiF (f : Nat → Int) (x : Int64) : Nat → Int
  | 0 => -1
  | n + 1 => if tb x n = true then (if hiF f x n < f n then f n else hiF f x n) else hiF f x n
theorem hiF_0 (f : Nat → Int) : ∀ n, hiF f (Int64.ofInt 0) n = -1
  | 0 => rfl
  | n + 1 => by
    rw [hiF, tb_0, hiF_0 f n]
    rfl
theorem hiF_le {f : Nat → Int} {x : Int64} {b : Int} (hb : -1 ≤ b) : ∀ n, (∀ k, k < n → tb x k = true → f k ≤ b) → hiF f x n ≤ b
  | 0, _ => hb
  | n + 1, h => by
    have := hiF_le hb n (fun k hk => h k (by omega))
    unfold hiF
    split
    · rename_i q
      have := h n (by omega) q
      split <;> omega
    · exact this
theorem hiF_m1 (f : Nat → Int) (x : Int64) : ∀ n, -1 ≤ hiF f x n
  | 0 => Int.le_refl _
  | n + 1 => by
    have := hiF_m1 f x n
    unfold hiF
    split
    · split <;> omega
    · exact this
theorem hiF_ge {f : Nat → Int} {x : Int64} : ∀ n k, k < n → tb x k = true → f k ≤ hiF f x n
  | 0, k, h, _ => by omega
  | n + 1, k, h, q => by
    unfold hiF
    by_cases e : k = n
    · subst e
      rw [if_pos q]
      split <;> omega
    · have := hiF_ge (f := f) n k (by omega) q
      split
      · split <;> omega
      · exact this
theorem l_highest {N : Nat} {I : MI} {J : MJ} {x : Int64} : ∀ (m k : Nat) (h : Int), 49 ≤ m + k → k ≤ 48 → h = hiF (I 35) x k → V 22 (5, [some (aR 31), some (aL (x)), none, some (aI h), some (aI (k : Int))], [], MM N I J) (pure1 N I J (aI (hiF (I 35) x 48))) := by
  intro m
  induction m with
  | zero => intro k h h1 h2; exfalso; omega
  | succ m ih =>
    intro k h h1 h2 hh
    refine V.blk [(5, .lload 1, 1), (6, .jsr_w 0, 1), (7, .lcmp, 1), (8, .ifCond .eq 45, 3)] (ps := []) (z' := (brc .eq (lcm (x) (Int64.ofInt 0)) 0 45 11, [some (aR 31), some (aL (x)), none, some (aI h), some (aI (k : Int))], [], MM N I J)) (by decide +kernel) rfl trivial ?_
    refine V.eq (fun h1 => ?_) (fun h2 => ?_)
    · skip
      try simp only [b2_cast, b2_ncast, Classical.not_not, lcm_lt, lcm_ge, lcm_gt, lcm_le, lcm_eq, b2_0, b2_n0] at h1
      refine V.blk [(45, .iload 3, 1)] (ps := []) (z' := (46, [some (aR 31), some (aL (x)), none, some (aI h), some (aI (k : Int))], [aI h], MM N I J)) (by decide +kernel) rfl trivial ?_
      refine V.ri (by decide +kernel) ?_
      refine ⟨congrArg (fun w => some (aI w)) ?_, rfl⟩
      first
        | (have e : k = 48 := by omega
           subst e
           exact hh)
        | (rename_i hx
           subst hx
           rw [hh, hiF_0, hiF_0])
        | (subst hh; subst_vars; rw [hiF_0, hiF_0])
    · skip
      try simp only [b2_cast, b2_ncast, Classical.not_not, lcm_lt, lcm_ge, lcm_gt, lcm_le, lcm_eq, b2_0, b2_n0] at h2
      refine V.blk [(11, .iload 4, 2), (13, .bipush 48, 2), (15, .if_icmp .ge 45, 3)] (ps := []) (z' := (brc .ge (k : Int) 48 45 18, [some (aR 31), some (aL (x)), none, some (aI h), some (aI (k : Int))], [], MM N I J)) (by decide +kernel) rfl trivial ?_
      refine V.ge (fun h3 => ?_) (fun h4 => ?_)
      · skip
        try simp only [b2_cast, b2_ncast, Classical.not_not, lcm_lt, lcm_ge, lcm_gt, lcm_le, lcm_eq, b2_0, b2_n0] at h3
        refine V.blk [(45, .iload 3, 1)] (ps := []) (z' := (46, [some (aR 31), some (aL (x)), none, some (aI h), some (aI (k : Int))], [aI h], MM N I J)) (by decide +kernel) rfl trivial ?_
        refine V.ri (by decide +kernel) ?_
        refine ⟨congrArg (fun w => some (aI w)) ?_, rfl⟩
        first
          | (have e : k = 48 := by omega
             subst e
             exact hh)
          | (rename_i hx
             subst hx
             rw [hh, hiF_0, hiF_0])
          | (subst hh; subst_vars; rw [hiF_0, hiF_0])
      · skip
        try simp only [b2_cast, b2_ncast, Classical.not_not, lcm_lt, lcm_ge, lcm_gt, lcm_le, lcm_eq, b2_0, b2_n0] at h4
        refine V.blk [(18, .lload 1, 1), (19, .iload 4, 2)] (ps := []) (z' := (21, [some (aR 31), some (aL (x)), none, some (aI h), some (aI (k : Int))], [aI (k : Int), aL (x)], MM N I J)) (by decide +kernel) rfl trivial ?_
        refine V.cs (c := 107) (na := 2) [aI (k : Int), aL (x)] [] (by decide +kernel) rfl rfl (V.pr (c_X9_hasBit (k := k) (by omega)) ?_)
        show V 22 (24, [some (aR 31), some (aL (x)), none, some (aI h), some (aI (k : Int))], [aI (b2 (tb (x) k))], MM N I J) _
        refine V.blk [(24, .ifCond .eq 39, 3)] (ps := []) (z' := (brc .eq (b2 (tb (x) k)) 0 39 27, [some (aR 31), some (aL (x)), none, some (aI h), some (aI (k : Int))], [], MM N I J)) (by decide +kernel) rfl trivial ?_
        refine V.eq (fun h5 => ?_) (fun h6 => ?_)
        · skip
          try simp only [b2_cast, b2_ncast, Classical.not_not, lcm_lt, lcm_ge, lcm_gt, lcm_le, lcm_eq, b2_0, b2_n0] at h5
          refine V.blk [(39, .iinc 4 1, 3), (42, .goto 5, 3)] (ps := [inR ((k : Int) + 1)]) (z' := (5, [some (aR 31), some (aL (x)), none, some (aI h), some (aI ((k + 1 : Nat) : Int))], [], MM N I J)) (by decide +kernel) rfl (show (inR ((k : Int) + 1)) from (by unfold inR; omega)) ?_
          exact ih (k + 1) _ (by omega) (by omega) (by simp [hiF, *])
        · skip
          try simp only [b2_cast, b2_ncast, Classical.not_not, lcm_lt, lcm_ge, lcm_gt, lcm_le, lcm_eq, b2_0, b2_n0] at h6
          refine V.blk [(27, .iload 3, 1), (28, .aload 0, 1), (29, .getfield 2006, 3), (32, .iload 4, 2), (34, .iaload, 1), (35, .invokestatic 1000, 3), (38, .istore 3, 1), (39, .iinc 4 1, 3), (42, .goto 5, 3)] (ps := [0 ≤ (k : Int) ∧ (k : Int) < 48, inR ((k : Int) + 1)]) (z' := (5, [some (aR 31), some (aL (x)), none, some (aI (if h < (I 35 k) then (I 35 k) else h)), some (aI ((k + 1 : Nat) : Int))], [], MM N I J)) (by decide +kernel) rfl (show (0 ≤ (k : Int) ∧ (k : Int) < 48) ∧ (inR ((k : Int) + 1)) from ⟨(by omega), (by unfold inR; omega)⟩) ?_
          exact ih (k + 1) _ (by omega) (by omega) (by simp [hiF, *])
theorem c_highest {N : Nat} {I : MI} {J : MJ} {x : Int64} : CT 22 [aR 31, aL (x)] (MM N I J) (pure1 N I J (aI (hiF (I 35) x 48))) := by
  refine CT.ofV (n := 5) (ls := [some (aR 31), some (aL (x)), none, none, none]) rfl rfl rfl ?_
  refine V.blk [(0, .bipush (-1), 1), (1, .istore 3, 1), (2, .bipush 0, 1), (3, .istore 4, 2)] (ps := []) (z' := (5, [some (aR 31), some (aL (x)), none, some (aI (-1)), some (aI 0)], [], MM N I J)) (by decide +kernel) rfl trivial ?_
  exact l_highest 49 0 _ (by omega) (by omega) rfl
abbrev eA (J : MJ) : ED := fun n m => tb (J 33 n) m = true
abbrev eT (J : MJ) : ED := fun n m => tb (J 34 n) m = true
def RaI (I0 : MI) (J : MJ) (B : Int) (n : Nat) (I : MI) (ro : Bool) : Prop :=
  (∀ k, k < 48 → I0 35 k ≤ I 35 k) ∧ (∀ k m, k < n → m < 48 → (eA J k m → I0 35 m ≤ I 35 k) ∧ (eT J k m → I0 35 m + 1 ≤ I 35 k)) ∧
  (∀ z, stab (eA J) (eT J) z → nng z → (∀ k, k < 48 → I0 35 k ≤ z k) → ∀ k, k < 48 → I 35 k ≤ z k) ∧
  (∀ k, k < 48 → I 35 k ≤ I 31 7 ∧ I 35 k ≤ B + n) ∧ I 31 7 ≤ B + n ∧ (ro = false → ∀ k, k < 48 → I 35 k = I0 35 k) ∧ (ro = true → ∃ k, k < 48 ∧ I0 35 k < I 35 k) ∧
  (∀ i, i ≠ 35 → i ≠ 31 → I i = I0 i) ∧ ∀ k, k ≠ 7 → I 31 k = I0 31 k
theorem RaI.keep {I0 I : MI} {J : MJ} {B : Int} {n : Nat} {ro : Bool} (h : RaI I0 J B n I ro) (hn : n < 48) (h1 : hiF (I 35) (J 33 n) 48 ≤ I 35 n) (h2 : hiF (I 35) (J 34 n) 48 + 1 ≤ I 35 n) : RaI I0 J B (n + 1) I ro := by
  obtain ⟨a, b, c, d, e, f, g⟩ := h
  refine ⟨a, fun k m hk hm => ?_, c, fun k hk => ⟨(d k hk).1, by have := (d k hk).2; omega⟩, by omega, f, g⟩
  by_cases q : k = n
  · subst q
    exact ⟨fun w => Int.le_trans (Int.le_trans (a m hm) (hiF_ge 48 m hm w)) h1, fun w => by have := a m hm; have := hiF_ge (f := I 35) 48 m hm w; omega⟩
  · exact b k m (by omega) hm
theorem RaI.put {I0 I I' : MI} {J : MJ} {B : Int} {n : Nat} {ro : Bool} {w t : Int} (h : RaI I0 J B n I ro) (hn : n < 48) (h0 : nng (I0 35)) (hw : w = if hiF (I 35) (J 33 n) 48 < hiF (I 35) (J 34 n) 48 + 1 then hiF (I 35) (J 34 n) 48 + 1 else hiF (I 35) (J 33 n) 48) (hgt : I 35 n < w) (ht : t = if I 31 7 < w then w else I 31 7) (e35 : I' 35 = ma (I 35) n w) (e31 : I' 31 = ma (I 31) 7 t) (eo : ∀ i, i ≠ 35 → i ≠ 31 → I' i = I i) : RaI I0 J B (n + 1) I' true := by
  obtain ⟨a, b, c, d, e, f, g, o1, o2⟩ := h
  have hwb : w ≤ B + n + 1 := by
    have q1 := hiF_le (f := I 35) (x := J 33 n) (b := B + n) (by have := (d n hn).2; have := a n hn; have := h0 n hn; omega) 48 (fun k hk _ => (d k hk).2)
    have q2 := hiF_le (f := I 35) (x := J 34 n) (b := B + n) (by have := (d n hn).2; have := a n hn; have := h0 n hn; omega) 48 (fun k hk _ => (d k hk).2)
    rw [hw]
    split <;> omega
  have hA : ∀ m, m < 48 → eA J n m → I0 35 m ≤ w := by
    intro m hm q
    have := a m hm
    have := hiF_ge (f := I 35) 48 m hm q
    rw [hw]
    split <;> omega
  have hT : ∀ m, m < 48 → eT J n m → I0 35 m + 1 ≤ w := by
    intro m hm q
    have := a m hm
    have := hiF_ge (f := I 35) 48 m hm q
    rw [hw]
    split <;> omega
  refine ⟨fun k hk => ?_, fun k m hk hm => ?_, fun z hz hng hle k hk => ?_, fun k hk => ?_, ?_, (fun q => by cases q), fun _ => ⟨n, hn, ?_⟩, fun i h1 h2 => (eo i h1 h2).trans (o1 i h1 h2), fun k hk => by rw [e31, ma_ne _ _ hk]; exact o2 k hk⟩
  · rw [e35]; unfold ma
    have := a k hk
    split
    · rename_i q; subst q; omega
    · exact this
  · rw [e35]; unfold ma
    split
    · rename_i q; subst q
      exact ⟨hA m hm, hT m hm⟩
    · exact b k m (by omega) hm
  · rw [e35]; unfold ma
    split
    · rename_i q; subst q
      have g1 := hiF_le (f := I 35) (x := J 33 k) (b := z k) (by have := hng k hk; omega) 48 (fun m hm q => Int.le_trans (c z hz hng hle m hm) ((hz k m hk hm).1 q))
      have g2 := hiF_le (f := I 35) (x := J 34 k) (b := z k - 1) (by have := hng k hk; omega) 48 (fun m hm q => by have := c z hz hng hle m hm; have := (hz k m hk hm).2 q; omega)
      rw [hw]
      split <;> omega
    · exact c z hz hng hle k hk
  · rw [e35, e31, ma_self]
    have := d k hk
    unfold ma
    rw [ht]
    constructor
    · split <;> split <;> omega
    · split
      · push_cast; omega
      · push_cast; omega
  · rw [e31, ma_self, ht]
    push_cast
    split <;> omega
  · rw [e35, ma_self]
    have := a n hn
    omega
theorem l_raise {N : Nat} {I : MI} {J : MJ} {B : Int} (h0 : nng (I 35)) (hB : 0 ≤ B ∧ B ≤ 1000000) (hb : ∀ k, k < 48 → I 35 k ≤ B ∧ I 35 k ≤ I 31 7) (ht : I 31 7 ≤ B) : ∀ (m n : Nat) (I' : MI) (ro : Bool) (w : Option AV), 49 ≤ m + n → n ≤ 48 → RaI I J B n I' ro → V 21 (4, [some (aR 31), some (aI (b2 ro)), some (aI (n : Int)), w], [], MM N I' J) (fun r M' => ∃ ro I', r = some (aI (b2 ro)) ∧ M' = MM N I' J ∧ RaI I J B 48 I' ro) := by
  intro m
  induction m with
  | zero => intro n I' ro w h1 h2; exfalso; omega
  | succ m ih =>
    intro n I' ro w h1 h2 hi
    refine V.blk [(4, .iload 2, 1), (5, .bipush 48, 2), (7, .if_icmp .ge 73, 3)] (ps := []) (z' := (brc .ge (n : Int) 48 73 10, [some (aR 31), some (aI (b2 ro)), some (aI (n : Int)), w], [], MM N I' J)) (by decide +kernel) rfl trivial ?_
    refine V.ge (fun h1 => ?_) (fun h2 => ?_)
    · skip
      refine V.blk [(73, .iload 1, 1)] (ps := []) (z' := (74, [some (aR 31), some (aI (b2 ro)), some (aI (n : Int)), w], [aI (b2 ro)], MM N I' J)) (by decide +kernel) rfl trivial ?_
      refine V.rz (by decide +kernel) (by first | exact b2_in _ | omega) ?_
      have e : n = 48 := by omega
      subst e
      exact ⟨ro, _, rfl, rfl, hi⟩
    · skip
      refine V.blk [(10, .aload 0, 1), (11, .aload 0, 1), (12, .getfield 2004, 3), (15, .iload 2, 1), (16, .laload, 1)] (ps := [0 ≤ (n : Int) ∧ (n : Int) < 48]) (z' := (17, [some (aR 31), some (aI (b2 ro)), some (aI (n : Int)), w], [aL (J 33 n), aR 31], MM N I' J)) (by decide +kernel) rfl (show (0 ≤ (n : Int) ∧ (n : Int) < 48) from (by omega)) ?_
      refine V.cv (c := 22) (na := 2) (o := 2) (a := 31) [aL (J 33 n)] [] (by decide +kernel) rfl rfl rfl rfl rfl (V.pr (c_highest) ?_)
      show V 21 (20, [some (aR 31), some (aI (b2 ro)), some (aI (n : Int)), w], [aI (hiF (I' 35) (J 33 n) 48)], MM N I' J) _
      refine V.blk [(20, .aload 0, 1), (21, .aload 0, 1), (22, .getfield 2005, 3), (25, .iload 2, 1), (26, .laload, 1)] (ps := [0 ≤ (n : Int) ∧ (n : Int) < 48]) (z' := (27, [some (aR 31), some (aI (b2 ro)), some (aI (n : Int)), w], [aL (J 34 n), aR 31, aI (hiF (I' 35) (J 33 n) 48)], MM N I' J)) (by decide +kernel) rfl (show (0 ≤ (n : Int) ∧ (n : Int) < 48) from (by omega)) ?_
      refine V.cv (c := 22) (na := 2) (o := 2) (a := 31) [aL (J 34 n)] [aI (hiF (I' 35) (J 33 n) 48)] (by decide +kernel) rfl rfl rfl rfl rfl (V.pr (c_highest) ?_)
      show V 21 (30, [some (aR 31), some (aI (b2 ro)), some (aI (n : Int)), w], [aI (hiF (I' 35) (J 34 n) 48), aI (hiF (I' 35) (J 33 n) 48)], MM N I' J) _
      have bb1 := hiF_m1 (I' 35) (J 34 n) 48
      have bb2 := hiF_le (f := I' 35) (x := J 34 n) (b := B + 48) (by omega) 48 (fun k hk _ => by have := (hi.2.2.2.1 k hk).2; omega)
      refine V.blk [(30, .bipush 1, 1), (31, .iadd, 1), (32, .invokestatic 1000, 3), (35, .istore 3, 1), (36, .iload 3, 1), (37, .aload 0, 1), (38, .getfield 2006, 3), (41, .iload 2, 1), (42, .iaload, 1), (43, .if_icmp .le 67, 3)] (ps := [inR ((hiF (I' 35) (J 34 n) 48) + 1), 0 ≤ (n : Int) ∧ (n : Int) < 48]) (z' := (brc .le (if (hiF (I' 35) (J 33 n) 48) < ((hiF (I' 35) (J 34 n) 48) + 1) then ((hiF (I' 35) (J 34 n) 48) + 1) else (hiF (I' 35) (J 33 n) 48)) (I' 35 n) 67 46, [some (aR 31), some (aI (b2 ro)), some (aI (n : Int)), some (aI (if (hiF (I' 35) (J 33 n) 48) < ((hiF (I' 35) (J 34 n) 48) + 1) then ((hiF (I' 35) (J 34 n) 48) + 1) else (hiF (I' 35) (J 33 n) 48)))], [], MM N I' J)) (by decide +kernel) rfl (show (inR ((hiF (I' 35) (J 34 n) 48) + 1)) ∧ (0 ≤ (n : Int) ∧ (n : Int) < 48) from ⟨(by unfold inR; omega), (by omega)⟩) ?_
      refine V.le (fun h3 => ?_) (fun h4 => ?_)
      · skip
        have hle := h3
        refine V.blk [(67, .iinc 2 1, 3), (70, .goto 4, 3)] (ps := [inR ((n : Int) + 1)]) (z' := (4, [some (aR 31), some (aI (b2 ro)), some (aI ((n + 1 : Nat) : Int)), some (aI (if (hiF (I' 35) (J 33 n) 48) < ((hiF (I' 35) (J 34 n) 48) + 1) then ((hiF (I' 35) (J 34 n) 48) + 1) else (hiF (I' 35) (J 33 n) 48)))], [], MM N I' J)) (by decide +kernel) rfl (show (inR ((n : Int) + 1)) from (by unfold inR; omega)) ?_
        exact ih (n + 1) _ ro _ (by omega) (by omega) (hi.keep (by omega) (by split at hle <;> omega) (by split at hle <;> omega))
      · skip
        have hlt := h4
        refine V.blk [(46, .aload 0, 1), (47, .getfield 2006, 3), (50, .iload 2, 1), (51, .iload 3, 1), (52, .iastore, 1), (53, .aload 0, 1), (54, .aload 0, 1), (55, .getfield 2007, 3), (58, .iload 3, 1), (59, .invokestatic 1000, 3), (62, .putfield 2007, 3), (65, .bipush 1, 1), (66, .istore 1, 1), (67, .iinc 2 1, 3), (70, .goto 4, 3)] (ps := [0 ≤ (n : Int) ∧ (n : Int) < 48, inR ((n : Int) + 1)]) (z' := (4, [some (aR 31), some (aI 1), some (aI ((n + 1 : Nat) : Int)), some (aI (if (hiF (I' 35) (J 33 n) 48) < ((hiF (I' 35) (J 34 n) 48) + 1) then ((hiF (I' 35) (J 34 n) 48) + 1) else (hiF (I' 35) (J 33 n) 48)))], [], MM N (ma (ma I' 35 (ma (I' 35) n (if (hiF (I' 35) (J 33 n) 48) < ((hiF (I' 35) (J 34 n) 48) + 1) then ((hiF (I' 35) (J 34 n) 48) + 1) else (hiF (I' 35) (J 33 n) 48)))) 31 (ma ((ma I' 35 (ma (I' 35) n (if (hiF (I' 35) (J 33 n) 48) < ((hiF (I' 35) (J 34 n) 48) + 1) then ((hiF (I' 35) (J 34 n) 48) + 1) else (hiF (I' 35) (J 33 n) 48)))) 31) 7 (if ((ma I' 35 (ma (I' 35) n (if (hiF (I' 35) (J 33 n) 48) < ((hiF (I' 35) (J 34 n) 48) + 1) then ((hiF (I' 35) (J 34 n) 48) + 1) else (hiF (I' 35) (J 33 n) 48)))) 31 7) < (if (hiF (I' 35) (J 33 n) 48) < ((hiF (I' 35) (J 34 n) 48) + 1) then ((hiF (I' 35) (J 34 n) 48) + 1) else (hiF (I' 35) (J 33 n) 48)) then (if (hiF (I' 35) (J 33 n) 48) < ((hiF (I' 35) (J 34 n) 48) + 1) then ((hiF (I' 35) (J 34 n) 48) + 1) else (hiF (I' 35) (J 33 n) 48)) else ((ma I' 35 (ma (I' 35) n (if (hiF (I' 35) (J 33 n) 48) < ((hiF (I' 35) (J 34 n) 48) + 1) then ((hiF (I' 35) (J 34 n) 48) + 1) else (hiF (I' 35) (J 33 n) 48)))) 31 7)))) J)) (by decide +kernel) rfl (show (0 ≤ (n : Int) ∧ (n : Int) < 48) ∧ (inR ((n : Int) + 1)) from ⟨(by omega), (by unfold inR; omega)⟩) ?_
        refine V.nI (fun I5 eI5 => ?_)
        refine ih (n + 1) _ true _ (by omega) (by omega) (hi.put (by omega) h0 rfl hlt rfl ?_ ?_ ?_)
        · subst eI5
          simp [ma_self, ma_ne]
        · subst eI5
          simp [ma_self, ma_ne]
        · subst eI5
          intro i h35 h31
          simp [ma_ne _ _ h35, ma_ne _ _ h31]
theorem c_raise {N : Nat} {I : MI} {J : MJ} {B : Int} (h0 : nng (I 35)) (hB : 0 ≤ B ∧ B ≤ 1000000) (hb : ∀ k, k < 48 → I 35 k ≤ B ∧ I 35 k ≤ I 31 7) (ht : I 31 7 ≤ B) : CT 21 [aR 31] (MM N I J) (fun r M' => ∃ ro I', r = some (aI (b2 ro)) ∧ M' = MM N I' J ∧ RaI I J B 48 I' ro) := by
  refine CT.ofV (n := 4) (ls := [some (aR 31), none, none, none]) rfl rfl rfl ?_
  refine V.blk [(0, .bipush 0, 1), (1, .istore 1, 1), (2, .bipush 0, 1), (3, .istore 2, 1)] (ps := []) (z' := (4, [some (aR 31), some (aI 0), some (aI 0), none], [], MM N I J)) (by decide +kernel) rfl trivial ?_
  exact l_raise h0 hB hb ht 49 0 I false _ (by omega) (by omega) ⟨fun _ _ => Int.le_refl _, fun k m hk => by omega, fun z _ _ hz => hz, fun k hk => ⟨(hb k hk).2, by have := (hb k hk).1; omega⟩, by omega, fun _ _ _ => rfl, (fun q => by cases q), fun _ _ _ => rfl, fun _ _ => rfl⟩
/-- what place p, asked by knot n, leads to, by the first m pairs -/
def askQ (I : MI) (m p n i : Nat) : Prop := ((I 4 p = 0 ∨ I 4 p = 1) ∧ clB I m n i) ∨ (I 4 p = 2 ∧ (i : Int) = n / 8 * 8 + I 5 p) ∨ (I 4 p = 3 ∧ ∃ k : Nat, k < 6 ∧ (i : Int) = k * 8 + I 6 p)
def EJ (I : MI) (J : MJ) : ED := fun n i => ∃ p : Nat, p < (I 7 n + 1).toNat ∧ tb (J 8 (I 7 n).toNat) p = true ∧ askQ I (I 10 9).toNat p n i
def ET (I : MI) (J : MJ) : ED := fun n i => ∃ p : Nat, p < (I 7 n + 1).toNat ∧ tb (J 9 (I 7 n).toNat) p = true ∧ askQ I (I 10 9).toNat p n i
theorem stab_congr {A T A' T' : ED} {z : Nat → Int} (h : ∀ n m, n < 48 → m < 48 → (A n m ↔ A' n m) ∧ (T n m ↔ T' n m)) : stab A T z ↔ stab A' T' z := by
  constructor
  · intro q n m hn hm
    have a := q n m hn hm
    have b := h n m hn hm
    exact ⟨fun w => a.1 (b.1.mpr w), fun w => a.2 (b.2.mpr w)⟩
  · intro q n m hn hm
    have a := q n m hn hm
    have b := h n m hn hm
    exact ⟨fun w => a.1 (b.1.mp w), fun w => a.2 (b.2.mp w)⟩
theorem LevOK_congr {A T A' T' : ED} {z : Nat → Int} (h : ∀ n m, n < 48 → m < 48 → (A n m ↔ A' n m) ∧ (T n m ↔ T' n m)) (q : LevOK A T z) : LevOK A' T' z :=
  ⟨(stab_congr h).mp q.1, q.2.1, fun w a b => q.2.2 w ((stab_congr h).mpr a) b⟩
theorem LevOK_same {A T : ED} {v w : Nat → Int} (q : LevOK A T v) (e : ∀ n, n < 48 → w n = v n) : LevOK A T w :=
  ⟨fun n m hn hm => by rw [e n hn, e m hm]; exact q.1 n m hn hm, fun n hn => by rw [e n hn]; exact q.2.1 n hn, fun z a b n hn => by rw [e n hn]; exact q.2.2 z a b n hn⟩
def SetR (I : MI) (J : MJ) (I' : MI) (J' : MJ) (ok : Bool) : Prop :=
  (ok = true ↔ ∃ z, stab (EJ I J) (ET I J) z ∧ nng z) ∧ (ok = true → LevOK (EJ I J) (ET I J) (I' 35) ∧ (∀ k, k < 48 → I' 35 k ≤ I' 31 7) ∧ I' 31 7 ≤ 3000) ∧
  (∀ i, i ≠ 35 → i ≠ 31 → I' i = I i) ∧ (∀ k, k ≠ 7 → I' 31 k = I 31 k) ∧ ∀ i, i ≠ 32 → i ≠ 33 → i ≠ 34 → J' i = J i
def L2I (I0 : MI) (J : MJ) (r : Nat) (ri : Bool) (I : MI) : Prop :=
  (∀ k, k < 48 → I 35 k ≤ I 31 7) ∧ I 31 7 ≤ 48 * r ∧ (ri = true → Rnd (eA J) (eT J) r (I 35) ∧ (48 < r → ¬ ∃ z, stab (eA J) (eT J) z ∧ nng z)) ∧ (ri = false → LevOK (eA J) (eT J) (I 35)) ∧
  (∀ i, i ≠ 35 → i ≠ 31 → I i = I0 i) ∧ ∀ k, k ≠ 7 → I 31 k = I0 31 k
theorem L2I.step {I0 I I' : MI} {J : MJ} {r : Nat} {ro : Bool} (h : L2I I0 J r true I) (hr : r ≤ 48) (q : RaI I J (48 * r) 48 I' ro) : L2I I0 J (r + 1) ro I' := by
  obtain ⟨a, b, c, d, e, f⟩ := h
  obtain ⟨p1, p2, p3, p4, p5, p6, p7, p8, p9⟩ := q
  obtain ⟨c1, c2⟩ := c rfl
  have hp : Pg (eA J) (eT J) (I 35) (I' 35) := ⟨p1, fun n m hn hm => p2 n m hn hm, p3⟩
  refine ⟨fun k hk => (p4 k hk).1, by push_cast at p5 ⊢; omega, fun g => ⟨c1.step hp, fun hl hz => ?_⟩, fun g => ?_, fun i h1 h2 => (p8 i h1 h2).trans (e i h1 h2), fun k hk => (p9 k hk).trans (f k hk)⟩
  · obtain ⟨k, hk, hlt⟩ := p7 g
    have lv := c1.done (by omega) hz
    have := p3 _ lv.1 lv.2.1 (fun _ _ => Int.le_refl _) k hk
    omega
  · exact LevOK_same (c1.still hp (p6 g)) (p6 g)
/-- clubs and leads being found -/
def LdI (I : MI) (J : MJ) (n : Nat) (I' : MI) (J' : MJ) : Prop :=
  (∀ k, k < n → I' 35 k = 0 ∧ ∀ i, i < 64 → (tb (J' 33 k) i = true ↔ EJ I J k i) ∧ (tb (J' 34 k) i = true ↔ ET I J k i)) ∧ (∀ i, i ≠ 35 → I' i = I i) ∧
  (∀ k, k < 48 → ∀ i, i < 64 → (tb (J' 32 k) i = true ↔ clB I (I 10 9).toNat k i)) ∧ ∀ i, i ≠ 32 → i ≠ 33 → i ≠ 34 → J' i = J i
theorem askPQ {I I' : MI} {J' : MJ} {m p n i : Nat} (hn : n < 48) (hi : i < 64) (e : ∀ i, i ≠ 35 → I' i = I i) (h : tb (J' 32 n) i = true ↔ clB I m n i) : askP I' J' p n i ↔ askQ I m p n i := by
  unfold askP askQ
  rw [e 4 (by decide), e 5 (by decide), e 6 (by decide), h]
theorem LdI.step {I I' : MI} {J J' J2 : MJ} {n : Nat} (h : LdI I J n I' J') (hn : n < 48) (g1 : ∀ i, i < 64 → (tb (J2 33 n) i = true ↔ ldJ I' J' (I' 7 n + 1).toNat n i)) (g2 : ∀ i, i < 64 → (tb (J2 34 n) i = true ↔ ldT I' J' (I' 7 n + 1).toNat n i)) (g3 : ∀ q, q ≠ n → J2 33 q = J' 33 q ∧ J2 34 q = J' 34 q) (g4 : ∀ i, i ≠ 33 → i ≠ 34 → J2 i = J' i) {I2 : MI} (e35 : I2 35 = ma (I' 35) n 0) (eo : ∀ i, i ≠ 35 → I2 i = I' i) : LdI I J (n + 1) I2 J2 := by
  obtain ⟨a, b, c, d⟩ := h
  refine ⟨fun k hk => ?_, fun i hi => (eo i hi).trans (b i hi), fun k hk i hi => by rw [g4 32 (by decide) (by decide)]; exact c k hk i hi, fun i h1 h2 h3 => (g4 i h2 h3).trans (d i h1 h2 h3)⟩
  by_cases q : k = n
  · subst q
    refine ⟨by rw [e35, ma_self], fun i hi => ?_⟩
    rw [g1 i hi, g2 i hi]
    unfold ldJ ldT EJ ET
    rw [b 7 (by decide), d 8 (by decide) (by decide) (by decide), d 9 (by decide) (by decide) (by decide)]
    have e : ∀ p, askP I' J' p k i ↔ askQ I (I 10 9).toNat p k i := fun p => askPQ hn hi b (c k hn i hi)
    constructor
    · constructor
      · intro q
        obtain ⟨p, q1, q2, q3⟩ := q
        exact ⟨p, q1, q2, (e p).mp q3⟩
      · intro q
        obtain ⟨p, q1, q2, q3⟩ := q
        exact ⟨p, q1, q2, (e p).mpr q3⟩
    · constructor
      · intro q
        obtain ⟨p, q1, q2, q3⟩ := q
        exact ⟨p, q1, q2, (e p).mp q3⟩
      · intro q
        obtain ⟨p, q1, q2, q3⟩ := q
        exact ⟨p, q1, q2, (e p).mpr q3⟩
  · rw [e35, ma_ne _ _ q, (g3 k q).1, (g3 k q).2]
    exact a k (by omega)
theorem l_settle2 {N : Nat} {J : MJ} {I0 : MI} : ∀ (m r : Nat) (I : MI) (ri : Bool), 50 ≤ m + r → r ≤ 49 → L2I I0 J r ri I → V 17 (39, [some (aR 31), some (aI (b2 ri)), some (aI (r : Int))], [], MM N I J) (fun r M' => ∃ ok I', r = some (aI (b2 ok)) ∧ M' = MM N I' J ∧ ∃ r, L2I I0 J r (!ok) I' ∧ (ok = true ∨ 48 < r) ∧ r ≤ 49) := by
  intro m
  induction m with
  | zero => intro r I ri h1 h2; exfalso; omega
  | succ m ih =>
    intro r I ri h1 h2 hi
    refine V.blk [(39, .iload 1, 1), (40, .ifCond .eq 60, 3)] (ps := []) (z' := (brc .eq (b2 ri) 0 60 43, [some (aR 31), some (aI (b2 ri)), some (aI (r : Int))], [], MM N I J)) (by decide +kernel) rfl trivial ?_
    refine V.eq (fun h1 => ?_) (fun h2 => ?_)
    · skip
      try simp only [b2_cast, b2_ncast, Classical.not_not, lcm_lt, lcm_ge, lcm_gt, lcm_le, lcm_eq, b2_0, b2_n0, Bool.not_eq_false] at h1
      refine V.blk [(60, .iload 1, 1), (61, .ifCond .ne 68, 3)] (ps := []) (z' := (brc .ne (b2 ri) 0 68 64, [some (aR 31), some (aI (b2 ri)), some (aI (r : Int))], [], MM N I J)) (by decide +kernel) rfl trivial ?_
      refine V.ne (fun h3 => ?_) (fun h4 => ?_)
      · skip
        try simp only [b2_cast, b2_ncast, Classical.not_not, lcm_lt, lcm_ge, lcm_gt, lcm_le, lcm_eq, b2_0, b2_n0, Bool.not_eq_false] at h3
        refine V.blk [(68, .bipush 0, 1)] (ps := []) (z' := (69, [some (aR 31), some (aI (b2 ri)), some (aI (r : Int))], [aI 0], MM N I J)) (by decide +kernel) rfl trivial ?_
        refine V.rz (by decide +kernel) (by first | exact b2_in _ | omega) ?_
        first
          | (have hf : ri = false := by assumption
             subst hf
             exact ⟨true, I, rfl, rfl, r, hi, Or.inl rfl, by omega⟩)
          | (have ht : ri = true := by assumption
             subst ht
             exact ⟨false, I, rfl, rfl, r, hi, Or.inr (by omega), by omega⟩)
          | (exfalso; cases ri <;> simp_all)
      · skip
        try simp only [b2_cast, b2_ncast, Classical.not_not, lcm_lt, lcm_ge, lcm_gt, lcm_le, lcm_eq, b2_0, b2_n0, Bool.not_eq_false] at h4
        refine V.blk [(64, .bipush 1, 1), (65, .goto 69, 3)] (ps := []) (z' := (69, [some (aR 31), some (aI (b2 ri)), some (aI (r : Int))], [aI 1], MM N I J)) (by decide +kernel) rfl trivial ?_
        refine V.rz (by decide +kernel) (by first | exact b2_in _ | omega) ?_
        first
          | (have hf : ri = false := by assumption
             subst hf
             exact ⟨true, I, rfl, rfl, r, hi, Or.inl rfl, by omega⟩)
          | (have ht : ri = true := by assumption
             subst ht
             exact ⟨false, I, rfl, rfl, r, hi, Or.inr (by omega), by omega⟩)
          | (exfalso; cases ri <;> simp_all)
    · skip
      try simp only [b2_cast, b2_ncast, Classical.not_not, lcm_lt, lcm_ge, lcm_gt, lcm_le, lcm_eq, b2_0, b2_n0, Bool.not_eq_false] at h2
      have hri : ri = true := by assumption
      have hi2 : L2I I0 J r true I := by rw [← hri]; exact hi
      refine V.blk [(43, .iload 2, 1), (44, .bipush 48, 2), (46, .if_icmp .gt 60, 3)] (ps := []) (z' := (brc .gt (r : Int) 48 60 49, [some (aR 31), some (aI (b2 ri)), some (aI (r : Int))], [], MM N I J)) (by decide +kernel) rfl trivial ?_
      refine V.gt (fun h5 => ?_) (fun h6 => ?_)
      · skip
        try simp only [b2_cast, b2_ncast, Classical.not_not, lcm_lt, lcm_ge, lcm_gt, lcm_le, lcm_eq, b2_0, b2_n0, Bool.not_eq_false] at h5
        refine V.blk [(60, .iload 1, 1), (61, .ifCond .ne 68, 3)] (ps := []) (z' := (brc .ne (b2 ri) 0 68 64, [some (aR 31), some (aI (b2 ri)), some (aI (r : Int))], [], MM N I J)) (by decide +kernel) rfl trivial ?_
        refine V.ne (fun h7 => ?_) (fun h8 => ?_)
        · skip
          try simp only [b2_cast, b2_ncast, Classical.not_not, lcm_lt, lcm_ge, lcm_gt, lcm_le, lcm_eq, b2_0, b2_n0, Bool.not_eq_false] at h7
          refine V.blk [(68, .bipush 0, 1)] (ps := []) (z' := (69, [some (aR 31), some (aI (b2 ri)), some (aI (r : Int))], [aI 0], MM N I J)) (by decide +kernel) rfl trivial ?_
          refine V.rz (by decide +kernel) (by first | exact b2_in _ | omega) ?_
          first
            | (have hf : ri = false := by assumption
               subst hf
               exact ⟨true, I, rfl, rfl, r, hi, Or.inl rfl, by omega⟩)
            | (have ht : ri = true := by assumption
               subst ht
               exact ⟨false, I, rfl, rfl, r, hi, Or.inr (by omega), by omega⟩)
            | (exfalso; cases ri <;> simp_all)
        · skip
          try simp only [b2_cast, b2_ncast, Classical.not_not, lcm_lt, lcm_ge, lcm_gt, lcm_le, lcm_eq, b2_0, b2_n0, Bool.not_eq_false] at h8
          refine V.blk [(64, .bipush 1, 1), (65, .goto 69, 3)] (ps := []) (z' := (69, [some (aR 31), some (aI (b2 ri)), some (aI (r : Int))], [aI 1], MM N I J)) (by decide +kernel) rfl trivial ?_
          refine V.rz (by decide +kernel) (by first | exact b2_in _ | omega) ?_
          first
            | (have hf : ri = false := by assumption
               subst hf
               exact ⟨true, I, rfl, rfl, r, hi, Or.inl rfl, by omega⟩)
            | (have ht : ri = true := by assumption
               subst ht
               exact ⟨false, I, rfl, rfl, r, hi, Or.inr (by omega), by omega⟩)
            | (exfalso; cases ri <;> simp_all)
      · skip
        try simp only [b2_cast, b2_ncast, Classical.not_not, lcm_lt, lcm_ge, lcm_gt, lcm_le, lcm_eq, b2_0, b2_n0, Bool.not_eq_false] at h6
        refine V.blk [(49, .aload 0, 1)] (ps := []) (z' := (50, [some (aR 31), some (aI (b2 ri)), some (aI (r : Int))], [aR 31], MM N I J)) (by decide +kernel) rfl trivial ?_
        refine V.cv (c := 21) (na := 1) (o := 2) (a := 31) [] [] (by decide +kernel) rfl rfl rfl rfl rfl ((c_raise (B := 48 * r) (hi.2.2.1 hri).1.1 (by omega) (fun k hk => ⟨by have := hi.1 k hk; have := hi.2.1; omega, hi.1 k hk⟩) hi.2.1).mono (fun rv M1 q => ?_))
        obtain ⟨ro, IR9, rfl, rfl, hR9⟩ := q
        show V 17 (53, [some (aR 31), some (aI (b2 ri)), some (aI (r : Int))], [aI (b2 ro)], MM N IR9 J) _
        refine V.blk [(53, .istore 1, 1), (54, .iinc 2 1, 3), (57, .goto 39, 3)] (ps := [inR ((r : Int) + 1)]) (z' := (39, [some (aR 31), some (aI (b2 ro)), some (aI ((r + 1 : Nat) : Int))], [], MM N IR9 J)) (by decide +kernel) rfl (show (inR ((r : Int) + 1)) from (by unfold inR; omega)) ?_
        exact ih (r + 1) _ ro (by omega) (by omega) (hi2.step (by omega) hR9)
theorem l_settle1 {N : Nat} {I : MI} {J : MJ} (hm : 0 ≤ I 10 9 ∧ I 10 9 ≤ 400) (hk : kdOK I) (hs : spOK I (I 10 9).toNat) (hr : rtOK I) (h7 : ∀ n, n < 48 → -1 ≤ I 7 n ∧ I 7 n < 64) : ∀ (m n : Nat) (I' : MI) (J' : MJ), 49 ≤ m + n → n ≤ 48 → LdI I J n I' J' → V 17 (6, [some (aR 31), some (aI (n : Int)), none], [], MM N I' J') (fun r M' => ∃ ok I' J', r = some (aI (b2 ok)) ∧ M' = MM N I' J' ∧ SetR I J I' J' ok) := by
  intro m
  induction m with
  | zero => intro n I' J' h1 h2; exfalso; omega
  | succ m ih =>
    intro n I' J' h1 h2 hi
    have e7 : I' 7 = I 7 := hi.2.1 7 (by decide)
    have hrt : rtOK I' := by
      unfold rtOK
      rw [hi.2.1 4 (by decide), hi.2.1 5 (by decide), hi.2.1 6 (by decide)]
      exact hr
    refine V.blk [(6, .iload 1, 1), (7, .bipush 48, 2), (9, .if_icmp .ge 30, 3)] (ps := []) (z' := (brc .ge (n : Int) 48 30 12, [some (aR 31), some (aI (n : Int)), none], [], MM N I' J')) (by decide +kernel) rfl trivial ?_
    refine V.ge (fun h1 => ?_) (fun h2 => ?_)
    · skip
      refine V.blk [(30, .aload 0, 1), (31, .bipush 0, 1), (32, .putfield 2007, 3), (35, .bipush 1, 1), (36, .istore 1, 1), (37, .bipush 0, 1), (38, .istore 2, 1)] (ps := []) (z' := (39, [some (aR 31), some (aI 1), some (aI 0)], [], MM N (ma I' 31 (ma (I' 31) 7 0)) J')) (by decide +kernel) rfl trivial ?_
      refine V.nI (fun I3 eI3 => ?_)
      have e48 : n = 48 := by omega
      subst e48
      have hI0 : L2I (ma I 31 (ma (I 31) 7 0)) J' 0 true I3 := by
        refine ⟨fun k hk => ?_, ?_, fun _ => ⟨Rnd.zero fun k hk => ?_, fun q => by omega⟩, (fun q => by cases q), fun i h1 h2 => ?_, fun k hk => ?_⟩
        · rw [eI3, ma_self, ma_self, ma_ne _ _ (show (35 : Nat) ≠ 31 by decide), (hi.1 k hk).1]
          exact Int.le_refl _
        · rw [eI3, ma_self, ma_self]
          exact Int.le_refl _
        · rw [eI3, ma_ne _ _ (show (35 : Nat) ≠ 31 by decide), (hi.1 k hk).1]
        · rw [eI3, ma_ne _ _ h2, ma_ne _ _ h2, hi.2.1 i h1]
        · rw [eI3, ma_self, ma_self, ma_ne _ _ hk, ma_ne _ _ hk, hi.2.1 31 (by decide)]
      refine (l_settle2 50 0 I3 true (by omega) (by omega) hI0).mono (fun r M' q => ?_)
      obtain ⟨ok, I2, rfl, rfl, r, q1, q2, q3⟩ := q
      obtain ⟨a, b, c, d, e, f⟩ := q1
      have hc : ∀ n m, n < 48 → m < 48 → (eA J' n m ↔ EJ I J n m) ∧ (eT J' n m ↔ ET I J n m) := fun n m hn hm => (hi.1 n hn).2 m (by omega)
      refine ⟨ok, I2, J', rfl, rfl, ⟨fun g => ?_, fun g => ?_⟩, fun g => ?_, fun i h1 h2 => ?_, fun k hk => ?_, hi.2.2.2⟩
      · have lv := d (by rw [g]; rfl)
        exact ⟨I2 35, (stab_congr hc).mp lv.1, lv.2.1⟩
      · cases ok with
        | true => rfl
        | false =>
          exfalso
          obtain ⟨z, z1, z2⟩ := g
          rcases q2 with q2 | q2
          · cases q2
          · exact (c rfl).2 q2 ⟨z, (stab_congr hc).mpr z1, z2⟩
      · refine ⟨LevOK_congr hc (d (by rw [g]; rfl)), a, by omega⟩
      · rw [e i h1 h2, ma_ne _ _ h2]
      · rw [f k hk, ma_self, ma_ne _ _ hk]
    · skip
      refine V.blk [(12, .aload 0, 1), (13, .iload 1, 1)] (ps := []) (z' := (14, [some (aR 31), some (aI (n : Int)), none], [aI (n : Int), aR 31], MM N I' J')) (by decide +kernel) rfl trivial ?_
      refine V.cv (c := 19) (na := 2) (o := 2) (a := 31) [aI (n : Int)] [] (by decide +kernel) rfl rfl rfl rfl rfl ((c_findLeads (by omega) (by rw [e7]; exact h7 n (by omega)) hrt).mono (fun rv M1 q => ?_))
      obtain ⟨rfl, JF4, rfl, g1, g2, g3, g4⟩ := q
      show V 17 (17, [some (aR 31), some (aI (n : Int)), none], [], MM N I' JF4) _
      refine V.blk [(17, .aload 0, 1), (18, .getfield 2006, 3), (21, .iload 1, 1), (22, .bipush 0, 1), (23, .iastore, 1), (24, .iinc 1 1, 3), (27, .goto 6, 3)] (ps := [0 ≤ (n : Int) ∧ (n : Int) < 48, inR ((n : Int) + 1)]) (z' := (6, [some (aR 31), some (aI ((n + 1 : Nat) : Int)), none], [], MM N (ma I' 35 (ma (I' 35) n 0)) JF4)) (by decide +kernel) rfl (show (0 ≤ (n : Int) ∧ (n : Int) < 48) ∧ (inR ((n : Int) + 1)) from ⟨(by omega), (by unfold inR; omega)⟩) ?_
      refine V.nI (fun I5 eI5 => ?_)
      refine ih (n + 1) _ _ (by omega) (by omega) (hi.step (by omega) g1 g2 g3 g4 ?_ ?_)
      · rw [eI5, ma_self]
      · intro i hh
        rw [eI5, ma_ne _ _ hh]
theorem c_settle {N : Nat} {I : MI} {J : MJ} (hm : 0 ≤ I 10 9 ∧ I 10 9 ≤ 400) (hk : kdOK I) (hs : spOK I (I 10 9).toNat) (hr : rtOK I) (h7 : ∀ n, n < 48 → -1 ≤ I 7 n ∧ I 7 n < 64) : CT 17 [aR 31] (MM N I J) (fun r M' => ∃ ok I' J', r = some (aI (b2 ok)) ∧ M' = MM N I' J' ∧ SetR I J I' J' ok) := by
  refine CT.ofV (n := 3) (ls := [some (aR 31), none, none]) rfl rfl rfl ?_
  refine V.blk [(0, .aload 0, 1)] (ps := []) (z' := (1, [some (aR 31), none, none], [aR 31], MM N I J)) (by decide +kernel) rfl trivial ?_
  refine V.cv (c := 18) (na := 1) (o := 2) (a := 31) [] [] (by decide +kernel) rfl rfl rfl rfl rfl ((c_findClubs (m := (I 10 9).toNat) (by omega) (by omega) hk hs).mono (fun rv M1 q => ?_))
  obtain ⟨rfl, JF1, rfl, g1, g2⟩ := q
  show V 17 (4, [some (aR 31), none, none], [], MM N I JF1) _
  refine V.blk [(4, .bipush 0, 1), (5, .istore 1, 1)] (ps := []) (z' := (6, [some (aR 31), some (aI 0), none], [], MM N I JF1)) (by decide +kernel) rfl trivial ?_
  exact l_settle1 hm hk hs hr h7 49 0 I JF1 (by omega) (by omega) ⟨fun k hk => by omega, fun _ _ => rfl, g1, fun i h1 h2 h3 => g2 i h1⟩
