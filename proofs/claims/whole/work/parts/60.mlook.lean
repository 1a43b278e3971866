/-! ===== the reference: layers, sets, look ===== -/
def LyI (A T : ED) (v : Nat → Int) (e : Nat) (w : Nat → Int) : Prop := (∀ n, n < 48 → v n ≤ w n) ∧ (∀ q, q < e → (A (q / 48) (q % 48) → v (q % 48) ≤ w (q / 48)) ∧ (T (q / 48) (q % 48) → v (q % 48) + 1 ≤ w (q / 48))) ∧ ∀ z, stab A T z → nng z → (∀ n, n < 48 → v n ≤ z n) → ∀ n, n < 48 → w n ≤ z n
theorem LyI.pg {A T : ED} {v w : Nat → Int} (h : LyI A T v 2304 w) : Pg A T v w := by
  refine ⟨h.1, fun n m hn hm => ?_, h.2.2⟩
  have q := h.2.1 (48 * n + m) (by omega)
  rw [show (48 * n + m) / 48 = n by omega, show (48 * n + m) % 48 = m by omega] at q
  exact q
theorem LyI.keep {A T : ED} {v w : Nat → Int} {e : Nat} (h : LyI A T v e w) (he : e < 2304) (h1 : A (e / 48) (e % 48) → w (e % 48) ≤ w (e / 48)) (h2 : T (e / 48) (e % 48) → w (e % 48) + 1 ≤ w (e / 48)) : LyI A T v (e + 1) w := by
  refine ⟨h.1, fun q hq => ?_, h.2.2⟩
  by_cases c : q = e
  · subst c
    have := h.1 (q % 48) (by omega)
    exact ⟨fun x => Int.le_trans this (h1 x), fun x => by have := h2 x; omega⟩
  · exact h.2.1 q (by omega)
theorem LyI.put {A T : ED} {v w : Nat → Int} {e : Nat} {x : Int} (h : LyI A T v e w) (he : e < 2304) (hA : A (e / 48) (e % 48)) (hx : (¬ T (e / 48) (e % 48) ∧ x = w (e % 48)) ∨ (T (e / 48) (e % 48) ∧ x = w (e % 48) + 1)) (hlt : w (e / 48) < x) : LyI A T v (e + 1) (ma w (e / 48) x) := by
  have up : ∀ n, w n ≤ ma w (e / 48) x n := fun n => by
    by_cases c : n = e / 48
    · rw [c, ma_self]; omega
    · rw [ma_ne _ _ c]; exact Int.le_refl _
  refine ⟨fun n hn => Int.le_trans (h.1 n hn) (up n), fun q hq => ?_, fun z hz hn hv n hn48 => ?_⟩
  · by_cases c : q = e
    · subst c
      have := h.1 (q % 48) (by omega)
      rw [ma_self]
      refine ⟨fun _ => by omega, fun t => ?_⟩
      rcases hx with ⟨a, -⟩ | ⟨-, b⟩
      · exact absurd t a
      · omega
    · have g := h.2.1 q (by omega)
      have u := up (q / 48)
      exact ⟨fun a => Int.le_trans (g.1 a) u, fun a => Int.le_trans (g.2 a) u⟩
  · have hw := h.2.2 z hz hn hv
    by_cases c : n = e / 48
    · rw [c, ma_self]
      have s := hz (e / 48) (e % 48) (by omega) (by omega)
      have := hw (e % 48) (by omega)
      rcases hx with ⟨-, b⟩ | ⟨a, b⟩
      · have := s.1 hA; omega
      · have := s.2 a; omega
    · rw [ma_ne _ _ c]; exact hw n hn48
theorem l_ly1 {N : Nat} {I : MI} {J : MJ} {A T : ED} (h78 : ∀ q, q < 2304 → (I 78 q ≠ 0 ↔ A (q / 48) (q % 48))) (h79 : ∀ q, q < 2304 → (I 79 q ≠ 0 ↔ T (q / 48) (q % 48))) (hTA : ∀ a b, T a b → A a b) {u : Nat → Int} (hu : stab A T u) (hun : nng u) (hub : ∀ n, n < 48 → u n < 48) {v : Nat → Int} {r : Nat} {Q : Option AV → M5 → Prop} (hv0 : nng v) (hvu : ∀ n, n < 48 → v n ≤ u n) (cont : ∀ (w2 w3 : Option AV) (I' : MI), (∀ i, i ≠ 86 → I' i = I i) → Pg A T v (I' 86) → V 163 (105, [some (aR 52), some (aI (r : Int)), w2, w3], [], MM N I' J) Q) : ∀ (k e : Nat) (I' : MI) (w3 : Option AV), 2305 ≤ k + e → e ≤ 2304 → (∀ i, i ≠ 86 → I' i = I i) → LyI A T v e (I' 86) → V 163 (35, [some (aR 52), some (aI (r : Int)), some (aI (e : Int)), w3], [], MM N I' J) Q := by
  intro k
  induction k with
  | zero => intro e I' w3 h1 h2; exfalso; omega
  | succ k ih =>
    intro e I' w3 h1 h2 ho hI
    have e78 : I' 78 = I 78 := ho 78 (by decide)
    have e79 : I' 79 = I 79 := ho 79 (by decide)
    have hw := hI.2.2 u hu hun hvu
    refine V.blk [(35, .iload 2, 1), (36, .bipush 2304, 3), (39, .if_icmp .ge 105, 3)] (ps := []) (z' := (brc .ge (e : Int) 2304 105 42, [some (aR 52), some (aI (r : Int)), some (aI (e : Int)), w3], [], MM N I' J)) (by decide +kernel) rfl trivial ?_
    refine V.ge (fun bh1 => ?_) (fun bh2 => ?_)
    · skip
      try simp only [b2_cast, b2_ncast, Classical.not_not, lcm_lt, lcm_ge, lcm_gt, lcm_le, lcm_eq] at bh1
      have e9 : e = 2304 := by omega
      subst e9
      exact cont _ _ I' ho hI.pg
    · skip
      try simp only [b2_cast, b2_ncast, Classical.not_not, lcm_lt, lcm_ge, lcm_gt, lcm_le, lcm_eq] at bh2
      have he : e < 2304 := by omega
      have b1 := hw (e % 48) (by omega)
      have b2 := hub (e % 48) (by omega)
      have b3 := hI.1 (e % 48) (by omega)
      have b4 := hv0 (e % 48) (by omega)
      have t8 := h78 e he
      have t9 := h79 e he
      rw [← e78] at t8
      rw [← e79] at t9
      refine V.blk [(42, .aload 0, 1), (43, .getfield 10047, 3), (46, .iload 2, 1), (47, .bipush 48, 2), (49, .irem, 1), (50, .iaload, 1), (51, .aload 0, 1), (52, .getfield 10034, 3), (55, .iload 2, 1), (56, .baload, 1), (57, .ifCond .eq 64, 3)] (ps := [0 ≤ (e : Int) ∧ 0 < 48, 0 ≤ ((e % 48 : Nat) : Int) ∧ ((e % 48 : Nat) : Int) < 48, 0 ≤ (e : Int) ∧ (e : Int) < 2304]) (z' := (brc .eq (I' 79 e) 0 64 60, [some (aR 52), some (aI (r : Int)), some (aI (e : Int)), w3], [aI (I' 86 (e % 48))], MM N I' J)) (by decide +kernel) rfl (show (0 ≤ (e : Int) ∧ 0 < 48) ∧ (0 ≤ ((e % 48 : Nat) : Int) ∧ ((e % 48 : Nat) : Int) < 48) ∧ (0 ≤ (e : Int) ∧ (e : Int) < 2304) from ⟨(by omega), (by omega), (by omega)⟩) ?_
      refine V.eq (fun bh3 => ?_) (fun bh4 => ?_)
      · skip
        try simp only [b2_cast, b2_ncast, Classical.not_not, lcm_lt, lcm_ge, lcm_gt, lcm_le, lcm_eq] at bh3
        refine V.blk [(64, .bipush 0, 1), (65, .iadd, 1), (66, .istore 3, 1), (67, .aload 0, 1), (68, .getfield 10033, 3), (71, .iload 2, 1), (72, .baload, 1), (73, .ifCond .eq 99, 3)] (ps := [inR ((I' 86 (e % 48)) + 0), 0 ≤ (e : Int) ∧ (e : Int) < 2304]) (z' := (brc .eq (I' 78 e) 0 99 76, [some (aR 52), some (aI (r : Int)), some (aI (e : Int)), some (aI ((I' 86 (e % 48)) + 0))], [], MM N I' J)) (by decide +kernel) rfl (show (inR ((I' 86 (e % 48)) + 0)) ∧ (0 ≤ (e : Int) ∧ (e : Int) < 2304) from ⟨(by unfold inR; omega), (by omega)⟩) ?_
        refine V.eq (fun bh5 => ?_) (fun bh6 => ?_)
        · skip
          try simp only [b2_cast, b2_ncast, Classical.not_not, lcm_lt, lcm_ge, lcm_gt, lcm_le, lcm_eq] at bh5
          refine V.blk [(99, .iinc 2 1, 3), (102, .goto 35, 3)] (ps := [inR ((e : Int) + 1)]) (z' := (35, [some (aR 52), some (aI (r : Int)), some (aI ((e + 1 : Nat) : Int)), some (aI ((I' 86 (e % 48)) + 0))], [], MM N I' J)) (by decide +kernel) rfl (show (inR ((e : Int) + 1)) from (by unfold inR; omega)) ?_
          refine ih (e + 1) I' _ (by omega) (by omega) ho (hI.keep he (fun a => ?_) (fun a => ?_))
          · have := t8.mpr a
            first
              | omega
              | (exfalso; exact this (by assumption))
          · have x8 := t8.mpr (hTA _ _ a)
            have x9 := t9.mpr a
            first
              | omega
              | (exfalso; exact x8 (by assumption))
              | (exfalso; exact x9 (by assumption))
        · skip
          try simp only [b2_cast, b2_ncast, Classical.not_not, lcm_lt, lcm_ge, lcm_gt, lcm_le, lcm_eq] at bh6
          refine V.blk [(76, .aload 0, 1), (77, .getfield 10047, 3), (80, .iload 2, 1), (81, .bipush 48, 2), (83, .idiv, 1), (84, .iaload, 1), (85, .iload 3, 1), (86, .if_icmp .ge 99, 3)] (ps := [0 ≤ (e : Int) ∧ 0 < 48, 0 ≤ ((e / 48 : Nat) : Int) ∧ ((e / 48 : Nat) : Int) < 48]) (z' := (brc .ge (I' 86 (e / 48)) ((I' 86 (e % 48)) + 0) 99 89, [some (aR 52), some (aI (r : Int)), some (aI (e : Int)), some (aI ((I' 86 (e % 48)) + 0))], [], MM N I' J)) (by decide +kernel) rfl (show (0 ≤ (e : Int) ∧ 0 < 48) ∧ (0 ≤ ((e / 48 : Nat) : Int) ∧ ((e / 48 : Nat) : Int) < 48) from ⟨(by omega), (by omega)⟩) ?_
          refine V.ge (fun bh7 => ?_) (fun bh8 => ?_)
          · skip
            try simp only [b2_cast, b2_ncast, Classical.not_not, lcm_lt, lcm_ge, lcm_gt, lcm_le, lcm_eq] at bh7
            refine V.blk [(99, .iinc 2 1, 3), (102, .goto 35, 3)] (ps := [inR ((e : Int) + 1)]) (z' := (35, [some (aR 52), some (aI (r : Int)), some (aI ((e + 1 : Nat) : Int)), some (aI ((I' 86 (e % 48)) + 0))], [], MM N I' J)) (by decide +kernel) rfl (show (inR ((e : Int) + 1)) from (by unfold inR; omega)) ?_
            refine ih (e + 1) I' _ (by omega) (by omega) ho (hI.keep he (fun a => ?_) (fun a => ?_))
            · have := t8.mpr a
              first
                | omega
                | (exfalso; exact this (by assumption))
            · have x8 := t8.mpr (hTA _ _ a)
              have x9 := t9.mpr a
              first
                | omega
                | (exfalso; exact x8 (by assumption))
                | (exfalso; exact x9 (by assumption))
          · skip
            try simp only [b2_cast, b2_ncast, Classical.not_not, lcm_lt, lcm_ge, lcm_gt, lcm_le, lcm_eq] at bh8
            refine V.blk [(89, .aload 0, 1), (90, .getfield 10047, 3), (93, .iload 2, 1), (94, .bipush 48, 2), (96, .idiv, 1), (97, .iload 3, 1), (98, .iastore, 1), (99, .iinc 2 1, 3), (102, .goto 35, 3)] (ps := [0 ≤ (e : Int) ∧ 0 < 48, 0 ≤ ((e / 48 : Nat) : Int) ∧ ((e / 48 : Nat) : Int) < 48, inR ((e : Int) + 1)]) (z' := (35, [some (aR 52), some (aI (r : Int)), some (aI ((e + 1 : Nat) : Int)), some (aI ((I' 86 (e % 48)) + 0))], [], MM N (ma I' 86 (ma (I' 86) (e / 48) ((I' 86 (e % 48)) + 0))) J)) (by decide +kernel) rfl (show (0 ≤ (e : Int) ∧ 0 < 48) ∧ (0 ≤ ((e / 48 : Nat) : Int) ∧ ((e / 48 : Nat) : Int) < 48) ∧ (inR ((e : Int) + 1)) from ⟨(by omega), (by omega), (by unfold inR; omega)⟩) ?_
            refine V.nI (fun I9 eI9 => ?_)
            have hTc := Classical.em (T (e / 48) (e % 48))
            refine ih (e + 1) I9 _ (by omega) (by omega) (fun i a => by rw [eI9, ma_ne _ _ a]; exact ho i a) ?_
            rw [eI9, ma_self]
            refine hI.put he (t8.mp (by assumption)) ?_ ?_
            · first
                | exact Or.inr ⟨t9.mp (by assumption), by omega⟩
                | (refine Or.inl ⟨fun a => ?_, by omega⟩
                   exact (t9.mpr a) (by assumption))
            · omega
      · skip
        try simp only [b2_cast, b2_ncast, Classical.not_not, lcm_lt, lcm_ge, lcm_gt, lcm_le, lcm_eq] at bh4
        refine V.blk [(60, .bipush 1, 1), (61, .goto 65, 3), (65, .iadd, 1), (66, .istore 3, 1), (67, .aload 0, 1), (68, .getfield 10033, 3), (71, .iload 2, 1), (72, .baload, 1), (73, .ifCond .eq 99, 3)] (ps := [inR ((I' 86 (e % 48)) + 1), 0 ≤ (e : Int) ∧ (e : Int) < 2304]) (z' := (brc .eq (I' 78 e) 0 99 76, [some (aR 52), some (aI (r : Int)), some (aI (e : Int)), some (aI ((I' 86 (e % 48)) + 1))], [], MM N I' J)) (by decide +kernel) rfl (show (inR ((I' 86 (e % 48)) + 1)) ∧ (0 ≤ (e : Int) ∧ (e : Int) < 2304) from ⟨(by unfold inR; omega), (by omega)⟩) ?_
        refine V.eq (fun bh10 => ?_) (fun bh11 => ?_)
        · skip
          try simp only [b2_cast, b2_ncast, Classical.not_not, lcm_lt, lcm_ge, lcm_gt, lcm_le, lcm_eq] at bh10
          refine V.blk [(99, .iinc 2 1, 3), (102, .goto 35, 3)] (ps := [inR ((e : Int) + 1)]) (z' := (35, [some (aR 52), some (aI (r : Int)), some (aI ((e + 1 : Nat) : Int)), some (aI ((I' 86 (e % 48)) + 1))], [], MM N I' J)) (by decide +kernel) rfl (show (inR ((e : Int) + 1)) from (by unfold inR; omega)) ?_
          refine ih (e + 1) I' _ (by omega) (by omega) ho (hI.keep he (fun a => ?_) (fun a => ?_))
          · have := t8.mpr a
            first
              | omega
              | (exfalso; exact this (by assumption))
          · have x8 := t8.mpr (hTA _ _ a)
            have x9 := t9.mpr a
            first
              | omega
              | (exfalso; exact x8 (by assumption))
              | (exfalso; exact x9 (by assumption))
        · skip
          try simp only [b2_cast, b2_ncast, Classical.not_not, lcm_lt, lcm_ge, lcm_gt, lcm_le, lcm_eq] at bh11
          refine V.blk [(76, .aload 0, 1), (77, .getfield 10047, 3), (80, .iload 2, 1), (81, .bipush 48, 2), (83, .idiv, 1), (84, .iaload, 1), (85, .iload 3, 1), (86, .if_icmp .ge 99, 3)] (ps := [0 ≤ (e : Int) ∧ 0 < 48, 0 ≤ ((e / 48 : Nat) : Int) ∧ ((e / 48 : Nat) : Int) < 48]) (z' := (brc .ge (I' 86 (e / 48)) ((I' 86 (e % 48)) + 1) 99 89, [some (aR 52), some (aI (r : Int)), some (aI (e : Int)), some (aI ((I' 86 (e % 48)) + 1))], [], MM N I' J)) (by decide +kernel) rfl (show (0 ≤ (e : Int) ∧ 0 < 48) ∧ (0 ≤ ((e / 48 : Nat) : Int) ∧ ((e / 48 : Nat) : Int) < 48) from ⟨(by omega), (by omega)⟩) ?_
          refine V.ge (fun bh12 => ?_) (fun bh13 => ?_)
          · skip
            try simp only [b2_cast, b2_ncast, Classical.not_not, lcm_lt, lcm_ge, lcm_gt, lcm_le, lcm_eq] at bh12
            refine V.blk [(99, .iinc 2 1, 3), (102, .goto 35, 3)] (ps := [inR ((e : Int) + 1)]) (z' := (35, [some (aR 52), some (aI (r : Int)), some (aI ((e + 1 : Nat) : Int)), some (aI ((I' 86 (e % 48)) + 1))], [], MM N I' J)) (by decide +kernel) rfl (show (inR ((e : Int) + 1)) from (by unfold inR; omega)) ?_
            refine ih (e + 1) I' _ (by omega) (by omega) ho (hI.keep he (fun a => ?_) (fun a => ?_))
            · have := t8.mpr a
              first
                | omega
                | (exfalso; exact this (by assumption))
            · have x8 := t8.mpr (hTA _ _ a)
              have x9 := t9.mpr a
              first
                | omega
                | (exfalso; exact x8 (by assumption))
                | (exfalso; exact x9 (by assumption))
          · skip
            try simp only [b2_cast, b2_ncast, Classical.not_not, lcm_lt, lcm_ge, lcm_gt, lcm_le, lcm_eq] at bh13
            refine V.blk [(89, .aload 0, 1), (90, .getfield 10047, 3), (93, .iload 2, 1), (94, .bipush 48, 2), (96, .idiv, 1), (97, .iload 3, 1), (98, .iastore, 1), (99, .iinc 2 1, 3), (102, .goto 35, 3)] (ps := [0 ≤ (e : Int) ∧ 0 < 48, 0 ≤ ((e / 48 : Nat) : Int) ∧ ((e / 48 : Nat) : Int) < 48, inR ((e : Int) + 1)]) (z' := (35, [some (aR 52), some (aI (r : Int)), some (aI ((e + 1 : Nat) : Int)), some (aI ((I' 86 (e % 48)) + 1))], [], MM N (ma I' 86 (ma (I' 86) (e / 48) ((I' 86 (e % 48)) + 1))) J)) (by decide +kernel) rfl (show (0 ≤ (e : Int) ∧ 0 < 48) ∧ (0 ≤ ((e / 48 : Nat) : Int) ∧ ((e / 48 : Nat) : Int) < 48) ∧ (inR ((e : Int) + 1)) from ⟨(by omega), (by omega), (by unfold inR; omega)⟩) ?_
            refine V.nI (fun I14 eI14 => ?_)
            have hTc := Classical.em (T (e / 48) (e % 48))
            refine ih (e + 1) I14 _ (by omega) (by omega) (fun i a => by rw [eI14, ma_ne _ _ a]; exact ho i a) ?_
            rw [eI14, ma_self]
            refine hI.put he (t8.mp (by assumption)) ?_ ?_
            · first
                | exact Or.inr ⟨t9.mp (by assumption), by omega⟩
                | (refine Or.inl ⟨fun a => ?_, by omega⟩
                   exact (t9.mpr a) (by assumption))
            · omega
theorem l_ly2 {N : Nat} {I : MI} {J : MJ} {A T : ED} (h78 : ∀ q, q < 2304 → (I 78 q ≠ 0 ↔ A (q / 48) (q % 48))) (h79 : ∀ q, q < 2304 → (I 79 q ≠ 0 ↔ T (q / 48) (q % 48))) (hTA : ∀ a b, T a b → A a b) {u : Nat → Int} (hu : stab A T u) (hun : nng u) (hub : ∀ n, n < 48 → u n < 48) : ∀ (k r : Nat) (I' : MI) (w2 w3 : Option AV), 50 ≤ k + r → r ≤ 49 → (∀ i, i ≠ 86 → I' i = I i) → Rnd A T r (I' 86) → (∀ n, n < 48 → I' 86 n ≤ u n) → V 163 (27, [some (aR 52), some (aI (r : Int)), w2, w3], [], MM N I' J) (fun rv M' => rv = none ∧ ∃ I', M' = MM N I' J ∧ (∀ i, i ≠ 86 → I' i = I i) ∧ LevOK A T (I' 86)) := by
  intro k
  induction k with
  | zero => intro r I' w2 w3 h1 h2; exfalso; omega
  | succ k ih =>
    intro r I' w2 w3 h1 h2 ho hR hle
    refine V.blk [(27, .iload 1, 1), (28, .bipush 48, 2), (30, .if_icmp .gt 111, 3)] (ps := []) (z' := (brc .gt (r : Int) 48 111 33, [some (aR 52), some (aI (r : Int)), w2, w3], [], MM N I' J)) (by decide +kernel) rfl trivial ?_
    refine V.gt (fun bh1 => ?_) (fun bh2 => ?_)
    · skip
      try simp only [b2_cast, b2_ncast, Classical.not_not, lcm_lt, lcm_ge, lcm_gt, lcm_le, lcm_eq] at bh1
      refine V.rv (by decide +kernel) ?_
      exact ⟨rfl, I', rfl, ho, hR.done (by omega) ⟨u, hu, hun⟩⟩
    · skip
      try simp only [b2_cast, b2_ncast, Classical.not_not, lcm_lt, lcm_ge, lcm_gt, lcm_le, lcm_eq] at bh2
      refine V.blk [(33, .bipush 0, 1), (34, .istore 2, 1)] (ps := []) (z' := (35, [some (aR 52), some (aI (r : Int)), some (aI 0), w3], [], MM N I' J)) (by decide +kernel) rfl trivial ?_
      refine l_ly1 (N := N) (J := J) (I := I') (by rw [ho 78 (by decide)]; exact h78) (by rw [ho 79 (by decide)]; exact h79) hTA hu hun hub (v := I' 86) hR.1 hle (fun v2 v3 I2 f2 hP => ?_) 2305 0 I' _ (by omega) (by omega) (fun _ _ => rfl) ⟨fun _ _ => Int.le_refl _, fun q hq => by omega, fun z _ _ hz => hz⟩
      refine V.blk [(105, .iinc 1 1, 3), (108, .goto 27, 3)] (ps := [inR ((r : Int) + 1)]) (z' := (27, [some (aR 52), some (aI ((r + 1 : Nat) : Int)), v2, v3], [], MM N I2 J)) (by decide +kernel) rfl (show (inR ((r : Int) + 1)) from (by unfold inR; omega)) ?_
      exact ih (r + 1) I2 _ _ (by omega) (by omega) (fun i a => (f2 i a).trans (ho i a)) (hR.step hP) (hP.2.2 u hu hun hle)
theorem l_ly0 {N : Nat} {I : MI} {J : MJ} {A T : ED} (h78 : ∀ q, q < 2304 → (I 78 q ≠ 0 ↔ A (q / 48) (q % 48))) (h79 : ∀ q, q < 2304 → (I 79 q ≠ 0 ↔ T (q / 48) (q % 48))) (hTA : ∀ a b, T a b → A a b) {u : Nat → Int} (hu : stab A T u) (hun : nng u) (hub : ∀ n, n < 48 → u n < 48) : ∀ (k n : Nat) (I' : MI), 49 ≤ k + n → n ≤ 48 → (∀ i, i ≠ 86 → I' i = I i) → (∀ q, q < n → I' 86 q = 0) → V 163 (6, [some (aR 52), some (aI (n : Int)), none, none], [], MM N I' J) (fun rv M' => rv = none ∧ ∃ I', M' = MM N I' J ∧ (∀ i, i ≠ 86 → I' i = I i) ∧ LevOK A T (I' 86)) := by
  intro k
  induction k with
  | zero => intro n I' h1 h2; exfalso; omega
  | succ k ih =>
    intro n I' h1 h2 ho hz
    refine V.blk [(6, .iload 1, 1), (7, .bipush 48, 2), (9, .if_icmp .ge 25, 3)] (ps := []) (z' := (brc .ge (n : Int) 48 25 12, [some (aR 52), some (aI (n : Int)), none, none], [], MM N I' J)) (by decide +kernel) rfl trivial ?_
    refine V.ge (fun bh1 => ?_) (fun bh2 => ?_)
    · skip
      try simp only [b2_cast, b2_ncast, Classical.not_not, lcm_lt, lcm_ge, lcm_gt, lcm_le, lcm_eq] at bh1
      refine V.blk [(25, .bipush 0, 1), (26, .istore 1, 1)] (ps := []) (z' := (27, [some (aR 52), some (aI 0), none, none], [], MM N I' J)) (by decide +kernel) rfl trivial ?_
      refine (l_ly2 (N := N) (J := J) (I := I') (by rw [ho 78 (by decide)]; exact h78) (by rw [ho 79 (by decide)]; exact h79) hTA hu hun hub 50 0 I' none none (by omega) (by omega) (fun _ _ => rfl) (Rnd.zero fun q hq => hz q (by omega)) (fun q hq => by rw [hz q (by omega)]; exact hun q hq)).mono (fun rv M2 q => ?_)
      obtain ⟨rfl, I9, rfl, g1, g2⟩ := q
      exact ⟨rfl, I9, rfl, fun i a => (g1 i a).trans (ho i a), g2⟩
    · skip
      try simp only [b2_cast, b2_ncast, Classical.not_not, lcm_lt, lcm_ge, lcm_gt, lcm_le, lcm_eq] at bh2
      refine V.blk [(12, .aload 0, 1), (13, .getfield 10047, 3), (16, .iload 1, 1), (17, .bipush 0, 1), (18, .iastore, 1), (19, .iinc 1 1, 3), (22, .goto 6, 3)] (ps := [0 ≤ (n : Int) ∧ (n : Int) < 48, inR ((n : Int) + 1)]) (z' := (6, [some (aR 52), some (aI ((n + 1 : Nat) : Int)), none, none], [], MM N (ma I' 86 (ma (I' 86) n 0)) J)) (by decide +kernel) rfl (show (0 ≤ (n : Int) ∧ (n : Int) < 48) ∧ (inR ((n : Int) + 1)) from ⟨(by omega), (by unfold inR; omega)⟩) ?_
      refine V.nI (fun I3 eI3 => ?_)
      refine ih (n + 1) I3 (by omega) (by omega) (fun i a => by rw [eI3, ma_ne _ _ a]; exact ho i a) (fun q hq => ?_)
      rw [eI3, ma_self]
      by_cases c : q = n
      · subst c; rw [ma_self]
      · rw [ma_ne _ _ c]; exact hz q (by omega)
theorem m_findLayers {N : Nat} {I : MI} {J : MJ} {K : MI} {L : MJ} (hE : EdH K L I) (h37 : I 52 37 = 0) (hr : ¬ ringF K L) : CT 163 [aR 52] (MM N I J) (fun rv M' => rv = none ∧ ∃ I', M' = MM N I' J ∧ (∀ i, i ≠ 78 → i ≠ 79 → i ≠ 80 → i ≠ 81 → i ≠ 86 → I' i = I i) ∧ ∀ k, k < 48 → I' 86 k = lv K L k) := by
  have hcb : ∀ n i, n < 48 → i < 48 → (cbX K (I 52 37) n i ↔ clB K (K 10 9).toNat n i) := fun n i _ _ => by rw [h37]; exact cbX_0 hE.2.2.2.1
  have hlv := lv_ring hr
  have hst : stab (EX8 K L (cbX K (I 52 37))) (EX9 K L (cbX K (I 52 37))) (lv K L) := (stab_ex hcb).mpr hlv.1
  have hTA : ∀ a b, EX9 K L (cbX K (I 52 37)) a b → EX8 K L (cbX K (I 52 37)) a b := fun a b t => by
    obtain ⟨p, t1, t2, t3⟩ := t
    exact ⟨p, t1, askd_or.mpr (Or.inr t2), t3⟩
  refine CT.ofV (n := 4) (ls := [some (aR 52), none, none, none]) rfl rfl rfl ?_
  refine V.blk [(0, .aload 0, 1)] (ps := []) (z' := (1, [some (aR 52), none, none, none], [aR 52], MM N I J)) (by decide +kernel) rfl trivial ?_
  refine V.cv (c := 130) (na := 1) (o := 10) (a := 52) [] [] (by decide +kernel) rfl rfl rfl rfl rfl ((m_findEdges hE).mono (fun rv M1 q => ?_))
  obtain ⟨rfl, IE, rfl, f1, f2⟩ := q
  show V 163 (4, [some (aR 52), none, none, none], [], MM N IE J) _
  refine V.blk [(4, .bipush 0, 1), (5, .istore 1, 1)] (ps := []) (z' := (6, [some (aR 52), some (aI 0), none, none], [], MM N IE J)) (by decide +kernel) rfl trivial ?_
  refine (l_ly0 (N := N) (J := J) (I := IE) (A := EX8 K L (cbX K (I 52 37))) (T := EX9 K L (cbX K (I 52 37))) (fun q hq => ?_) (fun q hq => ?_) hTA hst hlv.2.1 (fun n hn => (hlv.lt n hn).2) 49 0 IE (by omega) (by omega) (fun _ _ => rfl) (fun q hq => by omega)).mono (fun rv M2 q => ?_)
  · have := (f2 (q / 48) (q % 48) (by omega) (by omega)).1
    rw [show 48 * (q / 48) + q % 48 = q by omega] at this
    exact this
  · have := (f2 (q / 48) (q % 48) (by omega) (by omega)).2
    rw [show 48 * (q / 48) + q % 48 = q by omega] at this
    exact this
  · obtain ⟨rfl, I9, rfl, g1, g2⟩ := q
    refine ⟨rfl, I9, rfl, fun i a b c d e => (g1 i e).trans (f1 i a b c d), ?_⟩
    refine lv_eq (K := K) (L := L) ⟨(stab_ex hcb).mp g2.1, g2.2.1, fun z hz hn => g2.2.2 z ((stab_ex hcb).mpr hz) hn⟩
theorem ex_same {K : MI} {cp : Nat → Bool} {lev : Nat → Int} {l : Int} {v : SV} {s : Nat} {ro : Bool} (h : ro = true ↔ ∃ r, r < s ∧ swF K cp lev l s v r ≠ v r) (e1 : swF K cp lev l (s + 1) v = swF K cp lev l s v) : ro = true ↔ ∃ r, r < s + 1 ∧ swF K cp lev l (s + 1) v r ≠ v r := by
  rw [h, e1]
  constructor
  · intro w
    obtain ⟨r, a, b⟩ := w
    exact ⟨r, by omega, b⟩
  · intro w
    obtain ⟨r, a, b⟩ := w
    by_cases c : r = s
    · exact absurd (swF_out s r (Or.inl (by omega))) b
    · exact ⟨r, by omega, b⟩
def Z0 (K : MI) (v : SV) : Prop := ∀ s, s < 320 → K 7 (kS K s) = -1 → v s = Int64.ofInt 0
theorem Z0.sw {K : MI} {cp : Nat → Bool} {lev : Nat → Int} {l : Int} {v : SV} (h : Z0 K v) : ∀ n, Z0 K (swF K cp lev l n v)
  | 0 => h
  | n + 1 => by
    have i := Z0.sw (cp := cp) (lev := lev) (l := l) h n
    unfold swF
    split
    · intro s hs hr
      by_cases c : s = n
      · subst c
        rw [ma_self]
        unfold tellV
        rw [if_pos hr]
      · rw [ma_ne _ _ c]; exact i s hs hr
    · exact i
def FlG (K : MI) (L : MJ) (cp : Nat → Bool) (l : Int) (r : Nat) (gr : Bool) (v0 v : SV) : Prop := (∃ k, v = itr K cp (lv K L) l k v0) ∧ P40 v ∧ (gr = true → Sw K L cp l r v) ∧ (gr = false → swp K cp (lv K L) l v = v) ∧ Z0 K v
theorem FlG.next {K : MI} {L : MJ} {cp : Nat → Bool} {l : Int} {r : Nat} {v0 v v2 : SV} {ro : Bool} (hS : ScP K L) (h : FlG K L cp l r true v0 v) (h1 : v2 = swp K cp (lv K L) l v) (h2 : ro = true ↔ swp K cp (lv K L) l v ≠ v) : FlG K L cp l (r + 1) ro v0 v2 := by
  obtain ⟨⟨k, a⟩, b, c, d, e⟩ := h
  have c := c rfl
  have hn : (K 1 1 * 8).toNat ≤ 320 := by have := hS.2.2.2.1.1; omega
  refine ⟨⟨k + 1, by rw [h1, a]; rfl⟩, by rw [h1]; exact swF_40 hS b _ hn, fun g => ?_, fun g => ?_, by rw [h1]; exact e.sw _⟩
  · rw [h1]; exact c.step hS (h2.mp g)
  · have : swp K cp (lv K L) l v = v := by
      apply Classical.byContradiction
      intro w
      have := h2.mpr w
      rw [g] at this
      cases this
    rw [h1, this, this]
theorem FlG.fin {K : MI} {L : MJ} {cp : Nat → Bool} {l : Int} {r : Nat} {v0 v : SV} (h : FlG K L cp l r false v0 v) (hb : Bt K L cp l v0) : Fill K cp (lv K L) l v0 v ∧ Bt K L cp (l + 1) v := by
  obtain ⟨⟨k, a⟩, b, c, d, e⟩ := h
  refine ⟨⟨k, a, d rfl⟩, ?_⟩
  rw [a] at b ⊢
  exact hb.next b
theorem vw_put {J : MJ} {s : Nat} {x : Int64} (h : s < 320) : vw (ma J 83 (ma (J 83) s x) 83) = ma (vw (J 83)) s x := by rw [ma_self, vw_ma h]
theorem l_mgrow {N : Nat} {I : MI} {J : MJ} {K : MI} {L : MJ} {cp : Nat → Bool} {l : Nat} {t : Int} (hH : SH K L cp I) (hv : ∀ k, k < 48 → I 86 k = lv K L k) {Q : Option AV → M5 → Prop} (hz : Z0 K (vw (J 83))) (cont : ∀ (ro : Bool) (w4 w5 w6 : Option AV) (I' : MI) (J' : MJ), (∀ i, i ≠ 80 → i ≠ 81 → I' i = I i) → (∀ i, i ≠ 83 → i ≠ 85 → J' i = J i) → vw (J' 83) = swp K cp (lv K L) l (vw (J 83)) → (ro = true ↔ swp K cp (lv K L) l (vw (J 83)) ≠ vw (J 83)) → V 170 (41, [some (aR 52), some (aI t), some (aI (l : Int)), some (aI (b2 ro)), w4, w5, w6], [], MM N I' J') Q) : ∀ (k s : Nat) (ro : Bool) (w5 w6 : Option AV) (I' : MI) (J' : MJ), 322 ≤ k + s → (s : Int) ≤ K 1 1 * 8 → (∀ i, i ≠ 80 → i ≠ 81 → I' i = I i) → (∀ i, i ≠ 83 → i ≠ 85 → J' i = J i) → vw (J' 83) = swF K cp (lv K L) l s (vw (J 83)) → (ro = true ↔ ∃ r, r < s ∧ swF K cp (lv K L) l s (vw (J 83)) r ≠ vw (J 83) r) → V 170 (50, [some (aR 52), some (aI t), some (aI (l : Int)), some (aI (b2 ro)), some (aI (s : Int)), w5, w6], [], MM N I' J') Q := by
  intro k
  induction k with
  | zero => intro s ro w5 w6 I' J' h1 h2; have := hH.1.1.2.1; exfalso; omega
  | succ k ih =>
    intro s ro w5 w6 I' J' h1 h2 ho hj hw hro
    have h40 := hH.1.1.2.1
    have h40b := hH.1.1.1
    have hkd := hH.1.1.2.2
    have hH2 : SH K L cp I' := hH.keep fun i hi => ho i (by omega) (by omega)
    have hT := hH2.1.2.2.2.2.2.2.1
    have e1 : I' 52 1 = K 1 1 := hT.1
    have h58 := hH2.1.2.2.2.2.2.2.2.1.2
    have h7 := hH.2.1.2.2.2.2.2.1
    have e86 : I' 86 = I 86 := ho 86 (by decide) (by decide)
    refine V.blk [(50, .iload 4, 2), (52, .bipush 8, 2), (54, .aload 0, 1), (55, .getfield 10001, 3), (58, .imul, 1), (59, .if_icmp .ge 140, 3)] (ps := [inR (8 * (I' 52 1))]) (z' := (brc .ge (s : Int) (8 * (I' 52 1)) 140 62, [some (aR 52), some (aI t), some (aI (l : Int)), some (aI (b2 ro)), some (aI (s : Int)), w5, w6], [], MM N I' J')) (by decide +kernel) rfl (show (inR (8 * (I' 52 1))) from (by unfold inR; omega)) ?_
    refine V.ge (fun bh1 => ?_) (fun bh2 => ?_)
    · skip
      try simp only [b2_cast, b2_ncast, Classical.not_not, lcm_lt, lcm_ge, lcm_gt, lcm_le, lcm_eq, b2_0, b2_n0, b2_e1, b2_e0, Bool.not_eq_false, Bool.not_eq_true, decide_eq_true_eq, decide_eq_false_iff_not, Classical.not_not, lcm_eq] at bh1
      refine V.blk [(140, .goto 41, 3)] (ps := []) (z' := (41, [some (aR 52), some (aI t), some (aI (l : Int)), some (aI (b2 ro)), some (aI (s : Int)), w5, w6], [], MM N I' J')) (by decide +kernel) rfl trivial ?_
      have e : (K 1 1 * 8).toNat = s := by omega
      refine cont ro _ _ _ I' J' ho hj ?_ ?_
      · unfold swp
        rw [e]
        exact hw
      · unfold swp
        rw [e, hro]
        constructor
        · intro w q
          obtain ⟨r, a, b⟩ := w
          rw [q] at b
          exact b rfl
        · intro w
          apply Classical.byContradiction
          intro q
          apply w
          funext r
          by_cases c : r < s
          · exact Classical.byContradiction fun z => q ⟨r, c, z⟩
          · exact swF_out s r (Or.inl (by omega))
    · skip
      try simp only [b2_cast, b2_ncast, Classical.not_not, lcm_lt, lcm_ge, lcm_gt, lcm_le, lcm_eq, b2_0, b2_n0, b2_e1, b2_e0, Bool.not_eq_false, Bool.not_eq_true, decide_eq_true_eq, decide_eq_false_iff_not, Classical.not_not, lcm_eq] at bh2
      have hs8 : (s : Int) < K 1 1 * 8 := by omega
      have hs3 : s < 320 := by omega
      have hks := kS_lt hkd hs3
      have h58s := h58 (kS K s) hks
      have h7s := h7 (kS K s) hks
      have hvs := hv (kS K s) hks
      refine V.blk [(62, .aload 0, 1), (63, .getfield 10006, 3), (66, .aload 0, 1), (67, .iload 4, 2)] (ps := []) (z' := (69, [some (aR 52), some (aI t), some (aI (l : Int)), some (aI (b2 ro)), some (aI (s : Int)), w5, w6], [aI (s : Int), aR 52, aR 58], MM N I' J')) (by decide +kernel) rfl trivial ?_
      refine V.cv (c := 168) (na := 2) (o := 10) (a := 52) [aI (s : Int)] [aR 58] (by decide +kernel) rfl rfl rfl rfl rfl (V.pr (m_nodeOf (K := K) hT hkd (by omega) (by omega)) ?_)
      show V 170 (72, [some (aR 52), some (aI t), some (aI (l : Int)), some (aI (b2 ro)), some (aI (s : Int)), w5, w6], [aI ((kS K s : Nat) : Int), aR 58], MM N I' J') _
      refine V.blk [(72, .iaload, 1), (73, .ifCond .lt 134, 3)] (ps := [0 ≤ ((kS K s : Nat) : Int) ∧ ((kS K s : Nat) : Int) < 48]) (z' := (brc .lt (I' 58 (kS K s)) 0 134 76, [some (aR 52), some (aI t), some (aI (l : Int)), some (aI (b2 ro)), some (aI (s : Int)), w5, w6], [], MM N I' J')) (by decide +kernel) rfl (show (0 ≤ ((kS K s : Nat) : Int) ∧ ((kS K s : Nat) : Int) < 48) from (by omega)) ?_
      refine V.lt (fun bh3 => ?_) (fun bh4 => ?_)
      · skip
        try simp only [b2_cast, b2_ncast, Classical.not_not, lcm_lt, lcm_ge, lcm_gt, lcm_le, lcm_eq, b2_0, b2_n0, b2_e1, b2_e0, Bool.not_eq_false, Bool.not_eq_true, decide_eq_true_eq, decide_eq_false_iff_not, Classical.not_not, lcm_eq] at bh3
        refine V.blk [(134, .iinc 4 1, 3), (137, .goto 50, 3)] (ps := [inR ((s : Int) + 1)]) (z' := (50, [some (aR 52), some (aI t), some (aI (l : Int)), some (aI (b2 ro)), some (aI ((s + 1 : Nat) : Int)), w5, w6], [], MM N I' J')) (by decide +kernel) rfl (show (inR ((s : Int) + 1)) from (by unfold inR; omega)) ?_
        have esame : swF K cp (lv K L) l (s + 1) (vw (J 83)) = swF K cp (lv K L) l s (vw (J 83)) := by
          by_cases c : lv K L (kS K s) = l
          · have hr : K 7 (kS K s) = -1 := by
              first
                | omega
                | (exfalso; rw [e86] at *; omega)
            rw [swF, if_pos c]
            have ht : tellV K cp (swF K cp (lv K L) l s (vw (J 83))) s = Int64.ofInt 0 := by unfold tellV; rw [if_pos hr]
            rw [ht, ← hz s hs3 hr, ← swF_out (K := K) (cp := cp) (lev := lv K L) (l := l) (v := vw (J 83)) s s (Or.inl (Nat.le_refl _)), ma_id]
          · rw [swF, if_neg c]
        exact ih (s + 1) ro _ _ I' J' (by omega) (by omega) ho hj (by rw [esame]; exact hw) (ex_same hro esame)
      · skip
        try simp only [b2_cast, b2_ncast, Classical.not_not, lcm_lt, lcm_ge, lcm_gt, lcm_le, lcm_eq, b2_0, b2_n0, b2_e1, b2_e0, Bool.not_eq_false, Bool.not_eq_true, decide_eq_true_eq, decide_eq_false_iff_not, Classical.not_not, lcm_eq] at bh4
        refine V.blk [(76, .aload 0, 1), (77, .getfield 10047, 3), (80, .aload 0, 1), (81, .iload 4, 2)] (ps := []) (z' := (83, [some (aR 52), some (aI t), some (aI (l : Int)), some (aI (b2 ro)), some (aI (s : Int)), w5, w6], [aI (s : Int), aR 52, aR 86], MM N I' J')) (by decide +kernel) rfl trivial ?_
        refine V.cv (c := 168) (na := 2) (o := 10) (a := 52) [aI (s : Int)] [aR 86] (by decide +kernel) rfl rfl rfl rfl rfl (V.pr (m_nodeOf (K := K) hT hkd (by omega) (by omega)) ?_)
        show V 170 (86, [some (aR 52), some (aI t), some (aI (l : Int)), some (aI (b2 ro)), some (aI (s : Int)), w5, w6], [aI ((kS K s : Nat) : Int), aR 86], MM N I' J') _
        refine V.blk [(86, .iaload, 1), (87, .iload 2, 1), (88, .if_icmp .eq 94, 3)] (ps := [0 ≤ ((kS K s : Nat) : Int) ∧ ((kS K s : Nat) : Int) < 48]) (z' := (brc .eq (I' 86 (kS K s)) (l : Int) 94 91, [some (aR 52), some (aI t), some (aI (l : Int)), some (aI (b2 ro)), some (aI (s : Int)), w5, w6], [], MM N I' J')) (by decide +kernel) rfl (show (0 ≤ ((kS K s : Nat) : Int) ∧ ((kS K s : Nat) : Int) < 48) from (by omega)) ?_
        refine V.eq (fun bh5 => ?_) (fun bh6 => ?_)
        · skip
          try simp only [b2_cast, b2_ncast, Classical.not_not, lcm_lt, lcm_ge, lcm_gt, lcm_le, lcm_eq, b2_0, b2_n0, b2_e1, b2_e0, Bool.not_eq_false, Bool.not_eq_true, decide_eq_true_eq, decide_eq_false_iff_not, Classical.not_not, lcm_eq] at bh5
          refine V.blk [(94, .aload 0, 1), (95, .iload 4, 2)] (ps := []) (z' := (97, [some (aR 52), some (aI t), some (aI (l : Int)), some (aI (b2 ro)), some (aI (s : Int)), w5, w6], [aI (s : Int), aR 52], MM N I' J')) (by decide +kernel) rfl trivial ?_
          refine V.cv (c := 169) (na := 2) (o := 10) (a := 52) [aI (s : Int)] [] (by decide +kernel) rfl rfl rfl rfl rfl ((m_asked (r := (K 7 (kS K s)).toNat) hH2 hs8 (by omega) (by omega)).mono (fun rv M1 q => ?_))
          obtain ⟨IK, JK, rfl, rfl, a1, -, a3, -⟩ := q
          show V 170 (100, [some (aR 52), some (aI t), some (aI (l : Int)), some (aI (b2 ro)), some (aI (s : Int)), w5, w6], [aL (tellV K cp (J' 83) s)], MM N IK JK) _
          refine V.blk [(100, .lstore 5, 2), (102, .iload 3, 1), (103, .ifCond .ne 119, 3)] (ps := []) (z' := (brc .ne (b2 ro) 0 119 106, [some (aR 52), some (aI t), some (aI (l : Int)), some (aI (b2 ro)), some (aI (s : Int)), some (aL (tellV K cp (J' 83) s)), none], [], MM N IK JK)) (by decide +kernel) rfl trivial ?_
          refine V.ne (fun bh7 => ?_) (fun bh8 => ?_)
          · skip
            try simp only [b2_cast, b2_ncast, Classical.not_not, lcm_lt, lcm_ge, lcm_gt, lcm_le, lcm_eq, b2_0, b2_n0, b2_e1, b2_e0, Bool.not_eq_false, Bool.not_eq_true, decide_eq_true_eq, decide_eq_false_iff_not, Classical.not_not, lcm_eq] at bh7
            refine V.blk [(119, .bipush 1, 1), (120, .goto 124, 3), (124, .istore 3, 1), (125, .aload 0, 1), (126, .getfield 10044, 3), (129, .iload 4, 2), (131, .lload 5, 2), (133, .lastore, 1), (134, .iinc 4 1, 3), (137, .goto 50, 3)] (ps := [0 ≤ (s : Int) ∧ (s : Int) < 320, inR ((s : Int) + 1)]) (z' := (50, [some (aR 52), some (aI t), some (aI (l : Int)), some (aI 1), some (aI ((s + 1 : Nat) : Int)), some (aL (tellV K cp (J' 83) s)), none], [], MM N IK (ma JK 83 (ma (JK 83) s (tellV K cp (J' 83) s))))) (by decide +kernel) rfl (show (0 ≤ (s : Int) ∧ (s : Int) < 320) ∧ (inR ((s : Int) + 1)) from ⟨(by omega), (by unfold inR; omega)⟩) ?_
            refine V.nJ (fun J9 eJ9 => ?_)
            have hlev : lv K L (kS K s) = l := by
              rw [← hvs, ← e86]
              omega
            have et : tellV K cp (J' 83) s = tellV K cp (swF K cp (lv K L) l s (vw (J 83))) s := by rw [tellV_vw hH.2.1 hs3, hw]
            have e83 : JK 83 = J' 83 := a3 83 (by decide)
            have e39 : J' 83 s = swF K cp (lv K L) l s (vw (J 83)) s := by rw [← hw, vw_lt hs3]
            refine ih (s + 1) true _ _ IK J9 (by omega) (by omega) (fun i a b => (a1 i a b).trans (ho i a b)) (fun i a b => by rw [eJ9, ma_ne _ _ a, a3 i b]; exact hj i a b) ?_ (ex_put hro hlev ?_)
            · rw [eJ9, vw_put hs3, e83, hw, et, swF, if_pos hlev]
            · rw [← et, ← e39]
              have e83s : JK 83 s = J' 83 s := by rw [e83]
              first
                | exact ⟨fun _ => Or.inl (by assumption), fun _ => rfl⟩
                | exact ⟨fun _ => Or.inr (by rw [← e83s]; assumption), fun _ => rfl⟩
          · skip
            try simp only [b2_cast, b2_ncast, Classical.not_not, lcm_lt, lcm_ge, lcm_gt, lcm_le, lcm_eq, b2_0, b2_n0, b2_e1, b2_e0, Bool.not_eq_false, Bool.not_eq_true, decide_eq_true_eq, decide_eq_false_iff_not, Classical.not_not, lcm_eq] at bh8
            refine V.blk [(106, .lload 5, 2), (108, .aload 0, 1), (109, .getfield 10044, 3), (112, .iload 4, 2), (114, .laload, 1), (115, .lcmp, 1), (116, .ifCond .eq 123, 3)] (ps := [0 ≤ (s : Int) ∧ (s : Int) < 320]) (z' := (brc .eq (lcm (tellV K cp (J' 83) s) (JK 83 s)) 0 123 119, [some (aR 52), some (aI t), some (aI (l : Int)), some (aI (b2 ro)), some (aI (s : Int)), some (aL (tellV K cp (J' 83) s)), none], [], MM N IK JK)) (by decide +kernel) rfl (show (0 ≤ (s : Int) ∧ (s : Int) < 320) from (by omega)) ?_
            refine V.eq (fun bh10 => ?_) (fun bh11 => ?_)
            · skip
              try simp only [b2_cast, b2_ncast, Classical.not_not, lcm_lt, lcm_ge, lcm_gt, lcm_le, lcm_eq, b2_0, b2_n0, b2_e1, b2_e0, Bool.not_eq_false, Bool.not_eq_true, decide_eq_true_eq, decide_eq_false_iff_not, Classical.not_not, lcm_eq] at bh10
              refine V.blk [(123, .bipush 0, 1), (124, .istore 3, 1), (125, .aload 0, 1), (126, .getfield 10044, 3), (129, .iload 4, 2), (131, .lload 5, 2), (133, .lastore, 1), (134, .iinc 4 1, 3), (137, .goto 50, 3)] (ps := [0 ≤ (s : Int) ∧ (s : Int) < 320, inR ((s : Int) + 1)]) (z' := (50, [some (aR 52), some (aI t), some (aI (l : Int)), some (aI 0), some (aI ((s + 1 : Nat) : Int)), some (aL (tellV K cp (J' 83) s)), none], [], MM N IK (ma JK 83 (ma (JK 83) s (tellV K cp (J' 83) s))))) (by decide +kernel) rfl (show (0 ≤ (s : Int) ∧ (s : Int) < 320) ∧ (inR ((s : Int) + 1)) from ⟨(by omega), (by unfold inR; omega)⟩) ?_
              refine V.nJ (fun J12 eJ12 => ?_)
              have hlev : lv K L (kS K s) = l := by
                rw [← hvs, ← e86]
                omega
              have et : tellV K cp (J' 83) s = tellV K cp (swF K cp (lv K L) l s (vw (J 83))) s := by rw [tellV_vw hH.2.1 hs3, hw]
              have e83 : JK 83 = J' 83 := a3 83 (by decide)
              have e39 : J' 83 s = swF K cp (lv K L) l s (vw (J 83)) s := by rw [← hw, vw_lt hs3]
              refine ih (s + 1) false _ _ IK J12 (by omega) (by omega) (fun i a b => (a1 i a b).trans (ho i a b)) (fun i a b => by rw [eJ12, ma_ne _ _ a, a3 i b]; exact hj i a b) ?_ (ex_put hro hlev ?_)
              · rw [eJ12, vw_put hs3, e83, hw, et, swF, if_pos hlev]
              · rw [← et, ← e39]
                have e83s : JK 83 s = J' 83 s := by rw [e83]
                refine ⟨(fun w => by cases w), fun w => ?_⟩
                exfalso
                have hrf : ¬ ro = true := by simp_all
                rcases w with w | w
                · exact hrf w
                · rw [← e83s] at w
                  exact w (by assumption)
            · skip
              try simp only [b2_cast, b2_ncast, Classical.not_not, lcm_lt, lcm_ge, lcm_gt, lcm_le, lcm_eq, b2_0, b2_n0, b2_e1, b2_e0, Bool.not_eq_false, Bool.not_eq_true, decide_eq_true_eq, decide_eq_false_iff_not, Classical.not_not, lcm_eq] at bh11
              refine V.blk [(119, .bipush 1, 1), (120, .goto 124, 3), (124, .istore 3, 1), (125, .aload 0, 1), (126, .getfield 10044, 3), (129, .iload 4, 2), (131, .lload 5, 2), (133, .lastore, 1), (134, .iinc 4 1, 3), (137, .goto 50, 3)] (ps := [0 ≤ (s : Int) ∧ (s : Int) < 320, inR ((s : Int) + 1)]) (z' := (50, [some (aR 52), some (aI t), some (aI (l : Int)), some (aI 1), some (aI ((s + 1 : Nat) : Int)), some (aL (tellV K cp (J' 83) s)), none], [], MM N IK (ma JK 83 (ma (JK 83) s (tellV K cp (J' 83) s))))) (by decide +kernel) rfl (show (0 ≤ (s : Int) ∧ (s : Int) < 320) ∧ (inR ((s : Int) + 1)) from ⟨(by omega), (by unfold inR; omega)⟩) ?_
              refine V.nJ (fun J13 eJ13 => ?_)
              have hlev : lv K L (kS K s) = l := by
                rw [← hvs, ← e86]
                omega
              have et : tellV K cp (J' 83) s = tellV K cp (swF K cp (lv K L) l s (vw (J 83))) s := by rw [tellV_vw hH.2.1 hs3, hw]
              have e83 : JK 83 = J' 83 := a3 83 (by decide)
              have e39 : J' 83 s = swF K cp (lv K L) l s (vw (J 83)) s := by rw [← hw, vw_lt hs3]
              refine ih (s + 1) true _ _ IK J13 (by omega) (by omega) (fun i a b => (a1 i a b).trans (ho i a b)) (fun i a b => by rw [eJ13, ma_ne _ _ a, a3 i b]; exact hj i a b) ?_ (ex_put hro hlev ?_)
              · rw [eJ13, vw_put hs3, e83, hw, et, swF, if_pos hlev]
              · rw [← et, ← e39]
                have e83s : JK 83 s = J' 83 s := by rw [e83]
                first
                  | exact ⟨fun _ => Or.inl (by assumption), fun _ => rfl⟩
                  | exact ⟨fun _ => Or.inr (by rw [← e83s]; assumption), fun _ => rfl⟩
        · skip
          try simp only [b2_cast, b2_ncast, Classical.not_not, lcm_lt, lcm_ge, lcm_gt, lcm_le, lcm_eq, b2_0, b2_n0, b2_e1, b2_e0, Bool.not_eq_false, Bool.not_eq_true, decide_eq_true_eq, decide_eq_false_iff_not, Classical.not_not, lcm_eq] at bh6
          refine V.blk [(91, .goto 134, 3), (134, .iinc 4 1, 3), (137, .goto 50, 3)] (ps := [inR ((s : Int) + 1)]) (z' := (50, [some (aR 52), some (aI t), some (aI (l : Int)), some (aI (b2 ro)), some (aI ((s + 1 : Nat) : Int)), w5, w6], [], MM N I' J')) (by decide +kernel) rfl (show (inR ((s : Int) + 1)) from (by unfold inR; omega)) ?_
          have esame : swF K cp (lv K L) l (s + 1) (vw (J 83)) = swF K cp (lv K L) l s (vw (J 83)) := by
            by_cases c : lv K L (kS K s) = l
            · have hr : K 7 (kS K s) = -1 := by
                first
                  | omega
                  | (exfalso; rw [e86] at *; omega)
              rw [swF, if_pos c]
              have ht : tellV K cp (swF K cp (lv K L) l s (vw (J 83))) s = Int64.ofInt 0 := by unfold tellV; rw [if_pos hr]
              rw [ht, ← hz s hs3 hr, ← swF_out (K := K) (cp := cp) (lev := lv K L) (l := l) (v := vw (J 83)) s s (Or.inl (Nat.le_refl _)), ma_id]
            · rw [swF, if_neg c]
          exact ih (s + 1) ro _ _ I' J' (by omega) (by omega) ho hj (by rw [esame]; exact hw) (ex_same hro esame)
theorem l_mfill {N : Nat} {I : MI} {J : MJ} {K : MI} {L : MJ} {cp : Nat → Bool} {l : Nat} {t : Int} (hH : SH K L cp I) (hv : ∀ k, k < 48 → I 86 k = lv K L k) {Q : Option AV → M5 → Prop} (hb : Bt K L cp l (vw (J 83))) (cont : ∀ (w3 w4 w5 w6 : Option AV) (I' : MI) (J' : MJ), (∀ i, i ≠ 80 → i ≠ 81 → I' i = I i) → (∀ i, i ≠ 83 → i ≠ 85 → J' i = J i) → Fill K cp (lv K L) l (vw (J 83)) (vw (J' 83)) → Bt K L cp (l + 1) (vw (J' 83)) → Z0 K (vw (J' 83)) → V 170 (143, [some (aR 52), some (aI t), some (aI (l : Int)), w3, w4, w5, w6], [], MM N I' J') Q) : ∀ (k r : Nat) (gr : Bool) (w4 w5 w6 : Option AV) (I' : MI) (J' : MJ), 12802 ≤ k + r → (∀ i, i ≠ 80 → i ≠ 81 → I' i = I i) → (∀ i, i ≠ 83 → i ≠ 85 → J' i = J i) → FlG K L cp l r gr (vw (J 83)) (vw (J' 83)) → V 170 (41, [some (aR 52), some (aI t), some (aI (l : Int)), some (aI (b2 gr)), w4, w5, w6], [], MM N I' J') Q := by
  intro k
  induction k with
  | zero =>
    intro r gr w4 w5 w6 I' J' h1 ho hj hF
    have hg : gr = false := by
      cases gr with
      | false => rfl
      | true => have := (hF.2.2.1 rfl).few; omega
    subst hg
    obtain ⟨f1, f2⟩ := hF.fin hb
    have hz := hF.2.2.2.2
    refine V.blk [(41, .iload 3, 1), (42, .ifCond .eq 143, 3)] (ps := []) (z' := (brc .eq (b2 false) 0 143 45, [some (aR 52), some (aI t), some (aI (l : Int)), some (aI (b2 false)), w4, w5, w6], [], MM N I' J')) (by decide +kernel) rfl trivial ?_
    refine V.eq (fun bh1 => ?_) (fun bh2 => ?_)
    · skip
      exact cont _ _ _ _ I' J' ho hj f1 f2 hz
    · skip
      exact absurd rfl bh2
  | succ k ih =>
    intro r gr w4 w5 w6 I' J' h1 ho hj hF
    have hH2 : SH K L cp I' := hH.keep fun i hi => ho i (by omega) (by omega)
    have e86 : I' 86 = I 86 := ho 86 (by decide) (by decide)
    refine V.blk [(41, .iload 3, 1), (42, .ifCond .eq 143, 3)] (ps := []) (z' := (brc .eq (b2 gr) 0 143 45, [some (aR 52), some (aI t), some (aI (l : Int)), some (aI (b2 gr)), w4, w5, w6], [], MM N I' J')) (by decide +kernel) rfl trivial ?_
    refine V.eq (fun bh1 => ?_) (fun bh2 => ?_)
    · skip
      try simp only [b2_cast, b2_ncast, Classical.not_not, lcm_lt, lcm_ge, lcm_gt, lcm_le, lcm_eq, b2_0, b2_n0, b2_e1, b2_e0, Bool.not_eq_false, Bool.not_eq_true, decide_eq_true_eq, decide_eq_false_iff_not, Classical.not_not] at bh1
      have hg : gr = false := by assumption
      subst hg
      obtain ⟨f1, f2⟩ := hF.fin hb
      exact cont _ _ _ _ I' J' ho hj f1 f2 hF.2.2.2.2
    · skip
      try simp only [b2_cast, b2_ncast, Classical.not_not, lcm_lt, lcm_ge, lcm_gt, lcm_le, lcm_eq, b2_0, b2_n0, b2_e1, b2_e0, Bool.not_eq_false, Bool.not_eq_true, decide_eq_true_eq, decide_eq_false_iff_not, Classical.not_not] at bh2
      refine V.blk [(45, .bipush 0, 1), (46, .istore 3, 1), (47, .bipush 0, 1), (48, .istore 4, 2)] (ps := []) (z' := (50, [some (aR 52), some (aI t), some (aI (l : Int)), some (aI 0), some (aI 0), w5, w6], [], MM N I' J')) (by decide +kernel) rfl trivial ?_
      have hg : gr = true := by assumption
      subst hg
      refine l_mgrow (N := N) (I := I') (J := J') (K := K) (L := L) (cp := cp) hH2 (by rw [e86]; exact hv) hF.2.2.2.2 (fun ro w4' w5' w6' I2 J2 f1 f2 f3 f4 => ?_) 322 0 false _ _ I' J' (by omega) (by have := hH.1.1.1; omega) (fun _ _ _ => rfl) (fun _ _ _ => rfl) rfl ⟨(fun w => by cases w), (fun w => by obtain ⟨r, a, _⟩ := w; omega)⟩
      exact ih (r + 1) ro _ _ _ I2 J2 (by omega) (fun i a b => (f1 i a b).trans (ho i a b)) (fun i a b => (f2 i a b).trans (hj i a b)) (hF.next hH.2.1 f3 f4)
theorem l_mlev {N : Nat} {I : MI} {J : MJ} {K : MI} {L : MJ} {cp : Nat → Bool} {t : Int} (hH : SH K L cp I) (hv : ∀ k, k < 48 → I 86 k = lv K L k) (hlv : ∀ k, k < 48 → lv K L k < 48) : ∀ (k l : Nat) (w3 w4 w5 w6 : Option AV) (I' : MI) (J' : MJ), 50 ≤ k + l → l ≤ 49 → (∀ i, i ≠ 80 → i ≠ 81 → I' i = I i) → (∀ i, i ≠ 83 → i ≠ 85 → J' i = J i) → SetsR K cp (lv K L) l (vw (J' 83)) → Bt K L cp l (vw (J' 83)) → Z0 K (vw (J' 83)) → V 170 (33, [some (aR 52), some (aI t), some (aI (l : Int)), w3, w4, w5, w6], [], MM N I' J') (fun rv M' => rv = none ∧ ∃ I' J', M' = MM N I' J' ∧ (∀ i, i ≠ 80 → i ≠ 81 → I' i = I i) ∧ (∀ i, i ≠ 83 → i ≠ 85 → J' i = J i) ∧ SETS K L cp (vw (J' 83))) := by
  intro k
  induction k with
  | zero => intro l w3 w4 w5 w6 I' J' h1 h2; exfalso; omega
  | succ k ih =>
    intro l w3 w4 w5 w6 I' J' h1 h2 ho hj hS hb hz
    have hH2 : SH K L cp I' := hH.keep fun i hi => ho i (by omega) (by omega)
    have e86 : I' 86 = I 86 := ho 86 (by decide) (by decide)
    refine V.blk [(33, .iload 2, 1), (34, .bipush 48, 2), (36, .if_icmp .gt 149, 3)] (ps := []) (z' := (brc .gt (l : Int) 48 149 39, [some (aR 52), some (aI t), some (aI (l : Int)), w3, w4, w5, w6], [], MM N I' J')) (by decide +kernel) rfl trivial ?_
    refine V.gt (fun bh1 => ?_) (fun bh2 => ?_)
    · skip
      try simp only [b2_cast, b2_ncast, Classical.not_not, lcm_lt, lcm_ge, lcm_gt, lcm_le, lcm_eq, b2_0, b2_n0, b2_e1, b2_e0, Bool.not_eq_false, Bool.not_eq_true, decide_eq_true_eq, decide_eq_false_iff_not, Classical.not_not] at bh1
      refine V.rv (by decide +kernel) ?_
      have e : l = 49 := by omega
      subst e
      refine ⟨rfl, I', J', rfl, ho, hj, hb.1, 49, fun q hq => ?_, hS⟩
      have := hv q hq
      have hlt : lv K L q < 48 := hlv q hq
      exact Int.lt_trans hlt (by decide)
    · skip
      try simp only [b2_cast, b2_ncast, Classical.not_not, lcm_lt, lcm_ge, lcm_gt, lcm_le, lcm_eq, b2_0, b2_n0, b2_e1, b2_e0, Bool.not_eq_false, Bool.not_eq_true, decide_eq_true_eq, decide_eq_false_iff_not, Classical.not_not] at bh2
      refine V.blk [(39, .bipush 1, 1), (40, .istore 3, 1)] (ps := []) (z' := (41, [some (aR 52), some (aI t), some (aI (l : Int)), some (aI 1), w4, w5, w6], [], MM N I' J')) (by decide +kernel) rfl trivial ?_
      refine l_mfill (N := N) (I := I') (J := J') (K := K) (L := L) (cp := cp) hH2 (by rw [e86]; exact hv) hb (fun v3 v4 v5 v6 I2 J2 f1 f2 f3 f4 f5 => ?_) 12802 0 true _ _ _ I' J' (by omega) (fun _ _ _ => rfl) (fun _ _ _ => rfl) ⟨⟨0, rfl⟩, hb.1, fun _ => hb.sw, (fun w => by cases w), hz⟩
      refine V.blk [(143, .iinc 2 1, 3), (146, .goto 33, 3)] (ps := [inR ((l : Int) + 1)]) (z' := (33, [some (aR 52), some (aI t), some (aI ((l + 1 : Nat) : Int)), v3, v4, v5, v6], [], MM N I2 J2)) (by decide +kernel) rfl (show (inR ((l : Int) + 1)) from (by unfold inR; omega)) ?_
      exact ih (l + 1) _ _ _ _ I2 J2 (by omega) (by omega) (fun i a b => (f1 i a b).trans (ho i a b)) (fun i a b => (f2 i a b).trans (hj i a b)) ⟨_, hS, f3⟩ f4 f5
theorem l_mz {N : Nat} {I : MI} {J : MJ} {K : MI} {L : MJ} {cp : Nat → Bool} {t : Int} (hH : SH K L cp I) (hv : ∀ k, k < 48 → I 86 k = lv K L k) (hlv : ∀ k, k < 48 → lv K L k < 48) : ∀ (k s : Nat) (J' : MJ), 321 ≤ k + s → s ≤ 320 → (∀ i, i ≠ 83 → i ≠ 85 → J' i = J i) → (∀ q, q < s → J' 83 q = Int64.ofInt 0) → V 170 (11, [some (aR 52), some (aI t), some (aI (s : Int)), none, none, none, none], [], MM N I J') (fun rv M' => rv = none ∧ ∃ I' J', M' = MM N I' J' ∧ (∀ i, i ≠ 80 → i ≠ 81 → I' i = I i) ∧ (∀ i, i ≠ 83 → i ≠ 85 → J' i = J i) ∧ SETS K L cp (vw (J' 83))) := by
  intro k
  induction k with
  | zero => intro s J' h1 h2; exfalso; omega
  | succ k ih =>
    intro s J' h1 h2 hj hz
    refine V.blk [(11, .iload 2, 1), (12, .bipush 320, 3), (15, .if_icmp .ge 31, 3)] (ps := []) (z' := (brc .ge (s : Int) 320 31 18, [some (aR 52), some (aI t), some (aI (s : Int)), none, none, none, none], [], MM N I J')) (by decide +kernel) rfl trivial ?_
    refine V.ge (fun bh1 => ?_) (fun bh2 => ?_)
    · skip
      refine V.blk [(31, .bipush 0, 1), (32, .istore 2, 1)] (ps := []) (z' := (33, [some (aR 52), some (aI t), some (aI 0), none, none, none, none], [], MM N I J')) (by decide +kernel) rfl trivial ?_
      have hz0 : vw (J' 83) = v0 := by
        funext q
        unfold vw v0
        split
        · exact hz q (by omega)
        · rfl
      refine (l_mlev (N := N) (I := I) (J := J') hH hv hlv 50 0 none none none none I J' (by omega) (by omega) (fun _ _ _ => rfl) (fun _ _ _ => rfl) hz0 (by rw [hz0]; exact Bt.zero) (fun q hq _ => by rw [hz0]; rfl)).mono (fun rv M2 q => ?_)
      obtain ⟨rfl, I9, J9, rfl, g1, g2, g3⟩ := q
      exact ⟨rfl, I9, J9, rfl, g1, fun i a b => (g2 i a b).trans (hj i a b), g3⟩
    · skip
      refine V.blk [(18, .aload 0, 1), (19, .getfield 10044, 3), (22, .iload 2, 1), (23, .jsr_w 0, 1), (24, .lastore, 1), (25, .iinc 2 1, 3), (28, .goto 11, 3)] (ps := [0 ≤ (s : Int) ∧ (s : Int) < 320, inR ((s : Int) + 1)]) (z' := (11, [some (aR 52), some (aI t), some (aI ((s + 1 : Nat) : Int)), none, none, none, none], [], MM N I (ma J' 83 (ma (J' 83) s (Int64.ofInt 0))))) (by decide +kernel) rfl (show (0 ≤ (s : Int) ∧ (s : Int) < 320) ∧ (inR ((s : Int) + 1)) from ⟨(by omega), (by unfold inR; omega)⟩) ?_
      refine V.nJ (fun J3 eJ3 => ?_)
      refine ih (s + 1) J3 (by omega) (by omega) (fun i a b => by rw [eJ3, ma_ne _ _ a]; exact hj i a b) (fun q hq => ?_)
      rw [eJ3, ma_self]
      by_cases c : q = s
      · subst c; rw [ma_self]
      · rw [ma_ne _ _ c]; exact hz q (by omega)
theorem m_findSets {N : Nat} {I : MI} {J : MJ} {K : MI} {L : MJ} {t : Int} (hX : WX K L) (hA : RA K I) (h37 : I 52 37 = 0) : CT 170 [aR 52, aI t] (MM N I J) (fun rv M' => rv = none ∧ ∃ I' J', M' = MM N I' J' ∧ (∀ i, i ≠ 78 → i ≠ 79 → i ≠ 80 → i ≠ 81 → i ≠ 86 → i ≠ 87 → i ≠ 88 → I' i = I i) ∧ (∀ i, i ≠ 83 → i ≠ 85 → J' i = J i) ∧ SETS K L (cnB K t (K 0 11) (I 52 43)) (vw (J' 83)) ∧ ChR K (cnB K t (K 0 11) (I 52 43)) 0 (K 10 9).toNat I') := by
  have hE := hX.EdH hA
  have hlvr := lv_ring hX.2.2.2.2.2.2.2.2
  refine CT.ofV (n := 7) (ls := [some (aR 52), some (aI t), none, none, none, none, none]) rfl rfl rfl ?_
  refine V.blk [(0, .aload 0, 1)] (ps := []) (z' := (1, [some (aR 52), some (aI t), none, none, none, none, none], [aR 52], MM N I J)) (by decide +kernel) rfl trivial ?_
  refine V.cv (c := 163) (na := 1) (o := 10) (a := 52) [] [] (by decide +kernel) rfl rfl rfl rfl rfl ((m_findLayers hE h37 hX.2.2.2.2.2.2.2.2).mono (fun rv M1 q => ?_))
  obtain ⟨rfl, IY, rfl, y1, y2⟩ := q
  have hEY : EdH K L IY := hE.keep0 fun i hi => y1 i (by omega) (by omega) (by omega) (by omega) (by omega)
  have y52 : IY 52 = I 52 := y1 52 (by decide) (by decide) (by decide) (by decide) (by decide)
  show V 170 (4, [some (aR 52), some (aI t), none, none, none, none, none], [], MM N IY J) _
  refine V.blk [(4, .aload 0, 1), (5, .iload 1, 1)] (ps := []) (z' := (6, [some (aR 52), some (aI t), none, none, none, none, none], [aI t, aR 52], MM N IY J)) (by decide +kernel) rfl trivial ?_
  refine V.cv (c := 162) (na := 2) (o := 10) (a := 52) [aI t] [] (by decide +kernel) rfl rfl rfl rfl rfl ((m_chain (K := K) (m := (K 10 9).toNat) (by have := hE.2.2.2.2.1; omega) (by have := hE.2.2.2.2.1; omega) hEY.2.2.2.2.2.2.2.2.1 (by rw [y52]; exact hA.2.2.2.2.2.1.1) hE.2.2.2.1 hE.1.2.1).mono (fun rv M1 q => ?_))
  obtain ⟨rfl, IC, rfl, c1, c2⟩ := q
  rw [y52] at c2
  have hHC : SH K L (cnB K t (K 0 11) (I 52 43)) IC := ⟨hEY.keep0 fun i hi => c1 i (by omega) (by omega), hX.ScP, c2⟩
  show V 170 (9, [some (aR 52), some (aI t), none, none, none, none, none], [], MM N IC J) _
  refine V.blk [(9, .bipush 0, 1), (10, .istore 2, 1)] (ps := []) (z' := (11, [some (aR 52), some (aI t), some (aI 0), none, none, none, none], [], MM N IC J)) (by decide +kernel) rfl trivial ?_
  refine (l_mz (N := N) (I := IC) (J := J) hHC (fun q hq => by rw [c1 86 (by decide) (by decide)]; exact y2 q hq) (fun q hq => (hlvr.lt q hq).2) 321 0 J (by omega) (by omega) (fun _ _ _ => rfl) (fun q hq => by omega)).mono (fun rv M2 q => ?_)
  obtain ⟨rfl, I9, J9, rfl, g1, g2, g3⟩ := q
  refine ⟨rfl, I9, J9, rfl, fun i a1 a2 a3 a4 a5 a6 a7 => (g1 i a3 a4).trans ((c1 i a6 a7).trans (y1 i a1 a2 a3 a4 a5)), g2, g3, ?_⟩
  unfold ChR
  rw [g1 87 (by decide) (by decide), g1 88 (by decide) (by decide)]
  exact c2
def CA (K : MI) (L : MJ) (I : MI) (J : MJ) : Prop := I 52 41 = I 52 40 → SETS K L (cnB K (I 52 42) (K 0 11) (-1)) (vw (J 83)) ∧ ChR K (cnB K (I 52 42) (K 0 11) (-1)) 0 (K 10 9).toNat I
def MLk (K : MI) (L : MJ) (t : Int) (I : MI) (J : MJ) (I' : MI) (J' : MJ) : Prop := (∀ i, i ≠ 52 → i ≠ 78 → i ≠ 79 → i ≠ 80 → i ≠ 81 → i ≠ 86 → i ≠ 87 → i ≠ 88 → I' i = I i) ∧ (∀ k, k ≠ 41 → k ≠ 42 → I' 52 k = I 52 k) ∧ I' 52 41 = I 52 40 ∧ I' 52 42 = t ∧ (∀ i, i ≠ 83 → i ≠ 85 → J' i = J i) ∧ SETS K L (cnB K t (K 0 11) (-1)) (vw (J' 83)) ∧ ChR K (cnB K t (K 0 11) (-1)) 0 (K 10 9).toNat I'
theorem m_look {N : Nat} {I : MI} {J : MJ} {K : MI} {L : MJ} {t : Int} (hX : WX K L) (hA : RA K I) (hV : Vok I) (hC : CA K L I J) : CT 171 [aR 52, aI t] (MM N I J) (fun rv M' => rv = none ∧ ∃ I' J', M' = MM N I' J' ∧ MLk K L t I J I' J') := by
  obtain ⟨hv1, hv2, hv3, hv4, hv5, hv6⟩ := hV
  refine CT.ofV (n := 2) (ls := [some (aR 52), some (aI t)]) rfl rfl rfl ?_
  refine V.blk [(0, .aload 0, 1), (1, .getfield 10041, 3), (4, .aload 0, 1), (5, .getfield 10040, 3), (8, .if_icmp .ne 20, 3)] (ps := []) (z' := (brc .ne (I 52 41) (I 52 40) 20 11, [some (aR 52), some (aI t)], [], MM N I J)) (by decide +kernel) rfl trivial ?_
  refine V.ne (fun bh1 => ?_) (fun bh2 => ?_)
  · skip
    try simp only [b2_cast, b2_ncast, Classical.not_not, lcm_lt, lcm_ge, lcm_gt, lcm_le, lcm_eq] at bh1
    refine V.blk [(20, .aload 0, 1), (21, .iload 1, 1)] (ps := []) (z' := (22, [some (aR 52), some (aI t)], [aI t, aR 52], MM N I J)) (by decide +kernel) rfl trivial ?_
    refine V.cv (c := 170) (na := 2) (o := 10) (a := 52) [aI t] [] (by decide +kernel) rfl rfl rfl rfl rfl ((m_findSets (t := t) hX hA hv6).mono (fun rv M1 q => ?_))
    obtain ⟨rfl, IS, JS, rfl, s1, s2, s3, s4⟩ := q
    rw [hv5] at s3 s4
    have s52 : IS 52 = I 52 := s1 52 (by decide) (by decide) (by decide) (by decide) (by decide) (by decide) (by decide)
    show V 171 (25, [some (aR 52), some (aI t)], [], MM N IS JS) _
    refine V.blk [(25, .aload 0, 1), (26, .aload 0, 1), (27, .getfield 10040, 3), (30, .putfield 10041, 3), (33, .aload 0, 1), (34, .iload 1, 1), (35, .putfield 10042, 3)] (ps := []) (z' := (38, [some (aR 52), some (aI t)], [], MM N (ma (ma IS 52 (ma (IS 52) 41 (IS 52 40))) 52 (ma ((ma IS 52 (ma (IS 52) 41 (IS 52 40))) 52) 42 t)) JS)) (by decide +kernel) rfl trivial ?_
    refine V.nI (fun I3 eI3 => ?_)
    refine V.rv (by decide +kernel) ?_
    refine ⟨rfl, _, JS, rfl, fun i a0 a1 a2 a3 a4 a5 a6 a7 => ?_, fun k a b => ?_, ?_, ?_, s2, s3, ?_⟩
    · subst_vars
      simp only [ma_ne, ne_eq, a0, not_false_eq_true]
      exact s1 i a1 a2 a3 a4 a5 a6 a7
    · subst_vars
      simp only [ma_self, ma_ne, ne_eq, a, b, not_false_eq_true]
      rw [s52]
    · subst_vars
      simp only [ma_self, ma_ne, ne_eq, reduceCtorEq, not_false_eq_true, Nat.reduceEqDiff]
      rw [s52]
    · subst_vars
      simp only [ma_self, ma_ne, ne_eq, reduceCtorEq, not_false_eq_true, Nat.reduceEqDiff]
    · subst_vars
      unfold ChR
      simp only [ma_ne, ne_eq, reduceCtorEq, not_false_eq_true, Nat.reduceEqDiff]
      exact s4
  · skip
    try simp only [b2_cast, b2_ncast, Classical.not_not, lcm_lt, lcm_ge, lcm_gt, lcm_le, lcm_eq] at bh2
    refine V.blk [(11, .aload 0, 1), (12, .getfield 10042, 3), (15, .iload 1, 1), (16, .if_icmp .ne 20, 3)] (ps := []) (z' := (brc .ne (I 52 42) t 20 19, [some (aR 52), some (aI t)], [], MM N I J)) (by decide +kernel) rfl trivial ?_
    refine V.ne (fun bh4 => ?_) (fun bh5 => ?_)
    · skip
      try simp only [b2_cast, b2_ncast, Classical.not_not, lcm_lt, lcm_ge, lcm_gt, lcm_le, lcm_eq] at bh4
      refine V.blk [(20, .aload 0, 1), (21, .iload 1, 1)] (ps := []) (z' := (22, [some (aR 52), some (aI t)], [aI t, aR 52], MM N I J)) (by decide +kernel) rfl trivial ?_
      refine V.cv (c := 170) (na := 2) (o := 10) (a := 52) [aI t] [] (by decide +kernel) rfl rfl rfl rfl rfl ((m_findSets (t := t) hX hA hv6).mono (fun rv M1 q => ?_))
      obtain ⟨rfl, IS, JS, rfl, s1, s2, s3, s4⟩ := q
      rw [hv5] at s3 s4
      have s52 : IS 52 = I 52 := s1 52 (by decide) (by decide) (by decide) (by decide) (by decide) (by decide) (by decide)
      show V 171 (25, [some (aR 52), some (aI t)], [], MM N IS JS) _
      refine V.blk [(25, .aload 0, 1), (26, .aload 0, 1), (27, .getfield 10040, 3), (30, .putfield 10041, 3), (33, .aload 0, 1), (34, .iload 1, 1), (35, .putfield 10042, 3)] (ps := []) (z' := (38, [some (aR 52), some (aI t)], [], MM N (ma (ma IS 52 (ma (IS 52) 41 (IS 52 40))) 52 (ma ((ma IS 52 (ma (IS 52) 41 (IS 52 40))) 52) 42 t)) JS)) (by decide +kernel) rfl trivial ?_
      refine V.nI (fun I6 eI6 => ?_)
      refine V.rv (by decide +kernel) ?_
      refine ⟨rfl, _, JS, rfl, fun i a0 a1 a2 a3 a4 a5 a6 a7 => ?_, fun k a b => ?_, ?_, ?_, s2, s3, ?_⟩
      · subst_vars
        simp only [ma_ne, ne_eq, a0, not_false_eq_true]
        exact s1 i a1 a2 a3 a4 a5 a6 a7
      · subst_vars
        simp only [ma_self, ma_ne, ne_eq, a, b, not_false_eq_true]
        rw [s52]
      · subst_vars
        simp only [ma_self, ma_ne, ne_eq, reduceCtorEq, not_false_eq_true, Nat.reduceEqDiff]
        rw [s52]
      · subst_vars
        simp only [ma_self, ma_ne, ne_eq, reduceCtorEq, not_false_eq_true, Nat.reduceEqDiff]
      · subst_vars
        unfold ChR
        simp only [ma_ne, ne_eq, reduceCtorEq, not_false_eq_true, Nat.reduceEqDiff]
        exact s4
    · skip
      try simp only [b2_cast, b2_ncast, Classical.not_not, lcm_lt, lcm_ge, lcm_gt, lcm_le, lcm_eq] at bh5
      refine V.rv (by decide +kernel) ?_
      obtain ⟨c1, c2⟩ := hC (by assumption)
      have e42 : I 52 42 = t := by assumption
      rw [e42] at c1 c2
      exact ⟨rfl, I, J, rfl, fun _ _ _ _ _ _ _ _ _ => rfl, fun _ _ _ => rfl, by assumption, e42, fun _ _ _ => rfl, c1, c2⟩
