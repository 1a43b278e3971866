/-! ===== the reference: who comes to whom; rings ===== -/
/-- what comes holds before round k -/
def CmI (R A : Nat → Nat → Prop) (k : Nat) (I : MI) : Prop := (∀ a, a < 48 → I 82 (48 * a + a) ≠ 0) ∧ (∀ a b, a < 48 → b < 48 → A a b → I 82 (48 * a + b) ≠ 0) ∧ (∀ a b, a < 48 → b < 48 → I 82 (48 * a + b) ≠ 0 → R a b) ∧ ∀ j, j < k → j < 48 → ∀ a b, a < 48 → b < 48 → I 82 (48 * a + j) ≠ 0 → I 82 (48 * j + b) ≠ 0 → I 82 (48 * a + b) ≠ 0
/-- within round k -/
def CmS (I0 : MI) (k a b : Nat) (I : MI) : Prop := ∀ x y, x < 48 → y < 48 → (I 82 (48 * x + y) ≠ 0 ↔ I0 82 (48 * x + y) ≠ 0 ∨ ((x < a ∨ (x = a ∧ y < b)) ∧ I0 82 (48 * x + k) ≠ 0 ∧ I0 82 (48 * k + y) ≠ 0))
theorem CmI.next {R A : Nat → Nat → Prop} {k : Nat} {I0 I : MI} (hk : k < 48) (hR : ∀ a b c, a < 48 → b < 48 → c < 48 → R a b → R b c → R a c) (h : CmI R A k I0) (g : CmS I0 k 48 0 I) : CmI R A (k + 1) I := by
  obtain ⟨h1, h2, h3, h4⟩ := h
  have g2 : ∀ x y, x < 48 → y < 48 → (I 82 (48 * x + y) ≠ 0 ↔ I0 82 (48 * x + y) ≠ 0 ∨ (I0 82 (48 * x + k) ≠ 0 ∧ I0 82 (48 * k + y) ≠ 0)) := fun x y hx hy => by
    rw [g x y hx hy]
    simp [hx]
  refine ⟨fun a ha => (g2 a a ha ha).mpr (Or.inl (h1 a ha)), fun a b ha hb w => (g2 a b ha hb).mpr (Or.inl (h2 a b ha hb w)), fun a b ha hb w => ?_, fun j hj hj48 a b ha hb w1 w2 => ?_⟩
  · rcases (g2 a b ha hb).mp w with w | ⟨w1, w2⟩
    · exact h3 a b ha hb w
    · exact hR a k b ha hk hb (h3 a k ha hk w1) (h3 k b hk hb w2)
  · rw [g2 a j ha hj48] at w1
    rw [g2 j b hj48 hb] at w2
    rw [g2 a b ha hb]
    by_cases e : j = k
    · subst e
      have u1 : I0 82 (48 * a + j) ≠ 0 := by rcases w1 with w | w; exact w; exact w.1
      have u2 : I0 82 (48 * j + b) ≠ 0 := by rcases w2 with w | w; exact w; exact w.2
      exact Or.inr ⟨u1, u2⟩
    · have t := h4 j (by omega) hj48
      rcases w1 with w1 | ⟨w1, w3⟩
      · rcases w2 with w2 | ⟨w2, w4⟩
        · exact Or.inl (t a b ha hb w1 w2)
        · exact Or.inr ⟨t a k ha hk w1 w2, w4⟩
      · rcases w2 with w2 | ⟨w2, w4⟩
        · exact Or.inr ⟨w1, t k b hk hb w3 w2⟩
        · exact Or.inr ⟨w1, w4⟩
theorem l_c3 {N : Nat} {I : MI} {J : MJ} {k a : Nat} {I0 : MI} {Q : Option AV → M5 → Prop} (hk : k < 48) (ha : a < 48) (hd : ∀ x, x < 48 → I0 82 (48 * x + x) ≠ 0) (cont : ∀ (w : Option AV) (I' : MI), (∀ i, i ≠ 82 → I' i = I i) → CmS I0 k (a + 1) 0 I' → V 131 (134, [some (aR 52), some (aI (k : Int)), some (aI (a : Int)), w], [], MM N I' J) Q) : ∀ (m b : Nat) (I' : MI), 49 ≤ m + b → b ≤ 48 → (∀ i, i ≠ 82 → I' i = I i) → CmS I0 k a b I' → V 131 (64, [some (aR 52), some (aI (k : Int)), some (aI (a : Int)), some (aI (b : Int))], [], MM N I' J) Q := by
  intro m
  induction m with
  | zero => intro b I' h1 h2; exfalso; omega
  | succ m ih =>
    intro b I' h1 h2 ho hS
    have hak := hS a k ha hk
    have e1 : I' 82 (48 * a + k) ≠ 0 ↔ I0 82 (48 * a + k) ≠ 0 := by
      rw [hak]
      exact ⟨fun w => by rcases w with w | w; exact w; exact w.2.1, fun w => Or.inl w⟩
    refine V.blk [(64, .iload 3, 1), (65, .bipush 48, 2), (67, .if_icmp .ge 134, 3)] (ps := []) (z' := (brc .ge (b : Int) 48 134 70, [some (aR 52), some (aI (k : Int)), some (aI (a : Int)), some (aI (b : Int))], [], MM N I' J)) (by decide +kernel) rfl trivial ?_
    refine V.ge (fun bh1 => ?_) (fun bh2 => ?_)
    · skip
      try simp only [b2_cast, b2_ncast, Classical.not_not, lcm_lt, lcm_ge, lcm_gt, lcm_le, lcm_eq] at bh1
      refine cont _ I' ho (fun x y hx hy => ?_)
      rw [hS x y hx hy]
      constructor
      · rintro (w | ⟨w, w2, w3⟩)
        · exact Or.inl w
        · exact Or.inr ⟨by omega, w2, w3⟩
      · rintro (w | ⟨w, w2, w3⟩)
        · exact Or.inl w
        · first
            | exact Or.inr ⟨by omega, w2, w3⟩
            | (by_cases c : x = a
               · subst c
                 exact absurd (by assumption) (e1.mpr w2)
               · exact Or.inr ⟨by omega, w2, w3⟩)
    · skip
      try simp only [b2_cast, b2_ncast, Classical.not_not, lcm_lt, lcm_ge, lcm_gt, lcm_le, lcm_eq] at bh2
      refine V.blk [(70, .aload 0, 1), (71, .getfield 10038, 3), (74, .bipush 48, 2), (76, .iload 2, 1), (77, .imul, 1), (78, .iload 1, 1), (79, .iadd, 1), (80, .baload, 1), (81, .ifCond .eq 134, 3)] (ps := [inR (48 * (a : Int)), inR (((48 * a : Nat) : Int) + (k : Int)), 0 ≤ (((48 * a) + k : Nat) : Int) ∧ (((48 * a) + k : Nat) : Int) < 2304]) (z' := (brc .eq (I' 82 ((48 * a) + k)) 0 134 84, [some (aR 52), some (aI (k : Int)), some (aI (a : Int)), some (aI (b : Int))], [], MM N I' J)) (by decide +kernel) rfl (show (inR (48 * (a : Int))) ∧ (inR (((48 * a : Nat) : Int) + (k : Int))) ∧ (0 ≤ (((48 * a) + k : Nat) : Int) ∧ (((48 * a) + k : Nat) : Int) < 2304) from ⟨(by unfold inR; omega), (by unfold inR; omega), (by omega)⟩) ?_
      refine V.eq (fun bh3 => ?_) (fun bh4 => ?_)
      · skip
        try simp only [b2_cast, b2_ncast, Classical.not_not, lcm_lt, lcm_ge, lcm_gt, lcm_le, lcm_eq] at bh3
        refine cont _ I' ho (fun x y hx hy => ?_)
        rw [hS x y hx hy]
        constructor
        · rintro (w | ⟨w, w2, w3⟩)
          · exact Or.inl w
          · exact Or.inr ⟨by omega, w2, w3⟩
        · rintro (w | ⟨w, w2, w3⟩)
          · exact Or.inl w
          · first
              | exact Or.inr ⟨by omega, w2, w3⟩
              | (by_cases c : x = a
                 · subst c
                   exact absurd (by assumption) (e1.mpr w2)
                 · exact Or.inr ⟨by omega, w2, w3⟩)
      · skip
        try simp only [b2_cast, b2_ncast, Classical.not_not, lcm_lt, lcm_ge, lcm_gt, lcm_le, lcm_eq] at bh4
        refine V.blk [(84, .aload 0, 1), (85, .getfield 10038, 3), (88, .bipush 48, 2), (90, .iload 2, 1), (91, .imul, 1), (92, .iload 3, 1), (93, .iadd, 1), (94, .aload 0, 1), (95, .getfield 10038, 3), (98, .bipush 48, 2), (100, .iload 2, 1), (101, .imul, 1), (102, .iload 3, 1), (103, .iadd, 1), (104, .baload, 1), (105, .ifCond .ne 122, 3)] (ps := [inR (48 * (a : Int)), inR (((48 * a : Nat) : Int) + (b : Int)), inR (48 * (a : Int)), inR (((48 * a : Nat) : Int) + (b : Int)), 0 ≤ (((48 * a) + b : Nat) : Int) ∧ (((48 * a) + b : Nat) : Int) < 2304]) (z' := (brc .ne (I' 82 ((48 * a) + b)) 0 122 108, [some (aR 52), some (aI (k : Int)), some (aI (a : Int)), some (aI (b : Int))], [aI (((48 * a) + b : Nat) : Int), aR 82], MM N I' J)) (by decide +kernel) rfl (show (inR (48 * (a : Int))) ∧ (inR (((48 * a : Nat) : Int) + (b : Int))) ∧ (inR (48 * (a : Int))) ∧ (inR (((48 * a : Nat) : Int) + (b : Int))) ∧ (0 ≤ (((48 * a) + b : Nat) : Int) ∧ (((48 * a) + b : Nat) : Int) < 2304) from ⟨(by unfold inR; omega), (by unfold inR; omega), (by unfold inR; omega), (by unfold inR; omega), (by omega)⟩) ?_
        refine V.ne (fun bh5 => ?_) (fun bh6 => ?_)
        · skip
          try simp only [b2_cast, b2_ncast, Classical.not_not, lcm_lt, lcm_ge, lcm_gt, lcm_le, lcm_eq] at bh5
          refine V.blk [(122, .bipush 1, 1), (123, .goto 127, 3), (127, .bastore, 1), (128, .iinc 3 1, 3), (131, .goto 64, 3)] (ps := [0 ≤ (((48 * a) + b : Nat) : Int) ∧ (((48 * a) + b : Nat) : Int) < 2304, 0 ≤ 1 ∧ 1 ≤ 1, inR ((b : Int) + 1)]) (z' := (64, [some (aR 52), some (aI (k : Int)), some (aI (a : Int)), some (aI ((b + 1 : Nat) : Int))], [], MM N (ma I' 82 (ma (I' 82) ((48 * a) + b) 1)) J)) (by decide +kernel) rfl (show (0 ≤ (((48 * a) + b : Nat) : Int) ∧ (((48 * a) + b : Nat) : Int) < 2304) ∧ (0 ≤ 1 ∧ 1 ≤ 1) ∧ (inR ((b : Int) + 1)) from ⟨(by omega), (by omega), (by unfold inR; omega)⟩) ?_
          refine V.nI (fun I7 eI7 => ?_)
          have hab := hS a b ha (by omega)
          have hkb := hS k b hk (by omega)
          have e2 : I' 82 (48 * k + b) ≠ 0 ↔ I0 82 (48 * k + b) ≠ 0 := by
            rw [hkb]
            exact ⟨fun w => by rcases w with w | w; exact w; exact w.2.2, fun w => Or.inl w⟩
          have hval : I7 82 (48 * a + b) ≠ 0 ↔ I' 82 (48 * a + b) ≠ 0 ∨ I' 82 (48 * k + b) ≠ 0 := by
            rw [eI7, ma_self, ma_self]
            first
              | (constructor
                 · intro _
                   first
                     | exact Or.inl (by assumption)
                     | exact Or.inr (by assumption)
                 · intro _
                   decide)
              | (constructor
                 · intro w
                   exact absurd rfl w
                 · intro w
                   rcases w with w | w
                   · exact absurd (by assumption) w
                   · exact absurd (by assumption) w)
          refine ih (b + 1) I7 (by omega) (by omega) (fun i x => by rw [eI7, ma_ne _ _ x]; exact ho i x) (fun x y hx hy => ?_)
          by_cases c : x = a ∧ y = b
          · obtain ⟨c1, c2⟩ := c
            subst c1
            subst c2
            rw [hval, e2, hab]
            have hk0 : I0 82 (48 * x + k) ≠ 0 := e1.mp (by assumption)
            constructor
            · rintro ((w | ⟨w, w2, w3⟩) | w)
              · exact Or.inl w
              · exact Or.inr ⟨Or.inr ⟨rfl, by omega⟩, w2, w3⟩
              · exact Or.inr ⟨Or.inr ⟨rfl, by omega⟩, hk0, w⟩
            · rintro (w | ⟨-, -, w⟩)
              · exact Or.inl (Or.inl w)
              · exact Or.inr w
          · have hne : 48 * x + y ≠ 48 * a + b := by omega
            have hs := hS x y hx hy
            have ev : I7 82 (48 * x + y) = I' 82 (48 * x + y) := by rw [eI7, ma_self, ma_ne _ _ hne]
            have ec : (x < a ∨ x = a ∧ y < b + 1) ↔ (x < a ∨ x = a ∧ y < b) := by omega
            rw [ev, hs, ec]
        · skip
          try simp only [b2_cast, b2_ncast, Classical.not_not, lcm_lt, lcm_ge, lcm_gt, lcm_le, lcm_eq] at bh6
          refine V.blk [(108, .aload 0, 1), (109, .getfield 10038, 3), (112, .bipush 48, 2), (114, .iload 1, 1), (115, .imul, 1), (116, .iload 3, 1), (117, .iadd, 1), (118, .baload, 1), (119, .ifCond .eq 126, 3)] (ps := [inR (48 * (k : Int)), inR (((48 * k : Nat) : Int) + (b : Int)), 0 ≤ (((48 * k) + b : Nat) : Int) ∧ (((48 * k) + b : Nat) : Int) < 2304]) (z' := (brc .eq (I' 82 ((48 * k) + b)) 0 126 122, [some (aR 52), some (aI (k : Int)), some (aI (a : Int)), some (aI (b : Int))], [aI (((48 * a) + b : Nat) : Int), aR 82], MM N I' J)) (by decide +kernel) rfl (show (inR (48 * (k : Int))) ∧ (inR (((48 * k : Nat) : Int) + (b : Int))) ∧ (0 ≤ (((48 * k) + b : Nat) : Int) ∧ (((48 * k) + b : Nat) : Int) < 2304) from ⟨(by unfold inR; omega), (by unfold inR; omega), (by omega)⟩) ?_
          refine V.eq (fun bh8 => ?_) (fun bh9 => ?_)
          · skip
            try simp only [b2_cast, b2_ncast, Classical.not_not, lcm_lt, lcm_ge, lcm_gt, lcm_le, lcm_eq] at bh8
            refine V.blk [(126, .bipush 0, 1), (127, .bastore, 1), (128, .iinc 3 1, 3), (131, .goto 64, 3)] (ps := [0 ≤ (((48 * a) + b : Nat) : Int) ∧ (((48 * a) + b : Nat) : Int) < 2304, 0 ≤ 0 ∧ 0 ≤ 1, inR ((b : Int) + 1)]) (z' := (64, [some (aR 52), some (aI (k : Int)), some (aI (a : Int)), some (aI ((b + 1 : Nat) : Int))], [], MM N (ma I' 82 (ma (I' 82) ((48 * a) + b) 0)) J)) (by decide +kernel) rfl (show (0 ≤ (((48 * a) + b : Nat) : Int) ∧ (((48 * a) + b : Nat) : Int) < 2304) ∧ (0 ≤ 0 ∧ 0 ≤ 1) ∧ (inR ((b : Int) + 1)) from ⟨(by omega), (by omega), (by unfold inR; omega)⟩) ?_
            refine V.nI (fun I10 eI10 => ?_)
            have hab := hS a b ha (by omega)
            have hkb := hS k b hk (by omega)
            have e2 : I' 82 (48 * k + b) ≠ 0 ↔ I0 82 (48 * k + b) ≠ 0 := by
              rw [hkb]
              exact ⟨fun w => by rcases w with w | w; exact w; exact w.2.2, fun w => Or.inl w⟩
            have hval : I10 82 (48 * a + b) ≠ 0 ↔ I' 82 (48 * a + b) ≠ 0 ∨ I' 82 (48 * k + b) ≠ 0 := by
              rw [eI10, ma_self, ma_self]
              first
                | (constructor
                   · intro _
                     first
                       | exact Or.inl (by assumption)
                       | exact Or.inr (by assumption)
                   · intro _
                     decide)
                | (constructor
                   · intro w
                     exact absurd rfl w
                   · intro w
                     rcases w with w | w
                     · exact absurd (by assumption) w
                     · exact absurd (by assumption) w)
            refine ih (b + 1) I10 (by omega) (by omega) (fun i x => by rw [eI10, ma_ne _ _ x]; exact ho i x) (fun x y hx hy => ?_)
            by_cases c : x = a ∧ y = b
            · obtain ⟨c1, c2⟩ := c
              subst c1
              subst c2
              rw [hval, e2, hab]
              have hk0 : I0 82 (48 * x + k) ≠ 0 := e1.mp (by assumption)
              constructor
              · rintro ((w | ⟨w, w2, w3⟩) | w)
                · exact Or.inl w
                · exact Or.inr ⟨Or.inr ⟨rfl, by omega⟩, w2, w3⟩
                · exact Or.inr ⟨Or.inr ⟨rfl, by omega⟩, hk0, w⟩
              · rintro (w | ⟨-, -, w⟩)
                · exact Or.inl (Or.inl w)
                · exact Or.inr w
            · have hne : 48 * x + y ≠ 48 * a + b := by omega
              have hs := hS x y hx hy
              have ev : I10 82 (48 * x + y) = I' 82 (48 * x + y) := by rw [eI10, ma_self, ma_ne _ _ hne]
              have ec : (x < a ∨ x = a ∧ y < b + 1) ↔ (x < a ∨ x = a ∧ y < b) := by omega
              rw [ev, hs, ec]
          · skip
            try simp only [b2_cast, b2_ncast, Classical.not_not, lcm_lt, lcm_ge, lcm_gt, lcm_le, lcm_eq] at bh9
            refine V.blk [(122, .bipush 1, 1), (123, .goto 127, 3), (127, .bastore, 1), (128, .iinc 3 1, 3), (131, .goto 64, 3)] (ps := [0 ≤ (((48 * a) + b : Nat) : Int) ∧ (((48 * a) + b : Nat) : Int) < 2304, 0 ≤ 1 ∧ 1 ≤ 1, inR ((b : Int) + 1)]) (z' := (64, [some (aR 52), some (aI (k : Int)), some (aI (a : Int)), some (aI ((b + 1 : Nat) : Int))], [], MM N (ma I' 82 (ma (I' 82) ((48 * a) + b) 1)) J)) (by decide +kernel) rfl (show (0 ≤ (((48 * a) + b : Nat) : Int) ∧ (((48 * a) + b : Nat) : Int) < 2304) ∧ (0 ≤ 1 ∧ 1 ≤ 1) ∧ (inR ((b : Int) + 1)) from ⟨(by omega), (by omega), (by unfold inR; omega)⟩) ?_
            refine V.nI (fun I11 eI11 => ?_)
            have hab := hS a b ha (by omega)
            have hkb := hS k b hk (by omega)
            have e2 : I' 82 (48 * k + b) ≠ 0 ↔ I0 82 (48 * k + b) ≠ 0 := by
              rw [hkb]
              exact ⟨fun w => by rcases w with w | w; exact w; exact w.2.2, fun w => Or.inl w⟩
            have hval : I11 82 (48 * a + b) ≠ 0 ↔ I' 82 (48 * a + b) ≠ 0 ∨ I' 82 (48 * k + b) ≠ 0 := by
              rw [eI11, ma_self, ma_self]
              first
                | (constructor
                   · intro _
                     first
                       | exact Or.inl (by assumption)
                       | exact Or.inr (by assumption)
                   · intro _
                     decide)
                | (constructor
                   · intro w
                     exact absurd rfl w
                   · intro w
                     rcases w with w | w
                     · exact absurd (by assumption) w
                     · exact absurd (by assumption) w)
            refine ih (b + 1) I11 (by omega) (by omega) (fun i x => by rw [eI11, ma_ne _ _ x]; exact ho i x) (fun x y hx hy => ?_)
            by_cases c : x = a ∧ y = b
            · obtain ⟨c1, c2⟩ := c
              subst c1
              subst c2
              rw [hval, e2, hab]
              have hk0 : I0 82 (48 * x + k) ≠ 0 := e1.mp (by assumption)
              constructor
              · rintro ((w | ⟨w, w2, w3⟩) | w)
                · exact Or.inl w
                · exact Or.inr ⟨Or.inr ⟨rfl, by omega⟩, w2, w3⟩
                · exact Or.inr ⟨Or.inr ⟨rfl, by omega⟩, hk0, w⟩
              · rintro (w | ⟨-, -, w⟩)
                · exact Or.inl (Or.inl w)
                · exact Or.inr w
            · have hne : 48 * x + y ≠ 48 * a + b := by omega
              have hs := hS x y hx hy
              have ev : I11 82 (48 * x + y) = I' 82 (48 * x + y) := by rw [eI11, ma_self, ma_ne _ _ hne]
              have ec : (x < a ∨ x = a ∧ y < b + 1) ↔ (x < a ∨ x = a ∧ y < b) := by omega
              rw [ev, hs, ec]
theorem l_c2 {N : Nat} {I : MI} {J : MJ} {k : Nat} {I0 : MI} {Q : Option AV → M5 → Prop} (hk : k < 48) (hd : ∀ x, x < 48 → I0 82 (48 * x + x) ≠ 0) (cont : ∀ (w2 w3 : Option AV) (I' : MI), (∀ i, i ≠ 82 → I' i = I i) → CmS I0 k 48 0 I' → V 131 (140, [some (aR 52), some (aI (k : Int)), w2, w3], [], MM N I' J) Q) : ∀ (m a : Nat) (I' : MI) (w : Option AV), 49 ≤ m + a → a ≤ 48 → (∀ i, i ≠ 82 → I' i = I i) → CmS I0 k a 0 I' → V 131 (56, [some (aR 52), some (aI (k : Int)), some (aI (a : Int)), w], [], MM N I' J) Q := by
  intro m
  induction m with
  | zero => intro a I' w h1 h2; exfalso; omega
  | succ m ih =>
    intro a I' w h1 h2 ho hS
    refine V.blk [(56, .iload 2, 1), (57, .bipush 48, 2), (59, .if_icmp .ge 140, 3)] (ps := []) (z' := (brc .ge (a : Int) 48 140 62, [some (aR 52), some (aI (k : Int)), some (aI (a : Int)), w], [], MM N I' J)) (by decide +kernel) rfl trivial ?_
    refine V.ge (fun bh1 => ?_) (fun bh2 => ?_)
    · skip
      try simp only [b2_cast, b2_ncast, Classical.not_not, lcm_lt, lcm_ge, lcm_gt, lcm_le, lcm_eq] at bh1
      have e : a = 48 := by omega
      subst e
      exact cont _ _ I' ho hS
    · skip
      try simp only [b2_cast, b2_ncast, Classical.not_not, lcm_lt, lcm_ge, lcm_gt, lcm_le, lcm_eq] at bh2
      refine V.blk [(62, .bipush 0, 1), (63, .istore 3, 1)] (ps := []) (z' := (64, [some (aR 52), some (aI (k : Int)), some (aI (a : Int)), some (aI 0)], [], MM N I' J)) (by decide +kernel) rfl trivial ?_
      refine l_c3 (N := N) (J := J) (I := I') hk (by omega) hd (fun w2 I2 f2 hS2 => ?_) 49 0 I' (by omega) (by omega) (fun _ _ => rfl) hS
      refine V.blk [(134, .iinc 2 1, 3), (137, .goto 56, 3)] (ps := [inR ((a : Int) + 1)]) (z' := (56, [some (aR 52), some (aI (k : Int)), some (aI ((a + 1 : Nat) : Int)), w2], [], MM N I2 J)) (by decide +kernel) rfl (show (inR ((a : Int) + 1)) from (by unfold inR; omega)) ?_
      exact ih (a + 1) I2 _ (by omega) (by omega) (fun i x => (f2 i x).trans (ho i x)) hS2
theorem l_c1 {N : Nat} {I : MI} {J : MJ} {R A : Nat → Nat → Prop} (hR : ∀ a b c, a < 48 → b < 48 → c < 48 → R a b → R b c → R a c) : ∀ (m k : Nat) (I' : MI) (w2 w3 : Option AV), 49 ≤ m + k → k ≤ 48 → (∀ i, i ≠ 82 → I' i = I i) → CmI R A k I' → V 131 (48, [some (aR 52), some (aI (k : Int)), w2, w3], [], MM N I' J) (fun rv M' => rv = none ∧ ∃ I', M' = MM N I' J ∧ (∀ i, i ≠ 82 → I' i = I i) ∧ CmI R A 48 I') := by
  intro m
  induction m with
  | zero => intro k I' w2 w3 h1 h2; exfalso; omega
  | succ m ih =>
    intro k I' w2 w3 h1 h2 ho hI
    refine V.blk [(48, .iload 1, 1), (49, .bipush 48, 2), (51, .if_icmp .ge 146, 3)] (ps := []) (z' := (brc .ge (k : Int) 48 146 54, [some (aR 52), some (aI (k : Int)), w2, w3], [], MM N I' J)) (by decide +kernel) rfl trivial ?_
    refine V.ge (fun bh1 => ?_) (fun bh2 => ?_)
    · skip
      try simp only [b2_cast, b2_ncast, Classical.not_not, lcm_lt, lcm_ge, lcm_gt, lcm_le, lcm_eq] at bh1
      refine V.rv (by decide +kernel) ?_
      have e : k = 48 := by omega
      subst e
      exact ⟨rfl, I', rfl, ho, hI⟩
    · skip
      try simp only [b2_cast, b2_ncast, Classical.not_not, lcm_lt, lcm_ge, lcm_gt, lcm_le, lcm_eq] at bh2
      refine V.blk [(54, .bipush 0, 1), (55, .istore 2, 1)] (ps := []) (z' := (56, [some (aR 52), some (aI (k : Int)), some (aI 0), w3], [], MM N I' J)) (by decide +kernel) rfl trivial ?_
      refine l_c2 (N := N) (J := J) (I := I') (I0 := I') (by omega) hI.1 (fun v2 v3 I2 f2 hS2 => ?_) 49 0 I' _ (by omega) (by omega) (fun _ _ => rfl) (fun x y hx hy => ?_)
      · refine V.blk [(140, .iinc 1 1, 3), (143, .goto 48, 3)] (ps := [inR ((k : Int) + 1)]) (z' := (48, [some (aR 52), some (aI ((k + 1 : Nat) : Int)), v2, v3], [], MM N I2 J)) (by decide +kernel) rfl (show (inR ((k : Int) + 1)) from (by unfold inR; omega)) ?_
        exact ih (k + 1) I2 _ _ (by omega) (by omega) (fun i x => (f2 i x).trans (ho i x)) (hI.next (by omega) hR hS2)
      · constructor
        · intro w
          exact Or.inl w
        · rintro (w | ⟨w, -⟩)
          · exact w
          · exfalso; omega
theorem l_c0 {N : Nat} {I : MI} {J : MJ} {R A : Nat → Nat → Prop} (hR : ∀ a b c, a < 48 → b < 48 → c < 48 → R a b → R b c → R a c) (hRr : ∀ a, a < 48 → R a a) (hA : ∀ a b, a < 48 → b < 48 → (A a b ↔ I 78 (48 * a + b) ≠ 0)) (hAR : ∀ a b, a < 48 → b < 48 → A a b → R a b) : ∀ (m e : Nat) (I' : MI), 2305 ≤ m + e → e ≤ 2304 → (∀ i, i ≠ 82 → I' i = I i) → (∀ q, q < e → (I' 82 q ≠ 0 ↔ I 78 q ≠ 0 ∨ q / 48 = q % 48)) → V 131 (2, [some (aR 52), some (aI (e : Int)), none, none], [], MM N I' J) (fun rv M' => rv = none ∧ ∃ I', M' = MM N I' J ∧ (∀ i, i ≠ 82 → I' i = I i) ∧ CmI R A 48 I') := by
  intro m
  induction m with
  | zero => intro e I' h1 h2; exfalso; omega
  | succ m ih =>
    intro e I' h1 h2 ho hz
    have e78 : I' 78 = I 78 := ho 78 (by decide)
    refine V.blk [(2, .iload 1, 1), (3, .bipush 2304, 3), (6, .if_icmp .ge 46, 3)] (ps := []) (z' := (brc .ge (e : Int) 2304 46 9, [some (aR 52), some (aI (e : Int)), none, none], [], MM N I' J)) (by decide +kernel) rfl trivial ?_
    refine V.ge (fun bh1 => ?_) (fun bh2 => ?_)
    · skip
      try simp only [b2_cast, b2_ncast, Classical.not_not, lcm_lt, lcm_ge, lcm_gt, lcm_le, lcm_eq] at bh1
      refine V.blk [(46, .bipush 0, 1), (47, .istore 1, 1)] (ps := []) (z' := (48, [some (aR 52), some (aI 0), none, none], [], MM N I' J)) (by decide +kernel) rfl trivial ?_
      have hq : ∀ a b, a < 48 → b < 48 → (I' 82 (48 * a + b) ≠ 0 ↔ A a b ∨ a = b) := fun a b ha hb => by
        rw [hz (48 * a + b) (by omega), hA a b ha hb]
        have : (48 * a + b) / 48 = (48 * a + b) % 48 ↔ a = b := by omega
        rw [this]
      refine (l_c1 (N := N) (J := J) (I := I') hR 49 0 I' none none (by omega) (by omega) (fun _ _ => rfl) ⟨fun a ha => (hq a a ha ha).mpr (Or.inr rfl), fun a b ha hb w => (hq a b ha hb).mpr (Or.inl w), fun a b ha hb w => ?_, fun j hj => by omega⟩).mono (fun rv M2 q => ?_)
      · rcases (hq a b ha hb).mp w with w | w
        · exact hAR a b ha hb w
        · subst w
          exact hRr a ha
      · obtain ⟨rfl, I9, rfl, g1, g2⟩ := q
        exact ⟨rfl, I9, rfl, fun i x => (g1 i x).trans (ho i x), g2⟩
    · skip
      try simp only [b2_cast, b2_ncast, Classical.not_not, lcm_lt, lcm_ge, lcm_gt, lcm_le, lcm_eq] at bh2
      refine V.blk [(9, .aload 0, 1), (10, .getfield 10038, 3), (13, .iload 1, 1), (14, .aload 0, 1), (15, .getfield 10033, 3), (18, .iload 1, 1), (19, .baload, 1), (20, .ifCond .ne 34, 3)] (ps := [0 ≤ (e : Int) ∧ (e : Int) < 2304]) (z' := (brc .ne (I' 78 e) 0 34 23, [some (aR 52), some (aI (e : Int)), none, none], [aI (e : Int), aR 82], MM N I' J)) (by decide +kernel) rfl (show (0 ≤ (e : Int) ∧ (e : Int) < 2304) from (by omega)) ?_
      refine V.ne (fun bh3 => ?_) (fun bh4 => ?_)
      · skip
        try simp only [b2_cast, b2_ncast, Classical.not_not, lcm_lt, lcm_ge, lcm_gt, lcm_le, lcm_eq] at bh3
        refine V.blk [(34, .bipush 1, 1), (35, .goto 39, 3), (39, .bastore, 1), (40, .iinc 1 1, 3), (43, .goto 2, 3)] (ps := [0 ≤ (e : Int) ∧ (e : Int) < 2304, 0 ≤ 1 ∧ 1 ≤ 1, inR ((e : Int) + 1)]) (z' := (2, [some (aR 52), some (aI ((e + 1 : Nat) : Int)), none, none], [], MM N (ma I' 82 (ma (I' 82) e 1)) J)) (by decide +kernel) rfl (show (0 ≤ (e : Int) ∧ (e : Int) < 2304) ∧ (0 ≤ 1 ∧ 1 ≤ 1) ∧ (inR ((e : Int) + 1)) from ⟨(by omega), (by omega), (by unfold inR; omega)⟩) ?_
        refine V.nI (fun I5 eI5 => ?_)
        refine ih (e + 1) I5 (by omega) (by omega) (fun i x => by rw [eI5, ma_ne _ _ x]; exact ho i x) (fun q hq => ?_)
        rw [eI5, ma_self]
        by_cases c : q = e
        · subst c
          rw [ma_self]
          first
            | (constructor
               · intro _
                 first
                   | exact Or.inl (by rw [← e78]; assumption)
                   | exact Or.inr (by omega)
               · intro _
                 decide)
            | (constructor
               · intro w
                 exact absurd rfl w
               · intro w
                 rcases w with w | w
                 · rw [← e78] at w; exact absurd (by assumption) w
                 · exfalso; omega)
        · rw [ma_ne _ _ c]
          exact hz q (by omega)
      · skip
        try simp only [b2_cast, b2_ncast, Classical.not_not, lcm_lt, lcm_ge, lcm_gt, lcm_le, lcm_eq] at bh4
        refine V.blk [(23, .iload 1, 1), (24, .bipush 48, 2), (26, .idiv, 1), (27, .iload 1, 1), (28, .bipush 48, 2), (30, .irem, 1), (31, .if_icmp .ne 38, 3)] (ps := [0 ≤ (e : Int) ∧ 0 < 48, 0 ≤ (e : Int) ∧ 0 < 48]) (z' := (brc .ne ((e / 48 : Nat) : Int) ((e % 48 : Nat) : Int) 38 34, [some (aR 52), some (aI (e : Int)), none, none], [aI (e : Int), aR 82], MM N I' J)) (by decide +kernel) rfl (show (0 ≤ (e : Int) ∧ 0 < 48) ∧ (0 ≤ (e : Int) ∧ 0 < 48) from ⟨(by omega), (by omega)⟩) ?_
        refine V.ne (fun bh6 => ?_) (fun bh7 => ?_)
        · skip
          try simp only [b2_cast, b2_ncast, Classical.not_not, lcm_lt, lcm_ge, lcm_gt, lcm_le, lcm_eq] at bh6
          refine V.blk [(38, .bipush 0, 1), (39, .bastore, 1), (40, .iinc 1 1, 3), (43, .goto 2, 3)] (ps := [0 ≤ (e : Int) ∧ (e : Int) < 2304, 0 ≤ 0 ∧ 0 ≤ 1, inR ((e : Int) + 1)]) (z' := (2, [some (aR 52), some (aI ((e + 1 : Nat) : Int)), none, none], [], MM N (ma I' 82 (ma (I' 82) e 0)) J)) (by decide +kernel) rfl (show (0 ≤ (e : Int) ∧ (e : Int) < 2304) ∧ (0 ≤ 0 ∧ 0 ≤ 1) ∧ (inR ((e : Int) + 1)) from ⟨(by omega), (by omega), (by unfold inR; omega)⟩) ?_
          refine V.nI (fun I8 eI8 => ?_)
          refine ih (e + 1) I8 (by omega) (by omega) (fun i x => by rw [eI8, ma_ne _ _ x]; exact ho i x) (fun q hq => ?_)
          rw [eI8, ma_self]
          by_cases c : q = e
          · subst c
            rw [ma_self]
            first
              | (constructor
                 · intro _
                   first
                     | exact Or.inl (by rw [← e78]; assumption)
                     | exact Or.inr (by omega)
                 · intro _
                   decide)
              | (constructor
                 · intro w
                   exact absurd rfl w
                 · intro w
                   rcases w with w | w
                   · rw [← e78] at w; exact absurd (by assumption) w
                   · exfalso; omega)
          · rw [ma_ne _ _ c]
            exact hz q (by omega)
        · skip
          try simp only [b2_cast, b2_ncast, Classical.not_not, lcm_lt, lcm_ge, lcm_gt, lcm_le, lcm_eq] at bh7
          refine V.blk [(34, .bipush 1, 1), (35, .goto 39, 3), (39, .bastore, 1), (40, .iinc 1 1, 3), (43, .goto 2, 3)] (ps := [0 ≤ (e : Int) ∧ (e : Int) < 2304, 0 ≤ 1 ∧ 1 ≤ 1, inR ((e : Int) + 1)]) (z' := (2, [some (aR 52), some (aI ((e + 1 : Nat) : Int)), none, none], [], MM N (ma I' 82 (ma (I' 82) e 1)) J)) (by decide +kernel) rfl (show (0 ≤ (e : Int) ∧ (e : Int) < 2304) ∧ (0 ≤ 1 ∧ 1 ≤ 1) ∧ (inR ((e : Int) + 1)) from ⟨(by omega), (by omega), (by unfold inR; omega)⟩) ?_
          refine V.nI (fun I9 eI9 => ?_)
          refine ih (e + 1) I9 (by omega) (by omega) (fun i x => by rw [eI9, ma_ne _ _ x]; exact ho i x) (fun q hq => ?_)
          rw [eI9, ma_self]
          by_cases c : q = e
          · subst c
            rw [ma_self]
            first
              | (constructor
                 · intro _
                   first
                     | exact Or.inl (by rw [← e78]; assumption)
                     | exact Or.inr (by omega)
                 · intro _
                   decide)
              | (constructor
                 · intro w
                   exact absurd rfl w
                 · intro w
                   rcases w with w | w
                   · rw [← e78] at w; exact absurd (by assumption) w
                   · exfalso; omega)
          · rw [ma_ne _ _ c]
            exact hz q (by omega)
theorem m_comes {N : Nat} {I : MI} {J : MJ} {R A : Nat → Nat → Prop} (hR : ∀ a b c, a < 48 → b < 48 → c < 48 → R a b → R b c → R a c) (hRr : ∀ a, a < 48 → R a a) (hA : ∀ a b, a < 48 → b < 48 → (A a b ↔ I 78 (48 * a + b) ≠ 0)) (hAR : ∀ a b, a < 48 → b < 48 → A a b → R a b) : CT 131 [aR 52] (MM N I J) (fun rv M' => rv = none ∧ ∃ I', M' = MM N I' J ∧ (∀ i, i ≠ 82 → I' i = I i) ∧ CmI R A 48 I') := by
  refine CT.ofV (n := 4) (ls := [some (aR 52), none, none, none]) rfl rfl rfl ?_
  refine V.blk [(0, .bipush 0, 1), (1, .istore 1, 1)] (ps := []) (z' := (2, [some (aR 52), some (aI 0), none, none], [], MM N I J)) (by decide +kernel) rfl trivial ?_
  exact l_c0 hR hRr hA hAR 2305 0 I (by omega) (by omega) (fun _ _ => rfl) (fun q hq => by omega)
theorem ring_no {A T R : Nat → Nat → Prop} {C : Nat → Nat → Prop} (hT : ∀ a b, a < 48 → b < 48 → T a b → A a b) (h1 : ∀ a, a < 48 → C a a) (h2 : ∀ a b, a < 48 → b < 48 → A a b → C a b) (h4 : ∀ j, j < 48 → ∀ a b, a < 48 → b < 48 → C a j → C j b → C a b) (hn : ¬ ∃ a b, a < 48 ∧ b < 48 ∧ T a b ∧ C b a) : ∃ z, stab A T z ∧ nng z := by
  refine ⟨fun n => cntF (fun m => @decide (∃ u v, u < 48 ∧ v < 48 ∧ C n u ∧ T u v ∧ C v m) (Classical.propDecidable _)) 48, fun n m hn48 hm48 => ?_, fun n _ => (cntF_in _ 48).1⟩
  have sub_ : A n m → ∀ k, k < 48 → @decide (∃ u v, u < 48 ∧ v < 48 ∧ C m u ∧ T u v ∧ C v k) (Classical.propDecidable _) = true → @decide (∃ u v, u < 48 ∧ v < 48 ∧ C n u ∧ T u v ∧ C v k) (Classical.propDecidable _) = true := by
    intro hA k hk w
    obtain ⟨u, v, a, b, c, d, e⟩ := @of_decide_eq_true _ (Classical.propDecidable _) w
    exact @decide_eq_true _ (Classical.propDecidable _) ⟨u, v, a, b, h4 m hm48 n u hn48 a (h2 n m hn48 hm48 hA) c, d, e⟩
  refine ⟨fun hA => cntF_le 48 (sub_ hA), fun hTn => cntF_lt 48 (sub_ (hT n m hn48 hm48 hTn)) ⟨m, hm48, ?_, ?_⟩⟩
  · refine @decide_eq_false _ (Classical.propDecidable _) fun w => ?_
    obtain ⟨u, v, a, b, c, d, e⟩ := w
    exact hn ⟨u, v, a, b, d, h4 m hm48 v u b a e c⟩
  · exact @decide_eq_true _ (Classical.propDecidable _) ⟨n, m, hn48, hm48, h1 n hn48, hTn, h1 m hm48⟩
theorem l_ring {N : Nat} {I : MI} {J : MJ} : ∀ (m e : Nat) (ro : Bool), 2305 ≤ m + e → e ≤ 2304 → (ro = true ↔ ∃ q, q < e ∧ I 79 q ≠ 0 ∧ I 82 (q % 48 * 48 + q / 48) ≠ 0) → V 132 (12, [some (aR 52), some (aI (b2 ro)), some (aI (e : Int))], [], MM N I J) (fun rv M' => ∃ b, rv = some (aI (b2 b)) ∧ M' = MM N I J ∧ (b = true ↔ ∃ q, q < 2304 ∧ I 79 q ≠ 0 ∧ I 82 (q % 48 * 48 + q / 48) ≠ 0)) := by
  intro m
  induction m with
  | zero => intro e ro h1 h2; exfalso; omega
  | succ m ih =>
    intro e ro h1 h2 hro
    refine V.blk [(12, .iload 2, 1), (13, .bipush 2304, 3), (16, .if_icmp .ge 64, 3)] (ps := []) (z' := (brc .ge (e : Int) 2304 64 19, [some (aR 52), some (aI (b2 ro)), some (aI (e : Int))], [], MM N I J)) (by decide +kernel) rfl trivial ?_
    refine V.ge (fun bh1 => ?_) (fun bh2 => ?_)
    · skip
      try simp only [b2_cast, b2_ncast, Classical.not_not, lcm_lt, lcm_ge, lcm_gt, lcm_le, lcm_eq, b2_0, b2_n0, Bool.not_eq_false, Bool.not_eq_true] at bh1
      refine V.blk [(64, .iload 1, 1)] (ps := []) (z' := (65, [some (aR 52), some (aI (b2 ro)), some (aI (e : Int))], [aI (b2 ro)], MM N I J)) (by decide +kernel) rfl trivial ?_
      refine V.rz (by decide +kernel) (by first | exact b2_in _ | omega) ?_
      have e9 : e = 2304 := by omega
      subst e9
      exact ⟨ro, rfl, rfl, hro⟩
    · skip
      try simp only [b2_cast, b2_ncast, Classical.not_not, lcm_lt, lcm_ge, lcm_gt, lcm_le, lcm_eq, b2_0, b2_n0, Bool.not_eq_false, Bool.not_eq_true] at bh2
      refine V.blk [(19, .iload 1, 1), (20, .ifCond .ne 52, 3)] (ps := []) (z' := (brc .ne (b2 ro) 0 52 23, [some (aR 52), some (aI (b2 ro)), some (aI (e : Int))], [], MM N I J)) (by decide +kernel) rfl trivial ?_
      refine V.ne (fun bh3 => ?_) (fun bh4 => ?_)
      · skip
        try simp only [b2_cast, b2_ncast, Classical.not_not, lcm_lt, lcm_ge, lcm_gt, lcm_le, lcm_eq, b2_0, b2_n0, Bool.not_eq_false, Bool.not_eq_true] at bh3
        refine V.blk [(52, .bipush 1, 1), (53, .goto 57, 3), (57, .istore 1, 1), (58, .iinc 2 1, 3), (61, .goto 12, 3)] (ps := [inR ((e : Int) + 1)]) (z' := (12, [some (aR 52), some (aI 1), some (aI ((e + 1 : Nat) : Int))], [], MM N I J)) (by decide +kernel) rfl (show (inR ((e : Int) + 1)) from (by unfold inR; omega)) ?_
        refine ih (e + 1) true (by omega) (by omega) ?_
        rw [ex_s]
        refine ⟨fun _ => ?_, fun _ => rfl⟩
        first
          | exact Or.inr ⟨by assumption, by assumption⟩
          | (refine Or.inl (hro.mp ?_)
             assumption)
      · skip
        try simp only [b2_cast, b2_ncast, Classical.not_not, lcm_lt, lcm_ge, lcm_gt, lcm_le, lcm_eq, b2_0, b2_n0, Bool.not_eq_false, Bool.not_eq_true] at bh4
        refine V.blk [(23, .aload 0, 1), (24, .getfield 10034, 3), (27, .iload 2, 1), (28, .baload, 1), (29, .ifCond .eq 56, 3)] (ps := [0 ≤ (e : Int) ∧ (e : Int) < 2304]) (z' := (brc .eq (I 79 e) 0 56 32, [some (aR 52), some (aI (b2 ro)), some (aI (e : Int))], [], MM N I J)) (by decide +kernel) rfl (show (0 ≤ (e : Int) ∧ (e : Int) < 2304) from (by omega)) ?_
        refine V.eq (fun bh5 => ?_) (fun bh6 => ?_)
        · skip
          try simp only [b2_cast, b2_ncast, Classical.not_not, lcm_lt, lcm_ge, lcm_gt, lcm_le, lcm_eq, b2_0, b2_n0, Bool.not_eq_false, Bool.not_eq_true] at bh5
          refine V.blk [(56, .bipush 0, 1), (57, .istore 1, 1), (58, .iinc 2 1, 3), (61, .goto 12, 3)] (ps := [inR ((e : Int) + 1)]) (z' := (12, [some (aR 52), some (aI 0), some (aI ((e + 1 : Nat) : Int))], [], MM N I J)) (by decide +kernel) rfl (show (inR ((e : Int) + 1)) from (by unfold inR; omega)) ?_
          refine ih (e + 1) false (by omega) (by omega) ?_
          rw [ex_s]
          refine ⟨(fun w => by cases w), fun w => ?_⟩
          exfalso
          have hrf : ¬ ro = true := by simp_all
          rcases w with w | ⟨w1, w2⟩
          · exact hrf (hro.mpr w)
          · first
              | exact absurd (by assumption) w1
              | exact absurd (by assumption) w2
        · skip
          try simp only [b2_cast, b2_ncast, Classical.not_not, lcm_lt, lcm_ge, lcm_gt, lcm_le, lcm_eq, b2_0, b2_n0, Bool.not_eq_false, Bool.not_eq_true] at bh6
          refine V.blk [(32, .aload 0, 1), (33, .getfield 10038, 3), (36, .iload 2, 1), (37, .bipush 48, 2), (39, .irem, 1), (40, .bipush 48, 2), (42, .imul, 1), (43, .iload 2, 1), (44, .bipush 48, 2), (46, .idiv, 1), (47, .iadd, 1), (48, .baload, 1), (49, .ifCond .eq 56, 3)] (ps := [0 ≤ (e : Int) ∧ 0 < 48, inR (((e % 48 : Nat) : Int) * 48), 0 ≤ (e : Int) ∧ 0 < 48, inR ((((e % 48) * 48 : Nat) : Int) + ((e / 48 : Nat) : Int)), 0 ≤ ((((e % 48) * 48) + (e / 48) : Nat) : Int) ∧ ((((e % 48) * 48) + (e / 48) : Nat) : Int) < 2304]) (z' := (brc .eq (I 82 (((e % 48) * 48) + (e / 48))) 0 56 52, [some (aR 52), some (aI (b2 ro)), some (aI (e : Int))], [], MM N I J)) (by decide +kernel) rfl (show (0 ≤ (e : Int) ∧ 0 < 48) ∧ (inR (((e % 48 : Nat) : Int) * 48)) ∧ (0 ≤ (e : Int) ∧ 0 < 48) ∧ (inR ((((e % 48) * 48 : Nat) : Int) + ((e / 48 : Nat) : Int))) ∧ (0 ≤ ((((e % 48) * 48) + (e / 48) : Nat) : Int) ∧ ((((e % 48) * 48) + (e / 48) : Nat) : Int) < 2304) from ⟨(by omega), (by unfold inR; omega), (by omega), (by unfold inR; omega), (by omega)⟩) ?_
          refine V.eq (fun bh7 => ?_) (fun bh8 => ?_)
          · skip
            try simp only [b2_cast, b2_ncast, Classical.not_not, lcm_lt, lcm_ge, lcm_gt, lcm_le, lcm_eq, b2_0, b2_n0, Bool.not_eq_false, Bool.not_eq_true] at bh7
            refine V.blk [(56, .bipush 0, 1), (57, .istore 1, 1), (58, .iinc 2 1, 3), (61, .goto 12, 3)] (ps := [inR ((e : Int) + 1)]) (z' := (12, [some (aR 52), some (aI 0), some (aI ((e + 1 : Nat) : Int))], [], MM N I J)) (by decide +kernel) rfl (show (inR ((e : Int) + 1)) from (by unfold inR; omega)) ?_
            refine ih (e + 1) false (by omega) (by omega) ?_
            rw [ex_s]
            refine ⟨(fun w => by cases w), fun w => ?_⟩
            exfalso
            have hrf : ¬ ro = true := by simp_all
            rcases w with w | ⟨w1, w2⟩
            · exact hrf (hro.mpr w)
            · first
                | exact absurd (by assumption) w1
                | exact absurd (by assumption) w2
          · skip
            try simp only [b2_cast, b2_ncast, Classical.not_not, lcm_lt, lcm_ge, lcm_gt, lcm_le, lcm_eq, b2_0, b2_n0, Bool.not_eq_false, Bool.not_eq_true] at bh8
            refine V.blk [(52, .bipush 1, 1), (53, .goto 57, 3), (57, .istore 1, 1), (58, .iinc 2 1, 3), (61, .goto 12, 3)] (ps := [inR ((e : Int) + 1)]) (z' := (12, [some (aR 52), some (aI 1), some (aI ((e + 1 : Nat) : Int))], [], MM N I J)) (by decide +kernel) rfl (show (inR ((e : Int) + 1)) from (by unfold inR; omega)) ?_
            refine ih (e + 1) true (by omega) (by omega) ?_
            rw [ex_s]
            refine ⟨fun _ => ?_, fun _ => rfl⟩
            first
              | exact Or.inr ⟨by assumption, by assumption⟩
              | (refine Or.inl (hro.mp ?_)
                 assumption)
theorem m_isRing {N : Nat} {I : MI} {J : MJ} {K : MI} {L : MJ} (hE : EdH K L I) : CT 132 [aR 52] (MM N I J) (fun rv M' => ∃ b I', rv = some (aI (b2 b)) ∧ M' = MM N I' J ∧ (∀ i, i ≠ 78 → i ≠ 79 → i ≠ 80 → i ≠ 81 → i ≠ 82 → I' i = I i) ∧ (b = true ↔ ¬ ∃ z, stab (EX8 K L (cbX K (I 52 37))) (EX9 K L (cbX K (I 52 37))) z ∧ nng z)) := by
  have hR : ∀ a b c, a < 48 → b < 48 → c < 48 → (∀ z, stab (EX8 K L (cbX K (I 52 37))) (EX9 K L (cbX K (I 52 37))) z → z b ≤ z a) → (∀ z, stab (EX8 K L (cbX K (I 52 37))) (EX9 K L (cbX K (I 52 37))) z → z c ≤ z b) → ∀ z, stab (EX8 K L (cbX K (I 52 37))) (EX9 K L (cbX K (I 52 37))) z → z c ≤ z a := fun a b c _ _ _ h1 h2 z hz => Int.le_trans (h2 z hz) (h1 z hz)
  refine CT.ofV (n := 3) (ls := [some (aR 52), none, none]) rfl rfl rfl ?_
  refine V.blk [(0, .aload 0, 1)] (ps := []) (z' := (1, [some (aR 52), none, none], [aR 52], MM N I J)) (by decide +kernel) rfl trivial ?_
  refine V.cv (c := 130) (na := 1) (o := 10) (a := 52) [] [] (by decide +kernel) rfl rfl rfl rfl rfl ((m_findEdges hE).mono (fun rv M1 q => ?_))
  obtain ⟨rfl, IE, rfl, f1, f2⟩ := q
  show V 132 (4, [some (aR 52), none, none], [], MM N IE J) _
  refine V.blk [(4, .aload 0, 1)] (ps := []) (z' := (5, [some (aR 52), none, none], [aR 52], MM N IE J)) (by decide +kernel) rfl trivial ?_
  refine V.cv (c := 131) (na := 1) (o := 10) (a := 52) [] [] (by decide +kernel) rfl rfl rfl rfl rfl ((m_comes (A := EX8 K L (cbX K (I 52 37))) hR (fun a _ z _ => Int.le_refl _) (fun a b ha hb => (f2 a b ha hb).1.symm) (fun a b ha hb w z hz => (hz a b ha hb).1 w)).mono (fun rv M1 q => ?_))
  obtain ⟨rfl, IC, rfl, c1, c2⟩ := q
  show V 132 (8, [some (aR 52), none, none], [], MM N IC J) _
  refine V.blk [(8, .bipush 0, 1), (9, .istore 1, 1), (10, .bipush 0, 1), (11, .istore 2, 1)] (ps := []) (z' := (12, [some (aR 52), some (aI 0), some (aI 0)], [], MM N IC J)) (by decide +kernel) rfl trivial ?_
  refine (l_ring (N := N) (J := J) 2305 0 false (by omega) (by omega) ⟨(fun w => by cases w), (fun w => by obtain ⟨q, hq, -⟩ := w; omega)⟩).mono (fun rv M2 q => ?_)
  obtain ⟨b, rfl, rfl, hb⟩ := q
  refine ⟨b, IC, rfl, rfl, fun i a1 a2 a3 a4 a5 => (c1 i a5).trans (f1 i a1 a2 a3 a4), ?_⟩
  rw [hb]
  have e79 : ∀ q, IC 79 q = IE 79 q := fun q => by rw [c1 79 (by decide)]
  constructor
  · rintro ⟨q, hq, w1, w2⟩ ⟨z, hz, -⟩
    rw [e79] at w1
    have hq1 : q = 48 * (q / 48) + q % 48 := by omega
    rw [hq1] at w1
    have t := (f2 (q / 48) (q % 48) (by omega) (by omega)).2.mp w1
    have s1 := (hz (q / 48) (q % 48) (by omega) (by omega)).2 t
    rw [show q % 48 * 48 + q / 48 = 48 * (q % 48) + q / 48 by omega] at w2
    have s2 := c2.2.2.1 (q % 48) (q / 48) (by omega) (by omega) w2 z hz
    omega
  · intro w
    apply Classical.byContradiction
    intro w2
    apply w
    refine ring_no (R := fun _ _ => True) (C := fun a b => IC 82 (48 * a + b) ≠ 0) (fun a b ha hb t => ?_) c2.1 c2.2.1 (fun j hj => c2.2.2.2 j hj hj) (fun w3 => w2 ?_)
    · obtain ⟨p, t1, t2, t3⟩ := t
      exact ⟨p, t1, askd_or.mpr (Or.inr t2), t3⟩
    · obtain ⟨a, b, ha, hb, t, u⟩ := w3
      refine ⟨48 * a + b, by omega, ?_, ?_⟩
      · rw [e79]; exact (f2 a b ha hb).2.mpr t
      · rw [show (48 * a + b) % 48 * 48 + (48 * a + b) / 48 = 48 * b + a by omega]; exact u
