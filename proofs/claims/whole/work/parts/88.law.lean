/-! ===== the law: each of its calls ===== -/
theorem CT.rt {y : Nat} {args : List AV} {M : M5} {Q : Option AV → M5 → Prop} (h : CT y args M Q) : CT y args M (fun r M' => Q r M' ∧ retOk y r) := by
  obtain ⟨d, r, M', h1, h2⟩ := h
  exact ⟨d, r, M', h1, h2, Rn_ret h1⟩
theorem CT.ok {L : Nat} {xs : Nat → Int32} {y : Nat} {args : List AV} {M : M5} {Q : Option AV → M5 → Prop} (h : CT y args M Q) (ha : ∀ v ∈ args, okV v) (hM : okM L xs M) : CT y args M (fun r M' => Q r M' ∧ okM L xs M') := by
  obtain ⟨d, r, M', h1, h2⟩ := h
  exact ⟨d, r, M', h1, h2, (Rn_ok L xs d _ _ _ _ _ h1 ha hM).2.1⟩
theorem scr_eq {L : Nat} {xs : Nat → Int32} {M M1 : M5} (h : okM L xs M) (h1 : okM L xs M1) : M1.2.2.2.1 SCR = M.2.2.2.1 SCR := by
  funext k
  have a := congrArg Int32.toInt ((h.2.2.2.2 k).trans (h1.2.2.2.2 k).symm)
  rw [i32_toInt (h.2.1 _ _), i32_toInt (h1.2.1 _ _)] at a
  exact a.symm
abbrev LSx (i : Nat) : LV := [some (aR SCR), some (aR 0), some (aR 52), some (aI (i : Int))]
section GO
variable {N n : Nat} {xs : Nat → Int32} {I : MI} {J : MJ} {yX yM pc : Nat} {argsX argsM : List AV} {ls : LV} {st : List AV} {Q : Option AV → M5 → Prop}
theorem CT.go (h : CT yX argsX (MM N I J) (QBoth N n yM argsM)) (hi : mR yX = some .int) (ha : ∀ v ∈ argsX, okV v) (hM : okM N xs (MM N I J)) (k : ∀ z I1 J1, okM N xs (MM N I1 J1) → I1 SCR = I SCR → CT yM argsM (MM N I1 J1) (fun r' M2 => ∃ I2 J2, r' = some (aI z) ∧ M2 = MM N I2 J2 ∧ INV (n + 1) I2 J2) → V 0 (pc, ls, aI z :: st, MM N I1 J1) Q) : CT yX argsX (MM N I J) (fun rv M1 => V 0 (pc, ls, rv.toList ++ st, M1) Q) := by
  refine (h.rt.ok ha hM).mono fun r M1 q => ?_
  obtain ⟨⟨⟨a, I1, J1, rfl, rfl, hc⟩, hr⟩, hok⟩ := q
  match a, hr, hc with
  | .inl z, _, hc => exact k z I1 J1 hok (scr_eq hM hok) hc
  | .inr (.inl w), hr, _ =>
    have hr : mR yX = some .long := hr
    rw [hi] at hr
    cases hr
  | .inr (.inr w), hr, _ => exact hr.elim
theorem CT.goL (h : CT yX argsX (MM N I J) (QBoth N n yM argsM)) (hi : mR yX = some .long) (ha : ∀ v ∈ argsX, okV v) (hM : okM N xs (MM N I J)) (k : ∀ z I1 J1, okM N xs (MM N I1 J1) → I1 SCR = I SCR → CT yM argsM (MM N I1 J1) (fun r' M2 => ∃ I2 J2, r' = some (aL z) ∧ M2 = MM N I2 J2 ∧ INV (n + 1) I2 J2) → V 0 (pc, ls, aL z :: st, MM N I1 J1) Q) : CT yX argsX (MM N I J) (fun rv M1 => V 0 (pc, ls, rv.toList ++ st, M1) Q) := by
  refine (h.rt.ok ha hM).mono fun r M1 q => ?_
  obtain ⟨⟨⟨a, I1, J1, rfl, rfl, hc⟩, hr⟩, hok⟩ := q
  match a, hr, hc with
  | .inr (.inl z), _, hc => exact k z I1 J1 hok (scr_eq hM hok) hc
  | .inl w, hr, _ =>
    have hr : retI yX w := hr
    unfold retI at hr
    rw [hi] at hr
    rcases hr with hr | ⟨hr, -⟩ <;> cases hr
  | .inr (.inr w), hr, _ => exact hr.elim
theorem CT.go2 {z : AV} (h : CT yM argsM (MM N I J) (fun r' M2 => ∃ I2 J2, r' = some z ∧ M2 = MM N I2 J2 ∧ INV (n + 1) I2 J2)) (ha : ∀ v ∈ argsM, okV v) (hM : okM N xs (MM N I J)) (k : ∀ I2 J2, okM N xs (MM N I2 J2) → INV (n + 1) I2 J2 → V 0 (pc, ls, z :: st, MM N I2 J2) Q) : CT yM argsM (MM N I J) (fun rv M1 => V 0 (pc, ls, rv.toList ++ st, M1) Q) := by
  refine (h.ok ha hM).mono fun r M1 q => ?_
  obtain ⟨⟨I2, J2, rfl, rfl, h2⟩, hok⟩ := q
  exact k I2 J2 hok h2
end GO
theorem okA (a : Nat) : ∀ l : List Int, (∀ z ∈ l, inR z) → ∀ v ∈ aR a :: l.map aI, okV v := by
  intro l hl v hv
  rcases List.mem_cons.mp hv with rfl | hv
  · exact trivial
  · obtain ⟨z, hz, rfl⟩ := List.mem_map.mp hv
    exact hl z hz
theorem okI {f : Nat → Int} (h : ∀ k, inR (f k)) : ∀ l : List Nat, ∀ z ∈ l.map f, inR z := by
  intro l z hz
  obtain ⟨k, -, rfl⟩ := List.mem_map.mp hz
  exact h k
theorem okJ {f : Nat → Int} (h : ∀ k, inR (f k)) {e : Int} (he : 0 ≤ e ∧ e ≤ 1) : ∀ l : List Nat, ∀ z ∈ l.map f ++ [e], inR z := by
  intro l z hz
  rcases List.mem_append.mp hz with hz | hz
  · exact okI h l z hz
  · rw [List.mem_singleton] at hz
    subst hz
    unfold inR
    omega
theorem lcm_self (x : Int64) : lcm x x = 0 := (lcm_eq x x).mpr rfl
theorem INV.next {n : Nat} {I : MI} {J : MJ} (h : INV n I J) : INV (n + 1) I J := by
  obtain ⟨a, b, c, d, e⟩ := h
  exact ⟨a, b, c, by omega, fun k hk => by have := e k hk; omega⟩
section LAW
variable {N n i : Nat} {xs : Nat → Int32} {I : MI} {J : MJ} {Q : Option AV → M5 → Prop}
theorem law_0 (h : INV n I J) (hn : n ≤ 900) (hN : i + 6 ≤ N) (hN2 : N ≤ 3072) (hM : okM N xs (MM N I J)) (cont : ∀ I2 J2, okM N xs (MM N I2 J2) → INV (n + 1) I2 J2 → V 0 (1303, LSx i, [], MM N I2 J2) Q) : V 0 (180, LSx i, [], MM N I J) Q := by
  refine V.blk [(180, .aload 1, 1), (181, .aload 0, 1), (182, .iload 3, 1), (183, .bipush 1, 1), (184, .iadd, 1), (185, .caload, 1)] (ps := [inR ((i : Int) + 1), 0 ≤ ((i + 1 : Nat) : Int) ∧ ((i + 1 : Nat) : Int) < N]) (z' := (186, LSx i, [aI (I SCR (i + 1)), aR 0], MM N I J)) (by decide +kernel) rfl (show (inR ((i : Int) + 1)) ∧ (0 ≤ ((i + 1 : Nat) : Int) ∧ ((i + 1 : Nat) : Int) < N) from ⟨(by unfold inR; omega), (by omega)⟩) ?_
  refine V.cv (c := 65) (na := 2) (o := 9) (a := 0) [aI (I SCR (i + 1))] [] (by decide +kernel) rfl rfl rfl rfl rfl (CT.go (n := n) (b_thing h hn (hM.2.1 _ _)) rfl (okA 0 (([i + 1] : List Nat).map (I SCR)) (okI (f := I SCR) (fun k => hM.2.1 SCR k) [i + 1])) hM (fun z I1 J1 hM1 e hc => ?_))
  show V 0 (189, LSx i, [aI z], MM N I1 J1) _
  refine V.blk [(189, .aload 2, 1), (190, .aload 0, 1), (191, .iload 3, 1), (192, .bipush 1, 1), (193, .iadd, 1), (194, .caload, 1)] (ps := [inR ((i : Int) + 1), 0 ≤ ((i + 1 : Nat) : Int) ∧ ((i + 1 : Nat) : Int) < N]) (z' := (195, LSx i, [aI (I1 SCR (i + 1)), aR 52, aI z], MM N I1 J1)) (by decide +kernel) rfl (show (inR ((i : Int) + 1)) ∧ (0 ≤ ((i + 1 : Nat) : Int) ∧ ((i + 1 : Nat) : Int) < N) from ⟨(by unfold inR; omega), (by omega)⟩) ?_
  rw [e]
  refine V.cv (c := 133) (na := 2) (o := 10) (a := 52) [aI (I SCR (i + 1))] [aI z] (by decide +kernel) rfl rfl rfl rfl rfl (CT.go2 hc (okA 52 (([i + 1] : List Nat).map (I SCR)) (okI (f := I SCR) (fun k => hM.2.1 SCR k) [i + 1])) hM1 (fun I2 J2 hM2 h2 => ?_))
  show V 0 (198, LSx i, [aI z, aI z], MM N I2 J2) _
  refine V.blk [(198, .if_icmp .eq 1303, 3)] (ps := []) (z' := (brc .eq z z 1303 201, LSx i, [], MM N I2 J2)) (by decide +kernel) rfl trivial ?_
  exact V.eq (fun _ => cont I2 J2 hM2 h2) (fun hz => absurd rfl hz)
theorem law_1 (h : INV n I J) (hn : n ≤ 900) (hN : i + 6 ≤ N) (hN2 : N ≤ 3072) (hM : okM N xs (MM N I J)) (cont : ∀ I2 J2, okM N xs (MM N I2 J2) → INV (n + 1) I2 J2 → V 0 (1303, LSx i, [], MM N I2 J2) Q) : V 0 (203, LSx i, [], MM N I J) Q := by
  refine V.blk [(203, .aload 1, 1), (204, .aload 0, 1), (205, .iload 3, 1), (206, .bipush 1, 1), (207, .iadd, 1), (208, .caload, 1), (209, .aload 0, 1), (210, .iload 3, 1), (211, .bipush 2, 1), (212, .iadd, 1), (213, .caload, 1), (214, .aload 0, 1), (215, .iload 3, 1), (216, .bipush 3, 1), (217, .iadd, 1), (218, .caload, 1), (219, .aload 0, 1), (220, .iload 3, 1), (221, .bipush 4, 1), (222, .iadd, 1), (223, .caload, 1)] (ps := [inR ((i : Int) + 1), 0 ≤ ((i + 1 : Nat) : Int) ∧ ((i + 1 : Nat) : Int) < N, inR ((i : Int) + 2), 0 ≤ ((i + 2 : Nat) : Int) ∧ ((i + 2 : Nat) : Int) < N, inR ((i : Int) + 3), 0 ≤ ((i + 3 : Nat) : Int) ∧ ((i + 3 : Nat) : Int) < N, inR ((i : Int) + 4), 0 ≤ ((i + 4 : Nat) : Int) ∧ ((i + 4 : Nat) : Int) < N]) (z' := (224, LSx i, [aI (I SCR (i + 4)), aI (I SCR (i + 3)), aI (I SCR (i + 2)), aI (I SCR (i + 1)), aR 0], MM N I J)) (by decide +kernel) rfl (show (inR ((i : Int) + 1)) ∧ (0 ≤ ((i + 1 : Nat) : Int) ∧ ((i + 1 : Nat) : Int) < N) ∧ (inR ((i : Int) + 2)) ∧ (0 ≤ ((i + 2 : Nat) : Int) ∧ ((i + 2 : Nat) : Int) < N) ∧ (inR ((i : Int) + 3)) ∧ (0 ≤ ((i + 3 : Nat) : Int) ∧ ((i + 3 : Nat) : Int) < N) ∧ (inR ((i : Int) + 4)) ∧ (0 ≤ ((i + 4 : Nat) : Int) ∧ ((i + 4 : Nat) : Int) < N) from ⟨(by unfold inR; omega), (by omega), (by unfold inR; omega), (by omega), (by unfold inR; omega), (by omega), (by unfold inR; omega), (by omega)⟩) ?_
  refine V.cv (c := 66) (na := 5) (o := 9) (a := 0) [aI (I SCR (i + 4)), aI (I SCR (i + 3)), aI (I SCR (i + 2)), aI (I SCR (i + 1))] [] (by decide +kernel) rfl rfl rfl rfl rfl (CT.go (n := n) (b_rule h hn (hM.2.1 _ _)) rfl (okA 0 (([i + 1, i + 2, i + 3, i + 4] : List Nat).map (I SCR)) (okI (f := I SCR) (fun k => hM.2.1 SCR k) [i + 1, i + 2, i + 3, i + 4])) hM (fun z I1 J1 hM1 e hc => ?_))
  show V 0 (227, LSx i, [aI z], MM N I1 J1) _
  refine V.blk [(227, .aload 2, 1), (228, .aload 0, 1), (229, .iload 3, 1), (230, .bipush 1, 1), (231, .iadd, 1), (232, .caload, 1), (233, .aload 0, 1), (234, .iload 3, 1), (235, .bipush 2, 1), (236, .iadd, 1), (237, .caload, 1), (238, .aload 0, 1), (239, .iload 3, 1), (240, .bipush 3, 1), (241, .iadd, 1), (242, .caload, 1), (243, .aload 0, 1), (244, .iload 3, 1), (245, .bipush 4, 1), (246, .iadd, 1), (247, .caload, 1)] (ps := [inR ((i : Int) + 1), 0 ≤ ((i + 1 : Nat) : Int) ∧ ((i + 1 : Nat) : Int) < N, inR ((i : Int) + 2), 0 ≤ ((i + 2 : Nat) : Int) ∧ ((i + 2 : Nat) : Int) < N, inR ((i : Int) + 3), 0 ≤ ((i + 3 : Nat) : Int) ∧ ((i + 3 : Nat) : Int) < N, inR ((i : Int) + 4), 0 ≤ ((i + 4 : Nat) : Int) ∧ ((i + 4 : Nat) : Int) < N]) (z' := (248, LSx i, [aI (I1 SCR (i + 4)), aI (I1 SCR (i + 3)), aI (I1 SCR (i + 2)), aI (I1 SCR (i + 1)), aR 52, aI z], MM N I1 J1)) (by decide +kernel) rfl (show (inR ((i : Int) + 1)) ∧ (0 ≤ ((i + 1 : Nat) : Int) ∧ ((i + 1 : Nat) : Int) < N) ∧ (inR ((i : Int) + 2)) ∧ (0 ≤ ((i + 2 : Nat) : Int) ∧ ((i + 2 : Nat) : Int) < N) ∧ (inR ((i : Int) + 3)) ∧ (0 ≤ ((i + 3 : Nat) : Int) ∧ ((i + 3 : Nat) : Int) < N) ∧ (inR ((i : Int) + 4)) ∧ (0 ≤ ((i + 4 : Nat) : Int) ∧ ((i + 4 : Nat) : Int) < N) from ⟨(by unfold inR; omega), (by omega), (by unfold inR; omega), (by omega), (by unfold inR; omega), (by omega), (by unfold inR; omega), (by omega)⟩) ?_
  rw [e]
  refine V.cv (c := 135) (na := 5) (o := 10) (a := 52) [aI (I SCR (i + 4)), aI (I SCR (i + 3)), aI (I SCR (i + 2)), aI (I SCR (i + 1))] [aI z] (by decide +kernel) rfl rfl rfl rfl rfl (CT.go2 hc (okA 52 (([i + 1, i + 2, i + 3, i + 4] : List Nat).map (I SCR)) (okI (f := I SCR) (fun k => hM.2.1 SCR k) [i + 1, i + 2, i + 3, i + 4])) hM1 (fun I2 J2 hM2 h2 => ?_))
  show V 0 (251, LSx i, [aI z, aI z], MM N I2 J2) _
  refine V.blk [(251, .if_icmp .eq 1303, 3)] (ps := []) (z' := (brc .eq z z 1303 254, LSx i, [], MM N I2 J2)) (by decide +kernel) rfl trivial ?_
  exact V.eq (fun _ => cont I2 J2 hM2 h2) (fun hz => absurd rfl hz)
theorem law_2 (h : INV n I J) (hn : n ≤ 900) (hN : i + 6 ≤ N) (hN2 : N ≤ 3072) (hM : okM N xs (MM N I J)) (cont : ∀ I2 J2, okM N xs (MM N I2 J2) → INV (n + 1) I2 J2 → V 0 (1303, LSx i, [], MM N I2 J2) Q) : V 0 (256, LSx i, [], MM N I J) Q := by
  refine V.blk [(256, .aload 1, 1), (257, .aload 0, 1), (258, .iload 3, 1), (259, .bipush 1, 1), (260, .iadd, 1), (261, .caload, 1), (262, .aload 0, 1), (263, .iload 3, 1), (264, .bipush 2, 1), (265, .iadd, 1), (266, .caload, 1)] (ps := [inR ((i : Int) + 1), 0 ≤ ((i + 1 : Nat) : Int) ∧ ((i + 1 : Nat) : Int) < N, inR ((i : Int) + 2), 0 ≤ ((i + 2 : Nat) : Int) ∧ ((i + 2 : Nat) : Int) < N]) (z' := (267, LSx i, [aI (I SCR (i + 2)), aI (I SCR (i + 1)), aR 0], MM N I J)) (by decide +kernel) rfl (show (inR ((i : Int) + 1)) ∧ (0 ≤ ((i + 1 : Nat) : Int) ∧ ((i + 1 : Nat) : Int) < N) ∧ (inR ((i : Int) + 2)) ∧ (0 ≤ ((i + 2 : Nat) : Int) ∧ ((i + 2 : Nat) : Int) < N) from ⟨(by unfold inR; omega), (by omega), (by unfold inR; omega), (by omega)⟩) ?_
  refine V.cv (c := 67) (na := 3) (o := 9) (a := 0) [aI (I SCR (i + 2)), aI (I SCR (i + 1))] [] (by decide +kernel) rfl rfl rfl rfl rfl (CT.go (n := n) (b_name h hn ) rfl (okA 0 (([i + 1, i + 2] : List Nat).map (I SCR)) (okI (f := I SCR) (fun k => hM.2.1 SCR k) [i + 1, i + 2])) hM (fun z I1 J1 hM1 e hc => ?_))
  show V 0 (270, LSx i, [aI z], MM N I1 J1) _
  refine V.blk [(270, .aload 2, 1), (271, .aload 0, 1), (272, .iload 3, 1), (273, .bipush 1, 1), (274, .iadd, 1), (275, .caload, 1), (276, .aload 0, 1), (277, .iload 3, 1), (278, .bipush 2, 1), (279, .iadd, 1), (280, .caload, 1)] (ps := [inR ((i : Int) + 1), 0 ≤ ((i + 1 : Nat) : Int) ∧ ((i + 1 : Nat) : Int) < N, inR ((i : Int) + 2), 0 ≤ ((i + 2 : Nat) : Int) ∧ ((i + 2 : Nat) : Int) < N]) (z' := (281, LSx i, [aI (I1 SCR (i + 2)), aI (I1 SCR (i + 1)), aR 52, aI z], MM N I1 J1)) (by decide +kernel) rfl (show (inR ((i : Int) + 1)) ∧ (0 ≤ ((i + 1 : Nat) : Int) ∧ ((i + 1 : Nat) : Int) < N) ∧ (inR ((i : Int) + 2)) ∧ (0 ≤ ((i + 2 : Nat) : Int) ∧ ((i + 2 : Nat) : Int) < N) from ⟨(by unfold inR; omega), (by omega), (by unfold inR; omega), (by omega)⟩) ?_
  rw [e]
  refine V.cv (c := 136) (na := 3) (o := 10) (a := 52) [aI (I SCR (i + 2)), aI (I SCR (i + 1))] [aI z] (by decide +kernel) rfl rfl rfl rfl rfl (CT.go2 hc (okA 52 (([i + 1, i + 2] : List Nat).map (I SCR)) (okI (f := I SCR) (fun k => hM.2.1 SCR k) [i + 1, i + 2])) hM1 (fun I2 J2 hM2 h2 => ?_))
  show V 0 (284, LSx i, [aI z, aI z], MM N I2 J2) _
  refine V.blk [(284, .if_icmp .eq 1303, 3)] (ps := []) (z' := (brc .eq z z 1303 287, LSx i, [], MM N I2 J2)) (by decide +kernel) rfl trivial ?_
  exact V.eq (fun _ => cont I2 J2 hM2 h2) (fun hz => absurd rfl hz)
theorem law_3 (h : INV n I J) (hn : n ≤ 900) (hN : i + 6 ≤ N) (hN2 : N ≤ 3072) (hM : okM N xs (MM N I J)) (cont : ∀ I2 J2, okM N xs (MM N I2 J2) → INV (n + 1) I2 J2 → V 0 (1303, LSx i, [], MM N I2 J2) Q) : V 0 (289, LSx i, [], MM N I J) Q := by
  refine V.blk [(289, .aload 1, 1), (290, .aload 0, 1), (291, .iload 3, 1), (292, .bipush 1, 1), (293, .iadd, 1), (294, .caload, 1)] (ps := [inR ((i : Int) + 1), 0 ≤ ((i + 1 : Nat) : Int) ∧ ((i + 1 : Nat) : Int) < N]) (z' := (295, LSx i, [aI (I SCR (i + 1)), aR 0], MM N I J)) (by decide +kernel) rfl (show (inR ((i : Int) + 1)) ∧ (0 ≤ ((i + 1 : Nat) : Int) ∧ ((i + 1 : Nat) : Int) < N) from ⟨(by unfold inR; omega), (by omega)⟩) ?_
  refine V.cv (c := 68) (na := 2) (o := 9) (a := 0) [aI (I SCR (i + 1))] [] (by decide +kernel) rfl rfl rfl rfl rfl (CT.go (n := n) (b_empty h hn ) rfl (okA 0 (([i + 1] : List Nat).map (I SCR)) (okI (f := I SCR) (fun k => hM.2.1 SCR k) [i + 1])) hM (fun z I1 J1 hM1 e hc => ?_))
  show V 0 (298, LSx i, [aI z], MM N I1 J1) _
  refine V.blk [(298, .aload 2, 1), (299, .aload 0, 1), (300, .iload 3, 1), (301, .bipush 1, 1), (302, .iadd, 1), (303, .caload, 1)] (ps := [inR ((i : Int) + 1), 0 ≤ ((i + 1 : Nat) : Int) ∧ ((i + 1 : Nat) : Int) < N]) (z' := (304, LSx i, [aI (I1 SCR (i + 1)), aR 52, aI z], MM N I1 J1)) (by decide +kernel) rfl (show (inR ((i : Int) + 1)) ∧ (0 ≤ ((i + 1 : Nat) : Int) ∧ ((i + 1 : Nat) : Int) < N) from ⟨(by unfold inR; omega), (by omega)⟩) ?_
  rw [e]
  refine V.cv (c := 137) (na := 2) (o := 10) (a := 52) [aI (I SCR (i + 1))] [aI z] (by decide +kernel) rfl rfl rfl rfl rfl (CT.go2 hc (okA 52 (([i + 1] : List Nat).map (I SCR)) (okI (f := I SCR) (fun k => hM.2.1 SCR k) [i + 1])) hM1 (fun I2 J2 hM2 h2 => ?_))
  show V 0 (307, LSx i, [aI z, aI z], MM N I2 J2) _
  refine V.blk [(307, .if_icmp .eq 1303, 3)] (ps := []) (z' := (brc .eq z z 1303 310, LSx i, [], MM N I2 J2)) (by decide +kernel) rfl trivial ?_
  exact V.eq (fun _ => cont I2 J2 hM2 h2) (fun hz => absurd rfl hz)
theorem law_4 (h : INV n I J) (hn : n ≤ 900) (hN : i + 6 ≤ N) (hN2 : N ≤ 3072) (hM : okM N xs (MM N I J)) (cont : ∀ I2 J2, okM N xs (MM N I2 J2) → INV (n + 1) I2 J2 → V 0 (1303, LSx i, [], MM N I2 J2) Q) : V 0 (312, LSx i, [], MM N I J) Q := by
  refine V.blk [(312, .aload 1, 1), (313, .aload 0, 1), (314, .iload 3, 1), (315, .bipush 1, 1), (316, .iadd, 1), (317, .caload, 1)] (ps := [inR ((i : Int) + 1), 0 ≤ ((i + 1 : Nat) : Int) ∧ ((i + 1 : Nat) : Int) < N]) (z' := (318, LSx i, [aI (I SCR (i + 1)), aR 0], MM N I J)) (by decide +kernel) rfl (show (inR ((i : Int) + 1)) ∧ (0 ≤ ((i + 1 : Nat) : Int) ∧ ((i + 1 : Nat) : Int) < N) from ⟨(by unfold inR; omega), (by omega)⟩) ?_
  refine V.cv (c := 69) (na := 2) (o := 9) (a := 0) [aI (I SCR (i + 1))] [] (by decide +kernel) rfl rfl rfl rfl rfl (CT.go (n := n) (b_holds h hn ) rfl (okA 0 (([i + 1] : List Nat).map (I SCR)) (okI (f := I SCR) (fun k => hM.2.1 SCR k) [i + 1])) hM (fun z I1 J1 hM1 e hc => ?_))
  show V 0 (321, LSx i, [aI z], MM N I1 J1) _
  refine V.blk [(321, .aload 2, 1), (322, .aload 0, 1), (323, .iload 3, 1), (324, .bipush 1, 1), (325, .iadd, 1), (326, .caload, 1)] (ps := [inR ((i : Int) + 1), 0 ≤ ((i + 1 : Nat) : Int) ∧ ((i + 1 : Nat) : Int) < N]) (z' := (327, LSx i, [aI (I1 SCR (i + 1)), aR 52, aI z], MM N I1 J1)) (by decide +kernel) rfl (show (inR ((i : Int) + 1)) ∧ (0 ≤ ((i + 1 : Nat) : Int) ∧ ((i + 1 : Nat) : Int) < N) from ⟨(by unfold inR; omega), (by omega)⟩) ?_
  rw [e]
  refine V.cv (c := 138) (na := 2) (o := 10) (a := 52) [aI (I SCR (i + 1))] [aI z] (by decide +kernel) rfl rfl rfl rfl rfl (CT.go2 hc (okA 52 (([i + 1] : List Nat).map (I SCR)) (okI (f := I SCR) (fun k => hM.2.1 SCR k) [i + 1])) hM1 (fun I2 J2 hM2 h2 => ?_))
  show V 0 (330, LSx i, [aI z, aI z], MM N I2 J2) _
  refine V.blk [(330, .if_icmp .eq 1303, 3)] (ps := []) (z' := (brc .eq z z 1303 333, LSx i, [], MM N I2 J2)) (by decide +kernel) rfl trivial ?_
  exact V.eq (fun _ => cont I2 J2 hM2 h2) (fun hz => absurd rfl hz)
theorem law_5 (h : INV n I J) (hn : n ≤ 900) (hN : i + 6 ≤ N) (hN2 : N ≤ 3072) (hM : okM N xs (MM N I J)) (cont : ∀ I2 J2, okM N xs (MM N I2 J2) → INV (n + 1) I2 J2 → V 0 (1303, LSx i, [], MM N I2 J2) Q) : V 0 (335, LSx i, [], MM N I J) Q := by
  refine V.blk [(335, .aload 1, 1), (336, .aload 0, 1), (337, .iload 3, 1), (338, .bipush 1, 1), (339, .iadd, 1), (340, .caload, 1), (341, .aload 0, 1), (342, .iload 3, 1), (343, .bipush 2, 1), (344, .iadd, 1), (345, .caload, 1)] (ps := [inR ((i : Int) + 1), 0 ≤ ((i + 1 : Nat) : Int) ∧ ((i + 1 : Nat) : Int) < N, inR ((i : Int) + 2), 0 ≤ ((i + 2 : Nat) : Int) ∧ ((i + 2 : Nat) : Int) < N]) (z' := (346, LSx i, [aI (I SCR (i + 2)), aI (I SCR (i + 1)), aR 0], MM N I J)) (by decide +kernel) rfl (show (inR ((i : Int) + 1)) ∧ (0 ≤ ((i + 1 : Nat) : Int) ∧ ((i + 1 : Nat) : Int) < N) ∧ (inR ((i : Int) + 2)) ∧ (0 ≤ ((i + 2 : Nat) : Int) ∧ ((i + 2 : Nat) : Int) < N) from ⟨(by unfold inR; omega), (by omega), (by unfold inR; omega), (by omega)⟩) ?_
  refine V.cv (c := 70) (na := 3) (o := 9) (a := 0) [aI (I SCR (i + 2)), aI (I SCR (i + 1))] [] (by decide +kernel) rfl rfl rfl rfl rfl (CT.go (n := n) (b_asks h hn (hM.2.1 _ _)) rfl (okA 0 (([i + 1, i + 2] : List Nat).map (I SCR)) (okI (f := I SCR) (fun k => hM.2.1 SCR k) [i + 1, i + 2])) hM (fun z I1 J1 hM1 e hc => ?_))
  show V 0 (349, LSx i, [aI z], MM N I1 J1) _
  refine V.blk [(349, .aload 2, 1), (350, .aload 0, 1), (351, .iload 3, 1), (352, .bipush 1, 1), (353, .iadd, 1), (354, .caload, 1), (355, .aload 0, 1), (356, .iload 3, 1), (357, .bipush 2, 1), (358, .iadd, 1), (359, .caload, 1)] (ps := [inR ((i : Int) + 1), 0 ≤ ((i + 1 : Nat) : Int) ∧ ((i + 1 : Nat) : Int) < N, inR ((i : Int) + 2), 0 ≤ ((i + 2 : Nat) : Int) ∧ ((i + 2 : Nat) : Int) < N]) (z' := (360, LSx i, [aI (I1 SCR (i + 2)), aI (I1 SCR (i + 1)), aR 52, aI z], MM N I1 J1)) (by decide +kernel) rfl (show (inR ((i : Int) + 1)) ∧ (0 ≤ ((i + 1 : Nat) : Int) ∧ ((i + 1 : Nat) : Int) < N) ∧ (inR ((i : Int) + 2)) ∧ (0 ≤ ((i + 2 : Nat) : Int) ∧ ((i + 2 : Nat) : Int) < N) from ⟨(by unfold inR; omega), (by omega), (by unfold inR; omega), (by omega)⟩) ?_
  rw [e]
  refine V.cv (c := 139) (na := 3) (o := 10) (a := 52) [aI (I SCR (i + 2)), aI (I SCR (i + 1))] [aI z] (by decide +kernel) rfl rfl rfl rfl rfl (CT.go2 hc (okA 52 (([i + 1, i + 2] : List Nat).map (I SCR)) (okI (f := I SCR) (fun k => hM.2.1 SCR k) [i + 1, i + 2])) hM1 (fun I2 J2 hM2 h2 => ?_))
  show V 0 (363, LSx i, [aI z, aI z], MM N I2 J2) _
  refine V.blk [(363, .if_icmp .eq 1303, 3)] (ps := []) (z' := (brc .eq z z 1303 366, LSx i, [], MM N I2 J2)) (by decide +kernel) rfl trivial ?_
  exact V.eq (fun _ => cont I2 J2 hM2 h2) (fun hz => absurd rfl hz)
theorem law_6 (h : INV n I J) (hn : n ≤ 900) (hN : i + 6 ≤ N) (hN2 : N ≤ 3072) (hM : okM N xs (MM N I J)) (cont : ∀ I2 J2, okM N xs (MM N I2 J2) → INV (n + 1) I2 J2 → V 0 (1303, LSx i, [], MM N I2 J2) Q) : V 0 (368, LSx i, [], MM N I J) Q := by
  refine V.blk [(368, .aload 1, 1), (369, .aload 0, 1), (370, .iload 3, 1), (371, .bipush 1, 1), (372, .iadd, 1), (373, .caload, 1)] (ps := [inR ((i : Int) + 1), 0 ≤ ((i + 1 : Nat) : Int) ∧ ((i + 1 : Nat) : Int) < N]) (z' := (374, LSx i, [aI (I SCR (i + 1)), aR 0], MM N I J)) (by decide +kernel) rfl (show (inR ((i : Int) + 1)) ∧ (0 ≤ ((i + 1 : Nat) : Int) ∧ ((i + 1 : Nat) : Int) < N) from ⟨(by unfold inR; omega), (by omega)⟩) ?_
  refine V.cv (c := 71) (na := 2) (o := 9) (a := 0) [aI (I SCR (i + 1))] [] (by decide +kernel) rfl rfl rfl rfl rfl (CT.go (n := n) (b_named h hn ) rfl (okA 0 (([i + 1] : List Nat).map (I SCR)) (okI (f := I SCR) (fun k => hM.2.1 SCR k) [i + 1])) hM (fun z I1 J1 hM1 e hc => ?_))
  show V 0 (377, LSx i, [aI z], MM N I1 J1) _
  refine V.blk [(377, .aload 2, 1), (378, .aload 0, 1), (379, .iload 3, 1), (380, .bipush 1, 1), (381, .iadd, 1), (382, .caload, 1)] (ps := [inR ((i : Int) + 1), 0 ≤ ((i + 1 : Nat) : Int) ∧ ((i + 1 : Nat) : Int) < N]) (z' := (383, LSx i, [aI (I1 SCR (i + 1)), aR 52, aI z], MM N I1 J1)) (by decide +kernel) rfl (show (inR ((i : Int) + 1)) ∧ (0 ≤ ((i + 1 : Nat) : Int) ∧ ((i + 1 : Nat) : Int) < N) from ⟨(by unfold inR; omega), (by omega)⟩) ?_
  rw [e]
  refine V.cv (c := 140) (na := 2) (o := 10) (a := 52) [aI (I SCR (i + 1))] [aI z] (by decide +kernel) rfl rfl rfl rfl rfl (CT.go2 hc (okA 52 (([i + 1] : List Nat).map (I SCR)) (okI (f := I SCR) (fun k => hM.2.1 SCR k) [i + 1])) hM1 (fun I2 J2 hM2 h2 => ?_))
  show V 0 (386, LSx i, [aI z, aI z], MM N I2 J2) _
  refine V.blk [(386, .if_icmp .eq 1303, 3)] (ps := []) (z' := (brc .eq z z 1303 389, LSx i, [], MM N I2 J2)) (by decide +kernel) rfl trivial ?_
  exact V.eq (fun _ => cont I2 J2 hM2 h2) (fun hz => absurd rfl hz)
theorem law_7 (h : INV n I J) (hn : n ≤ 900) (hN : i + 6 ≤ N) (hN2 : N ≤ 3072) (hM : okM N xs (MM N I J)) (cont : ∀ I2 J2, okM N xs (MM N I2 J2) → INV (n + 1) I2 J2 → V 0 (1303, LSx i, [], MM N I2 J2) Q) : V 0 (391, LSx i, [], MM N I J) Q := by
  refine V.blk [(391, .aload 1, 1), (392, .aload 0, 1), (393, .iload 3, 1), (394, .bipush 1, 1), (395, .iadd, 1), (396, .caload, 1), (397, .aload 0, 1), (398, .iload 3, 1), (399, .bipush 2, 1), (400, .iadd, 1), (401, .caload, 1), (402, .aload 0, 1), (403, .iload 3, 1), (404, .bipush 3, 1), (405, .iadd, 1), (406, .caload, 1)] (ps := [inR ((i : Int) + 1), 0 ≤ ((i + 1 : Nat) : Int) ∧ ((i + 1 : Nat) : Int) < N, inR ((i : Int) + 2), 0 ≤ ((i + 2 : Nat) : Int) ∧ ((i + 2 : Nat) : Int) < N, inR ((i : Int) + 3), 0 ≤ ((i + 3 : Nat) : Int) ∧ ((i + 3 : Nat) : Int) < N]) (z' := (407, LSx i, [aI (I SCR (i + 3)), aI (I SCR (i + 2)), aI (I SCR (i + 1)), aR 0], MM N I J)) (by decide +kernel) rfl (show (inR ((i : Int) + 1)) ∧ (0 ≤ ((i + 1 : Nat) : Int) ∧ ((i + 1 : Nat) : Int) < N) ∧ (inR ((i : Int) + 2)) ∧ (0 ≤ ((i + 2 : Nat) : Int) ∧ ((i + 2 : Nat) : Int) < N) ∧ (inR ((i : Int) + 3)) ∧ (0 ≤ ((i + 3 : Nat) : Int) ∧ ((i + 3 : Nat) : Int) < N) from ⟨(by unfold inR; omega), (by omega), (by unfold inR; omega), (by omega), (by unfold inR; omega), (by omega)⟩) ?_
  refine V.cv (c := 72) (na := 4) (o := 9) (a := 0) [aI (I SCR (i + 3)), aI (I SCR (i + 2)), aI (I SCR (i + 1))] [] (by decide +kernel) rfl rfl rfl rfl rfl (CT.go (n := n) (b_relate h hn (hM.2.1 _ _)) rfl (okA 0 (([i + 1, i + 2, i + 3] : List Nat).map (I SCR)) (okI (f := I SCR) (fun k => hM.2.1 SCR k) [i + 1, i + 2, i + 3])) hM (fun z I1 J1 hM1 e hc => ?_))
  show V 0 (410, LSx i, [aI z], MM N I1 J1) _
  refine V.blk [(410, .aload 2, 1), (411, .aload 0, 1), (412, .iload 3, 1), (413, .bipush 1, 1), (414, .iadd, 1), (415, .caload, 1), (416, .aload 0, 1), (417, .iload 3, 1), (418, .bipush 2, 1), (419, .iadd, 1), (420, .caload, 1), (421, .aload 0, 1), (422, .iload 3, 1), (423, .bipush 3, 1), (424, .iadd, 1), (425, .caload, 1)] (ps := [inR ((i : Int) + 1), 0 ≤ ((i + 1 : Nat) : Int) ∧ ((i + 1 : Nat) : Int) < N, inR ((i : Int) + 2), 0 ≤ ((i + 2 : Nat) : Int) ∧ ((i + 2 : Nat) : Int) < N, inR ((i : Int) + 3), 0 ≤ ((i + 3 : Nat) : Int) ∧ ((i + 3 : Nat) : Int) < N]) (z' := (426, LSx i, [aI (I1 SCR (i + 3)), aI (I1 SCR (i + 2)), aI (I1 SCR (i + 1)), aR 52, aI z], MM N I1 J1)) (by decide +kernel) rfl (show (inR ((i : Int) + 1)) ∧ (0 ≤ ((i + 1 : Nat) : Int) ∧ ((i + 1 : Nat) : Int) < N) ∧ (inR ((i : Int) + 2)) ∧ (0 ≤ ((i + 2 : Nat) : Int) ∧ ((i + 2 : Nat) : Int) < N) ∧ (inR ((i : Int) + 3)) ∧ (0 ≤ ((i + 3 : Nat) : Int) ∧ ((i + 3 : Nat) : Int) < N) from ⟨(by unfold inR; omega), (by omega), (by unfold inR; omega), (by omega), (by unfold inR; omega), (by omega)⟩) ?_
  rw [e]
  refine V.cv (c := 141) (na := 4) (o := 10) (a := 52) [aI (I SCR (i + 3)), aI (I SCR (i + 2)), aI (I SCR (i + 1))] [aI z] (by decide +kernel) rfl rfl rfl rfl rfl (CT.go2 hc (okA 52 (([i + 1, i + 2, i + 3] : List Nat).map (I SCR)) (okI (f := I SCR) (fun k => hM.2.1 SCR k) [i + 1, i + 2, i + 3])) hM1 (fun I2 J2 hM2 h2 => ?_))
  show V 0 (429, LSx i, [aI z, aI z], MM N I2 J2) _
  refine V.blk [(429, .if_icmp .eq 1303, 3)] (ps := []) (z' := (brc .eq z z 1303 432, LSx i, [], MM N I2 J2)) (by decide +kernel) rfl trivial ?_
  exact V.eq (fun _ => cont I2 J2 hM2 h2) (fun hz => absurd rfl hz)
theorem law_8 (h : INV n I J) (hn : n ≤ 900) (hN : i + 6 ≤ N) (hN2 : N ≤ 3072) (hM : okM N xs (MM N I J)) (cont : ∀ I2 J2, okM N xs (MM N I2 J2) → INV (n + 1) I2 J2 → V 0 (1303, LSx i, [], MM N I2 J2) Q) : V 0 (434, LSx i, [], MM N I J) Q := by
  refine V.blk [(434, .aload 1, 1), (435, .aload 0, 1), (436, .iload 3, 1), (437, .bipush 1, 1), (438, .iadd, 1), (439, .caload, 1), (440, .aload 0, 1), (441, .iload 3, 1), (442, .bipush 2, 1), (443, .iadd, 1), (444, .caload, 1), (445, .aload 0, 1), (446, .iload 3, 1), (447, .bipush 3, 1), (448, .iadd, 1), (449, .caload, 1), (450, .aload 0, 1), (451, .iload 3, 1), (452, .bipush 4, 1), (453, .iadd, 1), (454, .caload, 1)] (ps := [inR ((i : Int) + 1), 0 ≤ ((i + 1 : Nat) : Int) ∧ ((i + 1 : Nat) : Int) < N, inR ((i : Int) + 2), 0 ≤ ((i + 2 : Nat) : Int) ∧ ((i + 2 : Nat) : Int) < N, inR ((i : Int) + 3), 0 ≤ ((i + 3 : Nat) : Int) ∧ ((i + 3 : Nat) : Int) < N, inR ((i : Int) + 4), 0 ≤ ((i + 4 : Nat) : Int) ∧ ((i + 4 : Nat) : Int) < N]) (z' := (455, LSx i, [aI (I SCR (i + 4)), aI (I SCR (i + 3)), aI (I SCR (i + 2)), aI (I SCR (i + 1)), aR 0], MM N I J)) (by decide +kernel) rfl (show (inR ((i : Int) + 1)) ∧ (0 ≤ ((i + 1 : Nat) : Int) ∧ ((i + 1 : Nat) : Int) < N) ∧ (inR ((i : Int) + 2)) ∧ (0 ≤ ((i + 2 : Nat) : Int) ∧ ((i + 2 : Nat) : Int) < N) ∧ (inR ((i : Int) + 3)) ∧ (0 ≤ ((i + 3 : Nat) : Int) ∧ ((i + 3 : Nat) : Int) < N) ∧ (inR ((i : Int) + 4)) ∧ (0 ≤ ((i + 4 : Nat) : Int) ∧ ((i + 4 : Nat) : Int) < N) from ⟨(by unfold inR; omega), (by omega), (by unfold inR; omega), (by omega), (by unfold inR; omega), (by omega), (by unfold inR; omega), (by omega)⟩) ?_
  refine V.cv (c := 73) (na := 5) (o := 9) (a := 0) [aI (I SCR (i + 4)), aI (I SCR (i + 3)), aI (I SCR (i + 2)), aI (I SCR (i + 1))] [] (by decide +kernel) rfl rfl rfl rfl rfl (CT.go (n := n) (b_write h hn (hM.2.1 _ _) (hM.2.1 _ _)) rfl (okA 0 (([i + 1, i + 2, i + 3, i + 4] : List Nat).map (I SCR)) (okI (f := I SCR) (fun k => hM.2.1 SCR k) [i + 1, i + 2, i + 3, i + 4])) hM (fun z I1 J1 hM1 e hc => ?_))
  show V 0 (458, LSx i, [aI z], MM N I1 J1) _
  refine V.blk [(458, .aload 2, 1), (459, .aload 0, 1), (460, .iload 3, 1), (461, .bipush 1, 1), (462, .iadd, 1), (463, .caload, 1), (464, .aload 0, 1), (465, .iload 3, 1), (466, .bipush 2, 1), (467, .iadd, 1), (468, .caload, 1), (469, .aload 0, 1), (470, .iload 3, 1), (471, .bipush 3, 1), (472, .iadd, 1), (473, .caload, 1), (474, .aload 0, 1), (475, .iload 3, 1), (476, .bipush 4, 1), (477, .iadd, 1), (478, .caload, 1)] (ps := [inR ((i : Int) + 1), 0 ≤ ((i + 1 : Nat) : Int) ∧ ((i + 1 : Nat) : Int) < N, inR ((i : Int) + 2), 0 ≤ ((i + 2 : Nat) : Int) ∧ ((i + 2 : Nat) : Int) < N, inR ((i : Int) + 3), 0 ≤ ((i + 3 : Nat) : Int) ∧ ((i + 3 : Nat) : Int) < N, inR ((i : Int) + 4), 0 ≤ ((i + 4 : Nat) : Int) ∧ ((i + 4 : Nat) : Int) < N]) (z' := (479, LSx i, [aI (I1 SCR (i + 4)), aI (I1 SCR (i + 3)), aI (I1 SCR (i + 2)), aI (I1 SCR (i + 1)), aR 52, aI z], MM N I1 J1)) (by decide +kernel) rfl (show (inR ((i : Int) + 1)) ∧ (0 ≤ ((i + 1 : Nat) : Int) ∧ ((i + 1 : Nat) : Int) < N) ∧ (inR ((i : Int) + 2)) ∧ (0 ≤ ((i + 2 : Nat) : Int) ∧ ((i + 2 : Nat) : Int) < N) ∧ (inR ((i : Int) + 3)) ∧ (0 ≤ ((i + 3 : Nat) : Int) ∧ ((i + 3 : Nat) : Int) < N) ∧ (inR ((i : Int) + 4)) ∧ (0 ≤ ((i + 4 : Nat) : Int) ∧ ((i + 4 : Nat) : Int) < N) from ⟨(by unfold inR; omega), (by omega), (by unfold inR; omega), (by omega), (by unfold inR; omega), (by omega), (by unfold inR; omega), (by omega)⟩) ?_
  rw [e]
  refine V.cv (c := 143) (na := 5) (o := 10) (a := 52) [aI (I SCR (i + 4)), aI (I SCR (i + 3)), aI (I SCR (i + 2)), aI (I SCR (i + 1))] [aI z] (by decide +kernel) rfl rfl rfl rfl rfl (CT.go2 hc (okA 52 (([i + 1, i + 2, i + 3, i + 4] : List Nat).map (I SCR)) (okI (f := I SCR) (fun k => hM.2.1 SCR k) [i + 1, i + 2, i + 3, i + 4])) hM1 (fun I2 J2 hM2 h2 => ?_))
  show V 0 (482, LSx i, [aI z, aI z], MM N I2 J2) _
  refine V.blk [(482, .if_icmp .eq 1303, 3)] (ps := []) (z' := (brc .eq z z 1303 485, LSx i, [], MM N I2 J2)) (by decide +kernel) rfl trivial ?_
  exact V.eq (fun _ => cont I2 J2 hM2 h2) (fun hz => absurd rfl hz)
theorem law_9 (h : INV n I J) (hn : n ≤ 900) (hN : i + 6 ≤ N) (hN2 : N ≤ 3072) (hM : okM N xs (MM N I J)) (cont : ∀ I2 J2, okM N xs (MM N I2 J2) → INV (n + 1) I2 J2 → V 0 (1303, LSx i, [], MM N I2 J2) Q) : V 0 (487, LSx i, [], MM N I J) Q := by
  refine V.blk [(487, .aload 1, 1), (488, .aload 0, 1), (489, .iload 3, 1), (490, .bipush 1, 1), (491, .iadd, 1), (492, .caload, 1), (493, .aload 0, 1), (494, .iload 3, 1), (495, .bipush 2, 1), (496, .iadd, 1), (497, .caload, 1), (498, .aload 0, 1), (499, .iload 3, 1), (500, .bipush 3, 1), (501, .iadd, 1), (502, .caload, 1)] (ps := [inR ((i : Int) + 1), 0 ≤ ((i + 1 : Nat) : Int) ∧ ((i + 1 : Nat) : Int) < N, inR ((i : Int) + 2), 0 ≤ ((i + 2 : Nat) : Int) ∧ ((i + 2 : Nat) : Int) < N, inR ((i : Int) + 3), 0 ≤ ((i + 3 : Nat) : Int) ∧ ((i + 3 : Nat) : Int) < N]) (z' := (503, LSx i, [aI (I SCR (i + 3)), aI (I SCR (i + 2)), aI (I SCR (i + 1)), aR 0], MM N I J)) (by decide +kernel) rfl (show (inR ((i : Int) + 1)) ∧ (0 ≤ ((i + 1 : Nat) : Int) ∧ ((i + 1 : Nat) : Int) < N) ∧ (inR ((i : Int) + 2)) ∧ (0 ≤ ((i + 2 : Nat) : Int) ∧ ((i + 2 : Nat) : Int) < N) ∧ (inR ((i : Int) + 3)) ∧ (0 ≤ ((i + 3 : Nat) : Int) ∧ ((i + 3 : Nat) : Int) < N) from ⟨(by unfold inR; omega), (by omega), (by unfold inR; omega), (by omega), (by unfold inR; omega), (by omega)⟩) ?_
  refine V.cv (c := 74) (na := 4) (o := 9) (a := 0) [aI (I SCR (i + 3)), aI (I SCR (i + 2)), aI (I SCR (i + 1))] [] (by decide +kernel) rfl rfl rfl rfl rfl (CT.go (n := n) (b_strike h hn (hM.2.1 _ _)) rfl (okA 0 (([i + 1, i + 2, i + 3] : List Nat).map (I SCR)) (okI (f := I SCR) (fun k => hM.2.1 SCR k) [i + 1, i + 2, i + 3])) hM (fun z I1 J1 hM1 e hc => ?_))
  show V 0 (506, LSx i, [aI z], MM N I1 J1) _
  refine V.blk [(506, .aload 2, 1), (507, .aload 0, 1), (508, .iload 3, 1), (509, .bipush 1, 1), (510, .iadd, 1), (511, .caload, 1), (512, .aload 0, 1), (513, .iload 3, 1), (514, .bipush 2, 1), (515, .iadd, 1), (516, .caload, 1), (517, .aload 0, 1), (518, .iload 3, 1), (519, .bipush 3, 1), (520, .iadd, 1), (521, .caload, 1)] (ps := [inR ((i : Int) + 1), 0 ≤ ((i + 1 : Nat) : Int) ∧ ((i + 1 : Nat) : Int) < N, inR ((i : Int) + 2), 0 ≤ ((i + 2 : Nat) : Int) ∧ ((i + 2 : Nat) : Int) < N, inR ((i : Int) + 3), 0 ≤ ((i + 3 : Nat) : Int) ∧ ((i + 3 : Nat) : Int) < N]) (z' := (522, LSx i, [aI (I1 SCR (i + 3)), aI (I1 SCR (i + 2)), aI (I1 SCR (i + 1)), aR 52, aI z], MM N I1 J1)) (by decide +kernel) rfl (show (inR ((i : Int) + 1)) ∧ (0 ≤ ((i + 1 : Nat) : Int) ∧ ((i + 1 : Nat) : Int) < N) ∧ (inR ((i : Int) + 2)) ∧ (0 ≤ ((i + 2 : Nat) : Int) ∧ ((i + 2 : Nat) : Int) < N) ∧ (inR ((i : Int) + 3)) ∧ (0 ≤ ((i + 3 : Nat) : Int) ∧ ((i + 3 : Nat) : Int) < N) from ⟨(by unfold inR; omega), (by omega), (by unfold inR; omega), (by omega), (by unfold inR; omega), (by omega)⟩) ?_
  rw [e]
  refine V.cv (c := 144) (na := 4) (o := 10) (a := 52) [aI (I SCR (i + 3)), aI (I SCR (i + 2)), aI (I SCR (i + 1))] [aI z] (by decide +kernel) rfl rfl rfl rfl rfl (CT.go2 hc (okA 52 (([i + 1, i + 2, i + 3] : List Nat).map (I SCR)) (okI (f := I SCR) (fun k => hM.2.1 SCR k) [i + 1, i + 2, i + 3])) hM1 (fun I2 J2 hM2 h2 => ?_))
  show V 0 (525, LSx i, [aI z, aI z], MM N I2 J2) _
  refine V.blk [(525, .if_icmp .eq 1303, 3)] (ps := []) (z' := (brc .eq z z 1303 528, LSx i, [], MM N I2 J2)) (by decide +kernel) rfl trivial ?_
  exact V.eq (fun _ => cont I2 J2 hM2 h2) (fun hz => absurd rfl hz)
theorem law_10 (h : INV n I J) (hn : n ≤ 900) (hN : i + 6 ≤ N) (hN2 : N ≤ 3072) (hM : okM N xs (MM N I J)) (cont : ∀ I2 J2, okM N xs (MM N I2 J2) → INV (n + 1) I2 J2 → V 0 (1303, LSx i, [], MM N I2 J2) Q) : V 0 (530, LSx i, [], MM N I J) Q := by
  refine V.blk [(530, .aload 1, 1), (531, .aload 0, 1), (532, .iload 3, 1), (533, .bipush 1, 1), (534, .iadd, 1), (535, .caload, 1), (536, .aload 0, 1), (537, .iload 3, 1), (538, .bipush 2, 1), (539, .iadd, 1), (540, .caload, 1), (541, .aload 0, 1), (542, .iload 3, 1), (543, .bipush 3, 1), (544, .iadd, 1), (545, .caload, 1), (546, .aload 0, 1), (547, .iload 3, 1), (548, .bipush 4, 1), (549, .iadd, 1), (550, .caload, 1), (551, .ifCond .eq 558, 3)] (ps := [inR ((i : Int) + 1), 0 ≤ ((i + 1 : Nat) : Int) ∧ ((i + 1 : Nat) : Int) < N, inR ((i : Int) + 2), 0 ≤ ((i + 2 : Nat) : Int) ∧ ((i + 2 : Nat) : Int) < N, inR ((i : Int) + 3), 0 ≤ ((i + 3 : Nat) : Int) ∧ ((i + 3 : Nat) : Int) < N, inR ((i : Int) + 4), 0 ≤ ((i + 4 : Nat) : Int) ∧ ((i + 4 : Nat) : Int) < N]) (z' := (brc .eq (I SCR (i + 4)) 0 558 554, LSx i, [aI (I SCR (i + 3)), aI (I SCR (i + 2)), aI (I SCR (i + 1)), aR 0], MM N I J)) (by decide +kernel) rfl (show (inR ((i : Int) + 1)) ∧ (0 ≤ ((i + 1 : Nat) : Int) ∧ ((i + 1 : Nat) : Int) < N) ∧ (inR ((i : Int) + 2)) ∧ (0 ≤ ((i + 2 : Nat) : Int) ∧ ((i + 2 : Nat) : Int) < N) ∧ (inR ((i : Int) + 3)) ∧ (0 ≤ ((i + 3 : Nat) : Int) ∧ ((i + 3 : Nat) : Int) < N) ∧ (inR ((i : Int) + 4)) ∧ (0 ≤ ((i + 4 : Nat) : Int) ∧ ((i + 4 : Nat) : Int) < N) from ⟨(by unfold inR; omega), (by omega), (by unfold inR; omega), (by omega), (by unfold inR; omega), (by omega), (by unfold inR; omega), (by omega)⟩) ?_
  refine V.eq (fun hb => ?_) (fun hb => ?_)
  · skip
    refine V.blk [(558, .bipush 0, 1)] (ps := []) (z' := (559, LSx i, [aI 0, aI (I SCR (i + 3)), aI (I SCR (i + 2)), aI (I SCR (i + 1)), aR 0], MM N I J)) (by decide +kernel) rfl trivial ?_
    refine V.cv (c := 75) (na := 5) (o := 9) (a := 0) [aI 0, aI (I SCR (i + 3)), aI (I SCR (i + 2)), aI (I SCR (i + 1))] [] (by decide +kernel) rfl rfl rfl rfl rfl (CT.go (n := n) (b_when h hn (hM.2.1 _ _) (by decide)) rfl (okA 0 (([i + 1, i + 2, i + 3] : List Nat).map (I SCR) ++ [0]) (okJ (f := I SCR) (fun k => hM.2.1 SCR k) (e := 0) (by decide) [i + 1, i + 2, i + 3])) hM (fun z I1 J1 hM1 e hc => ?_))
    show V 0 (562, LSx i, [aI z], MM N I1 J1) _
    refine V.blk [(562, .aload 2, 1), (563, .aload 0, 1), (564, .iload 3, 1), (565, .bipush 1, 1), (566, .iadd, 1), (567, .caload, 1), (568, .aload 0, 1), (569, .iload 3, 1), (570, .bipush 2, 1), (571, .iadd, 1), (572, .caload, 1), (573, .aload 0, 1), (574, .iload 3, 1), (575, .bipush 3, 1), (576, .iadd, 1), (577, .caload, 1), (578, .aload 0, 1), (579, .iload 3, 1), (580, .bipush 4, 1), (581, .iadd, 1), (582, .caload, 1), (583, .ifCond .eq 590, 3)] (ps := [inR ((i : Int) + 1), 0 ≤ ((i + 1 : Nat) : Int) ∧ ((i + 1 : Nat) : Int) < N, inR ((i : Int) + 2), 0 ≤ ((i + 2 : Nat) : Int) ∧ ((i + 2 : Nat) : Int) < N, inR ((i : Int) + 3), 0 ≤ ((i + 3 : Nat) : Int) ∧ ((i + 3 : Nat) : Int) < N, inR ((i : Int) + 4), 0 ≤ ((i + 4 : Nat) : Int) ∧ ((i + 4 : Nat) : Int) < N]) (z' := (brc .eq (I1 SCR (i + 4)) 0 590 586, LSx i, [aI (I1 SCR (i + 3)), aI (I1 SCR (i + 2)), aI (I1 SCR (i + 1)), aR 52, aI z], MM N I1 J1)) (by decide +kernel) rfl (show (inR ((i : Int) + 1)) ∧ (0 ≤ ((i + 1 : Nat) : Int) ∧ ((i + 1 : Nat) : Int) < N) ∧ (inR ((i : Int) + 2)) ∧ (0 ≤ ((i + 2 : Nat) : Int) ∧ ((i + 2 : Nat) : Int) < N) ∧ (inR ((i : Int) + 3)) ∧ (0 ≤ ((i + 3 : Nat) : Int) ∧ ((i + 3 : Nat) : Int) < N) ∧ (inR ((i : Int) + 4)) ∧ (0 ≤ ((i + 4 : Nat) : Int) ∧ ((i + 4 : Nat) : Int) < N) from ⟨(by unfold inR; omega), (by omega), (by unfold inR; omega), (by omega), (by unfold inR; omega), (by omega), (by unfold inR; omega), (by omega)⟩) ?_
    rw [e]
    refine V.eq (fun _ => ?_) (fun hz => absurd hb hz)
    refine V.blk [(590, .bipush 0, 1)] (ps := []) (z' := (591, LSx i, [aI 0, aI (I SCR (i + 3)), aI (I SCR (i + 2)), aI (I SCR (i + 1)), aR 52, aI z], MM N I1 J1)) (by decide +kernel) rfl trivial ?_
    refine V.cv (c := 146) (na := 5) (o := 10) (a := 52) [aI 0, aI (I SCR (i + 3)), aI (I SCR (i + 2)), aI (I SCR (i + 1))] [aI z] (by decide +kernel) rfl rfl rfl rfl rfl (CT.go2 hc (okA 52 (([i + 1, i + 2, i + 3] : List Nat).map (I SCR) ++ [0]) (okJ (f := I SCR) (fun k => hM.2.1 SCR k) (e := 0) (by decide) [i + 1, i + 2, i + 3])) hM1 (fun I2 J2 hM2 h2 => ?_))
    show V 0 (594, LSx i, [aI z, aI z], MM N I2 J2) _
    refine V.blk [(594, .if_icmp .eq 1303, 3)] (ps := []) (z' := (brc .eq z z 1303 597, LSx i, [], MM N I2 J2)) (by decide +kernel) rfl trivial ?_
    exact V.eq (fun _ => cont I2 J2 hM2 h2) (fun hz => absurd rfl hz)
  · skip
    refine V.blk [(554, .bipush 1, 1), (555, .goto 559, 3)] (ps := []) (z' := (559, LSx i, [aI 1, aI (I SCR (i + 3)), aI (I SCR (i + 2)), aI (I SCR (i + 1)), aR 0], MM N I J)) (by decide +kernel) rfl trivial ?_
    refine V.cv (c := 75) (na := 5) (o := 9) (a := 0) [aI 1, aI (I SCR (i + 3)), aI (I SCR (i + 2)), aI (I SCR (i + 1))] [] (by decide +kernel) rfl rfl rfl rfl rfl (CT.go (n := n) (b_when h hn (hM.2.1 _ _) (by decide)) rfl (okA 0 (([i + 1, i + 2, i + 3] : List Nat).map (I SCR) ++ [1]) (okJ (f := I SCR) (fun k => hM.2.1 SCR k) (e := 1) (by decide) [i + 1, i + 2, i + 3])) hM (fun z I1 J1 hM1 e hc => ?_))
    show V 0 (562, LSx i, [aI z], MM N I1 J1) _
    refine V.blk [(562, .aload 2, 1), (563, .aload 0, 1), (564, .iload 3, 1), (565, .bipush 1, 1), (566, .iadd, 1), (567, .caload, 1), (568, .aload 0, 1), (569, .iload 3, 1), (570, .bipush 2, 1), (571, .iadd, 1), (572, .caload, 1), (573, .aload 0, 1), (574, .iload 3, 1), (575, .bipush 3, 1), (576, .iadd, 1), (577, .caload, 1), (578, .aload 0, 1), (579, .iload 3, 1), (580, .bipush 4, 1), (581, .iadd, 1), (582, .caload, 1), (583, .ifCond .eq 590, 3)] (ps := [inR ((i : Int) + 1), 0 ≤ ((i + 1 : Nat) : Int) ∧ ((i + 1 : Nat) : Int) < N, inR ((i : Int) + 2), 0 ≤ ((i + 2 : Nat) : Int) ∧ ((i + 2 : Nat) : Int) < N, inR ((i : Int) + 3), 0 ≤ ((i + 3 : Nat) : Int) ∧ ((i + 3 : Nat) : Int) < N, inR ((i : Int) + 4), 0 ≤ ((i + 4 : Nat) : Int) ∧ ((i + 4 : Nat) : Int) < N]) (z' := (brc .eq (I1 SCR (i + 4)) 0 590 586, LSx i, [aI (I1 SCR (i + 3)), aI (I1 SCR (i + 2)), aI (I1 SCR (i + 1)), aR 52, aI z], MM N I1 J1)) (by decide +kernel) rfl (show (inR ((i : Int) + 1)) ∧ (0 ≤ ((i + 1 : Nat) : Int) ∧ ((i + 1 : Nat) : Int) < N) ∧ (inR ((i : Int) + 2)) ∧ (0 ≤ ((i + 2 : Nat) : Int) ∧ ((i + 2 : Nat) : Int) < N) ∧ (inR ((i : Int) + 3)) ∧ (0 ≤ ((i + 3 : Nat) : Int) ∧ ((i + 3 : Nat) : Int) < N) ∧ (inR ((i : Int) + 4)) ∧ (0 ≤ ((i + 4 : Nat) : Int) ∧ ((i + 4 : Nat) : Int) < N) from ⟨(by unfold inR; omega), (by omega), (by unfold inR; omega), (by omega), (by unfold inR; omega), (by omega), (by unfold inR; omega), (by omega)⟩) ?_
    rw [e]
    refine V.eq (fun hz => absurd hz hb) (fun _ => ?_)
    refine V.blk [(586, .bipush 1, 1), (587, .goto 591, 3)] (ps := []) (z' := (591, LSx i, [aI 1, aI (I SCR (i + 3)), aI (I SCR (i + 2)), aI (I SCR (i + 1)), aR 52, aI z], MM N I1 J1)) (by decide +kernel) rfl trivial ?_
    refine V.cv (c := 146) (na := 5) (o := 10) (a := 52) [aI 1, aI (I SCR (i + 3)), aI (I SCR (i + 2)), aI (I SCR (i + 1))] [aI z] (by decide +kernel) rfl rfl rfl rfl rfl (CT.go2 hc (okA 52 (([i + 1, i + 2, i + 3] : List Nat).map (I SCR) ++ [1]) (okJ (f := I SCR) (fun k => hM.2.1 SCR k) (e := 1) (by decide) [i + 1, i + 2, i + 3])) hM1 (fun I2 J2 hM2 h2 => ?_))
    show V 0 (594, LSx i, [aI z, aI z], MM N I2 J2) _
    refine V.blk [(594, .if_icmp .eq 1303, 3)] (ps := []) (z' := (brc .eq z z 1303 597, LSx i, [], MM N I2 J2)) (by decide +kernel) rfl trivial ?_
    exact V.eq (fun _ => cont I2 J2 hM2 h2) (fun hz => absurd rfl hz)
theorem law_11 (h : INV n I J) (hn : n ≤ 900) (hN : i + 6 ≤ N) (hN2 : N ≤ 3072) (hM : okM N xs (MM N I J)) (cont : ∀ I2 J2, okM N xs (MM N I2 J2) → INV (n + 1) I2 J2 → V 0 (1303, LSx i, [], MM N I2 J2) Q) : V 0 (599, LSx i, [], MM N I J) Q := by
  refine V.blk [(599, .aload 1, 1)] (ps := []) (z' := (600, LSx i, [aR 0], MM N I J)) (by decide +kernel) rfl trivial ?_
  refine V.cv (c := 76) (na := 1) (o := 9) (a := 0) [] [] (by decide +kernel) rfl rfl rfl rfl rfl (CT.go (n := n) (b_forget h hn ) rfl (okA 0 (([] : List Nat).map (I SCR)) (okI (f := I SCR) (fun k => hM.2.1 SCR k) [])) hM (fun z I1 J1 hM1 e hc => ?_))
  show V 0 (603, LSx i, [aI z], MM N I1 J1) _
  refine V.blk [(603, .aload 2, 1)] (ps := []) (z' := (604, LSx i, [aR 52, aI z], MM N I1 J1)) (by decide +kernel) rfl trivial ?_
  refine V.cv (c := 147) (na := 1) (o := 10) (a := 52) [] [aI z] (by decide +kernel) rfl rfl rfl rfl rfl (CT.go2 hc (okA 52 (([] : List Nat).map (I SCR)) (okI (f := I SCR) (fun k => hM.2.1 SCR k) [])) hM1 (fun I2 J2 hM2 h2 => ?_))
  show V 0 (607, LSx i, [aI z, aI z], MM N I2 J2) _
  refine V.blk [(607, .if_icmp .eq 1303, 3)] (ps := []) (z' := (brc .eq z z 1303 610, LSx i, [], MM N I2 J2)) (by decide +kernel) rfl trivial ?_
  exact V.eq (fun _ => cont I2 J2 hM2 h2) (fun hz => absurd rfl hz)
theorem law_12 (h : INV n I J) (hn : n ≤ 900) (hN : i + 6 ≤ N) (hN2 : N ≤ 3072) (hM : okM N xs (MM N I J)) (cont : ∀ I2 J2, okM N xs (MM N I2 J2) → INV (n + 1) I2 J2 → V 0 (1303, LSx i, [], MM N I2 J2) Q) : V 0 (612, LSx i, [], MM N I J) Q := by
  refine V.blk [(612, .aload 1, 1)] (ps := []) (z' := (613, LSx i, [aR 0], MM N I J)) (by decide +kernel) rfl trivial ?_
  refine V.cv (c := 77) (na := 1) (o := 9) (a := 0) [] [] (by decide +kernel) rfl rfl rfl rfl rfl (CT.go (n := n) (b_commit h hn ) rfl (okA 0 (([] : List Nat).map (I SCR)) (okI (f := I SCR) (fun k => hM.2.1 SCR k) [])) hM (fun z I1 J1 hM1 e hc => ?_))
  show V 0 (616, LSx i, [aI z], MM N I1 J1) _
  refine V.blk [(616, .aload 2, 1)] (ps := []) (z' := (617, LSx i, [aR 52, aI z], MM N I1 J1)) (by decide +kernel) rfl trivial ?_
  refine V.cv (c := 153) (na := 1) (o := 10) (a := 52) [] [aI z] (by decide +kernel) rfl rfl rfl rfl rfl (CT.go2 hc (okA 52 (([] : List Nat).map (I SCR)) (okI (f := I SCR) (fun k => hM.2.1 SCR k) [])) hM1 (fun I2 J2 hM2 h2 => ?_))
  show V 0 (620, LSx i, [aI z, aI z], MM N I2 J2) _
  refine V.blk [(620, .if_icmp .eq 1303, 3)] (ps := []) (z' := (brc .eq z z 1303 623, LSx i, [], MM N I2 J2)) (by decide +kernel) rfl trivial ?_
  exact V.eq (fun _ => cont I2 J2 hM2 h2) (fun hz => absurd rfl hz)
theorem law_13 (h : INV n I J) (hn : n ≤ 900) (hN : i + 6 ≤ N) (hN2 : N ≤ 3072) (hM : okM N xs (MM N I J)) (cont : ∀ I2 J2, okM N xs (MM N I2 J2) → INV (n + 1) I2 J2 → V 0 (1303, LSx i, [], MM N I2 J2) Q) : V 0 (625, LSx i, [], MM N I J) Q := by
  refine V.blk [(625, .aload 1, 1)] (ps := []) (z' := (626, LSx i, [aR 0], MM N I J)) (by decide +kernel) rfl trivial ?_
  refine V.cv (c := 78) (na := 1) (o := 9) (a := 0) [] [] (by decide +kernel) rfl rfl rfl rfl rfl (CT.go (n := n) (b_failed h hn ) rfl (okA 0 (([] : List Nat).map (I SCR)) (okI (f := I SCR) (fun k => hM.2.1 SCR k) [])) hM (fun z I1 J1 hM1 e hc => ?_))
  show V 0 (629, LSx i, [aI z], MM N I1 J1) _
  refine V.blk [(629, .aload 2, 1)] (ps := []) (z' := (630, LSx i, [aR 52, aI z], MM N I1 J1)) (by decide +kernel) rfl trivial ?_
  refine V.cv (c := 154) (na := 1) (o := 10) (a := 52) [] [aI z] (by decide +kernel) rfl rfl rfl rfl rfl (CT.go2 hc (okA 52 (([] : List Nat).map (I SCR)) (okI (f := I SCR) (fun k => hM.2.1 SCR k) [])) hM1 (fun I2 J2 hM2 h2 => ?_))
  show V 0 (633, LSx i, [aI z, aI z], MM N I2 J2) _
  refine V.blk [(633, .if_icmp .eq 1303, 3)] (ps := []) (z' := (brc .eq z z 1303 636, LSx i, [], MM N I2 J2)) (by decide +kernel) rfl trivial ?_
  exact V.eq (fun _ => cont I2 J2 hM2 h2) (fun hz => absurd rfl hz)
theorem law_14 (h : INV n I J) (hn : n ≤ 900) (hN : i + 6 ≤ N) (hN2 : N ≤ 3072) (hM : okM N xs (MM N I J)) (cont : ∀ I2 J2, okM N xs (MM N I2 J2) → INV (n + 1) I2 J2 → V 0 (1303, LSx i, [], MM N I2 J2) Q) : V 0 (638, LSx i, [], MM N I J) Q := by
  refine V.blk [(638, .aload 1, 1), (639, .aload 0, 1), (640, .iload 3, 1), (641, .bipush 1, 1), (642, .iadd, 1), (643, .caload, 1)] (ps := [inR ((i : Int) + 1), 0 ≤ ((i + 1 : Nat) : Int) ∧ ((i + 1 : Nat) : Int) < N]) (z' := (644, LSx i, [aI (I SCR (i + 1)), aR 0], MM N I J)) (by decide +kernel) rfl (show (inR ((i : Int) + 1)) ∧ (0 ≤ ((i + 1 : Nat) : Int) ∧ ((i + 1 : Nat) : Int) < N) from ⟨(by unfold inR; omega), (by omega)⟩) ?_
  refine V.cv (c := 79) (na := 2) (o := 9) (a := 0) [aI (I SCR (i + 1))] [] (by decide +kernel) rfl rfl rfl rfl rfl (CT.go (n := n) (b_undo h hn (hM.2.1 _ _)) rfl (okA 0 (([i + 1] : List Nat).map (I SCR)) (okI (f := I SCR) (fun k => hM.2.1 SCR k) [i + 1])) hM (fun z I1 J1 hM1 e hc => ?_))
  show V 0 (647, LSx i, [aI z], MM N I1 J1) _
  refine V.blk [(647, .aload 2, 1), (648, .aload 0, 1), (649, .iload 3, 1), (650, .bipush 1, 1), (651, .iadd, 1), (652, .caload, 1)] (ps := [inR ((i : Int) + 1), 0 ≤ ((i + 1 : Nat) : Int) ∧ ((i + 1 : Nat) : Int) < N]) (z' := (653, LSx i, [aI (I1 SCR (i + 1)), aR 52, aI z], MM N I1 J1)) (by decide +kernel) rfl (show (inR ((i : Int) + 1)) ∧ (0 ≤ ((i + 1 : Nat) : Int) ∧ ((i + 1 : Nat) : Int) < N) from ⟨(by unfold inR; omega), (by omega)⟩) ?_
  rw [e]
  refine V.cv (c := 155) (na := 2) (o := 10) (a := 52) [aI (I SCR (i + 1))] [aI z] (by decide +kernel) rfl rfl rfl rfl rfl (CT.go2 hc (okA 52 (([i + 1] : List Nat).map (I SCR)) (okI (f := I SCR) (fun k => hM.2.1 SCR k) [i + 1])) hM1 (fun I2 J2 hM2 h2 => ?_))
  show V 0 (656, LSx i, [aI z, aI z], MM N I2 J2) _
  refine V.blk [(656, .if_icmp .eq 1303, 3)] (ps := []) (z' := (brc .eq z z 1303 659, LSx i, [], MM N I2 J2)) (by decide +kernel) rfl trivial ?_
  exact V.eq (fun _ => cont I2 J2 hM2 h2) (fun hz => absurd rfl hz)
theorem law_15 (h : INV n I J) (hn : n ≤ 900) (hN : i + 6 ≤ N) (hN2 : N ≤ 3072) (hM : okM N xs (MM N I J)) (cont : ∀ I2 J2, okM N xs (MM N I2 J2) → INV (n + 1) I2 J2 → V 0 (1303, LSx i, [], MM N I2 J2) Q) : V 0 (661, LSx i, [], MM N I J) Q := by
  refine V.blk [(661, .aload 1, 1), (662, .aload 0, 1), (663, .iload 3, 1), (664, .bipush 1, 1), (665, .iadd, 1), (666, .caload, 1)] (ps := [inR ((i : Int) + 1), 0 ≤ ((i + 1 : Nat) : Int) ∧ ((i + 1 : Nat) : Int) < N]) (z' := (667, LSx i, [aI (I SCR (i + 1)), aR 0], MM N I J)) (by decide +kernel) rfl (show (inR ((i : Int) + 1)) ∧ (0 ≤ ((i + 1 : Nat) : Int) ∧ ((i + 1 : Nat) : Int) < N) from ⟨(by unfold inR; omega), (by omega)⟩) ?_
  refine V.cv (c := 80) (na := 2) (o := 9) (a := 0) [aI (I SCR (i + 1))] [] (by decide +kernel) rfl rfl rfl rfl rfl (CT.go (n := n) (b_tick h hn (hM.2.1 _ _)) rfl (okA 0 (([i + 1] : List Nat).map (I SCR)) (okI (f := I SCR) (fun k => hM.2.1 SCR k) [i + 1])) hM (fun z I1 J1 hM1 e hc => ?_))
  show V 0 (670, LSx i, [aI z], MM N I1 J1) _
  refine V.blk [(670, .aload 2, 1), (671, .aload 0, 1), (672, .iload 3, 1), (673, .bipush 1, 1), (674, .iadd, 1), (675, .caload, 1)] (ps := [inR ((i : Int) + 1), 0 ≤ ((i + 1 : Nat) : Int) ∧ ((i + 1 : Nat) : Int) < N]) (z' := (676, LSx i, [aI (I1 SCR (i + 1)), aR 52, aI z], MM N I1 J1)) (by decide +kernel) rfl (show (inR ((i : Int) + 1)) ∧ (0 ≤ ((i + 1 : Nat) : Int) ∧ ((i + 1 : Nat) : Int) < N) from ⟨(by unfold inR; omega), (by omega)⟩) ?_
  rw [e]
  refine V.cv (c := 156) (na := 2) (o := 10) (a := 52) [aI (I SCR (i + 1))] [aI z] (by decide +kernel) rfl rfl rfl rfl rfl (CT.go2 hc (okA 52 (([i + 1] : List Nat).map (I SCR)) (okI (f := I SCR) (fun k => hM.2.1 SCR k) [i + 1])) hM1 (fun I2 J2 hM2 h2 => ?_))
  show V 0 (679, LSx i, [aI z, aI z], MM N I2 J2) _
  refine V.blk [(679, .if_icmp .eq 1303, 3)] (ps := []) (z' := (brc .eq z z 1303 682, LSx i, [], MM N I2 J2)) (by decide +kernel) rfl trivial ?_
  exact V.eq (fun _ => cont I2 J2 hM2 h2) (fun hz => absurd rfl hz)
theorem law_16 (h : INV n I J) (hn : n ≤ 900) (hN : i + 6 ≤ N) (hN2 : N ≤ 3072) (hM : okM N xs (MM N I J)) (cont : ∀ I2 J2, okM N xs (MM N I2 J2) → INV (n + 1) I2 J2 → V 0 (1303, LSx i, [], MM N I2 J2) Q) : V 0 (684, LSx i, [], MM N I J) Q := by
  refine V.blk [(684, .aload 1, 1), (685, .aload 0, 1), (686, .iload 3, 1), (687, .bipush 1, 1), (688, .iadd, 1), (689, .caload, 1)] (ps := [inR ((i : Int) + 1), 0 ≤ ((i + 1 : Nat) : Int) ∧ ((i + 1 : Nat) : Int) < N]) (z' := (690, LSx i, [aI (I SCR (i + 1)), aR 0], MM N I J)) (by decide +kernel) rfl (show (inR ((i : Int) + 1)) ∧ (0 ≤ ((i + 1 : Nat) : Int) ∧ ((i + 1 : Nat) : Int) < N) from ⟨(by unfold inR; omega), (by omega)⟩) ?_
  refine V.cv (c := 81) (na := 2) (o := 9) (a := 0) [aI (I SCR (i + 1))] [] (by decide +kernel) rfl rfl rfl rfl rfl (CT.go (n := n) (b_count h hn ) rfl (okA 0 (([i + 1] : List Nat).map (I SCR)) (okI (f := I SCR) (fun k => hM.2.1 SCR k) [i + 1])) hM (fun z I1 J1 hM1 e hc => ?_))
  show V 0 (693, LSx i, [aI z], MM N I1 J1) _
  refine V.blk [(693, .aload 2, 1), (694, .aload 0, 1), (695, .iload 3, 1), (696, .bipush 1, 1), (697, .iadd, 1), (698, .caload, 1)] (ps := [inR ((i : Int) + 1), 0 ≤ ((i + 1 : Nat) : Int) ∧ ((i + 1 : Nat) : Int) < N]) (z' := (699, LSx i, [aI (I1 SCR (i + 1)), aR 52, aI z], MM N I1 J1)) (by decide +kernel) rfl (show (inR ((i : Int) + 1)) ∧ (0 ≤ ((i + 1 : Nat) : Int) ∧ ((i + 1 : Nat) : Int) < N) from ⟨(by unfold inR; omega), (by omega)⟩) ?_
  rw [e]
  refine V.cv (c := 157) (na := 2) (o := 10) (a := 52) [aI (I SCR (i + 1))] [aI z] (by decide +kernel) rfl rfl rfl rfl rfl (CT.go2 hc (okA 52 (([i + 1] : List Nat).map (I SCR)) (okI (f := I SCR) (fun k => hM.2.1 SCR k) [i + 1])) hM1 (fun I2 J2 hM2 h2 => ?_))
  show V 0 (702, LSx i, [aI z, aI z], MM N I2 J2) _
  refine V.blk [(702, .if_icmp .eq 1303, 3)] (ps := []) (z' := (brc .eq z z 1303 705, LSx i, [], MM N I2 J2)) (by decide +kernel) rfl trivial ?_
  exact V.eq (fun _ => cont I2 J2 hM2 h2) (fun hz => absurd rfl hz)
theorem law_17 (h : INV n I J) (hn : n ≤ 900) (hN : i + 6 ≤ N) (hN2 : N ≤ 3072) (hM : okM N xs (MM N I J)) (cont : ∀ I2 J2, okM N xs (MM N I2 J2) → INV (n + 1) I2 J2 → V 0 (1303, LSx i, [], MM N I2 J2) Q) : V 0 (707, LSx i, [], MM N I J) Q := by
  refine V.blk [(707, .aload 1, 1), (708, .aload 0, 1), (709, .iload 3, 1), (710, .bipush 1, 1), (711, .iadd, 1), (712, .caload, 1)] (ps := [inR ((i : Int) + 1), 0 ≤ ((i + 1 : Nat) : Int) ∧ ((i + 1 : Nat) : Int) < N]) (z' := (713, LSx i, [aI (I SCR (i + 1)), aR 0], MM N I J)) (by decide +kernel) rfl (show (inR ((i : Int) + 1)) ∧ (0 ≤ ((i + 1 : Nat) : Int) ∧ ((i + 1 : Nat) : Int) < N) from ⟨(by unfold inR; omega), (by omega)⟩) ?_
  refine V.cv (c := 82) (na := 2) (o := 9) (a := 0) [aI (I SCR (i + 1))] [] (by decide +kernel) rfl rfl rfl rfl rfl (CT.go (n := n) (b_inForce h hn ) rfl (okA 0 (([i + 1] : List Nat).map (I SCR)) (okI (f := I SCR) (fun k => hM.2.1 SCR k) [i + 1])) hM (fun z I1 J1 hM1 e hc => ?_))
  show V 0 (716, LSx i, [aI z], MM N I1 J1) _
  refine V.blk [(716, .aload 2, 1), (717, .aload 0, 1), (718, .iload 3, 1), (719, .bipush 1, 1), (720, .iadd, 1), (721, .caload, 1)] (ps := [inR ((i : Int) + 1), 0 ≤ ((i + 1 : Nat) : Int) ∧ ((i + 1 : Nat) : Int) < N]) (z' := (722, LSx i, [aI (I1 SCR (i + 1)), aR 52, aI z], MM N I1 J1)) (by decide +kernel) rfl (show (inR ((i : Int) + 1)) ∧ (0 ≤ ((i + 1 : Nat) : Int) ∧ ((i + 1 : Nat) : Int) < N) from ⟨(by unfold inR; omega), (by omega)⟩) ?_
  rw [e]
  refine V.cv (c := 158) (na := 2) (o := 10) (a := 52) [aI (I SCR (i + 1))] [aI z] (by decide +kernel) rfl rfl rfl rfl rfl (CT.go2 hc (okA 52 (([i + 1] : List Nat).map (I SCR)) (okI (f := I SCR) (fun k => hM.2.1 SCR k) [i + 1])) hM1 (fun I2 J2 hM2 h2 => ?_))
  show V 0 (725, LSx i, [aI z, aI z], MM N I2 J2) _
  refine V.blk [(725, .if_icmp .eq 1303, 3)] (ps := []) (z' := (brc .eq z z 1303 728, LSx i, [], MM N I2 J2)) (by decide +kernel) rfl trivial ?_
  exact V.eq (fun _ => cont I2 J2 hM2 h2) (fun hz => absurd rfl hz)
theorem law_18 (h : INV n I J) (hn : n ≤ 900) (hN : i + 6 ≤ N) (hN2 : N ≤ 3072) (hM : okM N xs (MM N I J)) (cont : ∀ I2 J2, okM N xs (MM N I2 J2) → INV (n + 1) I2 J2 → V 0 (1303, LSx i, [], MM N I2 J2) Q) : V 0 (730, LSx i, [], MM N I J) Q := by
  refine V.blk [(730, .aload 1, 1), (731, .aload 0, 1), (732, .iload 3, 1), (733, .bipush 1, 1), (734, .iadd, 1), (735, .caload, 1), (736, .aload 0, 1), (737, .iload 3, 1), (738, .bipush 2, 1), (739, .iadd, 1), (740, .caload, 1)] (ps := [inR ((i : Int) + 1), 0 ≤ ((i + 1 : Nat) : Int) ∧ ((i + 1 : Nat) : Int) < N, inR ((i : Int) + 2), 0 ≤ ((i + 2 : Nat) : Int) ∧ ((i + 2 : Nat) : Int) < N]) (z' := (741, LSx i, [aI (I SCR (i + 2)), aI (I SCR (i + 1)), aR 0], MM N I J)) (by decide +kernel) rfl (show (inR ((i : Int) + 1)) ∧ (0 ≤ ((i + 1 : Nat) : Int) ∧ ((i + 1 : Nat) : Int) < N) ∧ (inR ((i : Int) + 2)) ∧ (0 ≤ ((i + 2 : Nat) : Int) ∧ ((i + 2 : Nat) : Int) < N) from ⟨(by unfold inR; omega), (by omega), (by unfold inR; omega), (by omega)⟩) ?_
  refine V.cv (c := 83) (na := 3) (o := 9) (a := 0) [aI (I SCR (i + 2)), aI (I SCR (i + 1))] [] (by decide +kernel) rfl rfl rfl rfl rfl (CT.go (n := n) (b_pair h hn (hM.2.1 _ _)) rfl (okA 0 (([i + 1, i + 2] : List Nat).map (I SCR)) (okI (f := I SCR) (fun k => hM.2.1 SCR k) [i + 1, i + 2])) hM (fun z I1 J1 hM1 e hc => ?_))
  show V 0 (744, LSx i, [aI z], MM N I1 J1) _
  refine V.blk [(744, .aload 2, 1), (745, .aload 0, 1), (746, .iload 3, 1), (747, .bipush 1, 1), (748, .iadd, 1), (749, .caload, 1), (750, .aload 0, 1), (751, .iload 3, 1), (752, .bipush 2, 1), (753, .iadd, 1), (754, .caload, 1)] (ps := [inR ((i : Int) + 1), 0 ≤ ((i + 1 : Nat) : Int) ∧ ((i + 1 : Nat) : Int) < N, inR ((i : Int) + 2), 0 ≤ ((i + 2 : Nat) : Int) ∧ ((i + 2 : Nat) : Int) < N]) (z' := (755, LSx i, [aI (I1 SCR (i + 2)), aI (I1 SCR (i + 1)), aR 52, aI z], MM N I1 J1)) (by decide +kernel) rfl (show (inR ((i : Int) + 1)) ∧ (0 ≤ ((i + 1 : Nat) : Int) ∧ ((i + 1 : Nat) : Int) < N) ∧ (inR ((i : Int) + 2)) ∧ (0 ≤ ((i + 2 : Nat) : Int) ∧ ((i + 2 : Nat) : Int) < N) from ⟨(by unfold inR; omega), (by omega), (by unfold inR; omega), (by omega)⟩) ?_
  rw [e]
  refine V.cv (c := 159) (na := 3) (o := 10) (a := 52) [aI (I SCR (i + 2)), aI (I SCR (i + 1))] [aI z] (by decide +kernel) rfl rfl rfl rfl rfl (CT.go2 hc (okA 52 (([i + 1, i + 2] : List Nat).map (I SCR)) (okI (f := I SCR) (fun k => hM.2.1 SCR k) [i + 1, i + 2])) hM1 (fun I2 J2 hM2 h2 => ?_))
  show V 0 (758, LSx i, [aI z, aI z], MM N I2 J2) _
  refine V.blk [(758, .if_icmp .eq 1303, 3)] (ps := []) (z' := (brc .eq z z 1303 761, LSx i, [], MM N I2 J2)) (by decide +kernel) rfl trivial ?_
  exact V.eq (fun _ => cont I2 J2 hM2 h2) (fun hz => absurd rfl hz)
theorem law_19 (h : INV n I J) (hn : n ≤ 900) (hN : i + 6 ≤ N) (hN2 : N ≤ 3072) (hM : okM N xs (MM N I J)) (cont : ∀ I2 J2, okM N xs (MM N I2 J2) → INV (n + 1) I2 J2 → V 0 (1303, LSx i, [], MM N I2 J2) Q) : V 0 (763, LSx i, [], MM N I J) Q := by
  refine V.blk [(763, .aload 1, 1), (764, .aload 0, 1), (765, .iload 3, 1), (766, .bipush 1, 1), (767, .iadd, 1), (768, .caload, 1), (769, .aload 0, 1), (770, .iload 3, 1), (771, .bipush 2, 1), (772, .iadd, 1), (773, .caload, 1)] (ps := [inR ((i : Int) + 1), 0 ≤ ((i + 1 : Nat) : Int) ∧ ((i + 1 : Nat) : Int) < N, inR ((i : Int) + 2), 0 ≤ ((i + 2 : Nat) : Int) ∧ ((i + 2 : Nat) : Int) < N]) (z' := (774, LSx i, [aI (I SCR (i + 2)), aI (I SCR (i + 1)), aR 0], MM N I J)) (by decide +kernel) rfl (show (inR ((i : Int) + 1)) ∧ (0 ≤ ((i + 1 : Nat) : Int) ∧ ((i + 1 : Nat) : Int) < N) ∧ (inR ((i : Int) + 2)) ∧ (0 ≤ ((i + 2 : Nat) : Int) ∧ ((i + 2 : Nat) : Int) < N) from ⟨(by unfold inR; omega), (by omega), (by unfold inR; omega), (by omega)⟩) ?_
  refine V.cv (c := 84) (na := 3) (o := 9) (a := 0) [aI (I SCR (i + 2)), aI (I SCR (i + 1))] [] (by decide +kernel) rfl rfl rfl rfl rfl (CT.go (n := n) (b_change h hn (hM.2.1 _ _)) rfl (okA 0 (([i + 1, i + 2] : List Nat).map (I SCR)) (okI (f := I SCR) (fun k => hM.2.1 SCR k) [i + 1, i + 2])) hM (fun z I1 J1 hM1 e hc => ?_))
  show V 0 (777, LSx i, [aI z], MM N I1 J1) _
  refine V.blk [(777, .aload 2, 1), (778, .aload 0, 1), (779, .iload 3, 1), (780, .bipush 1, 1), (781, .iadd, 1), (782, .caload, 1), (783, .aload 0, 1), (784, .iload 3, 1), (785, .bipush 2, 1), (786, .iadd, 1), (787, .caload, 1)] (ps := [inR ((i : Int) + 1), 0 ≤ ((i + 1 : Nat) : Int) ∧ ((i + 1 : Nat) : Int) < N, inR ((i : Int) + 2), 0 ≤ ((i + 2 : Nat) : Int) ∧ ((i + 2 : Nat) : Int) < N]) (z' := (788, LSx i, [aI (I1 SCR (i + 2)), aI (I1 SCR (i + 1)), aR 52, aI z], MM N I1 J1)) (by decide +kernel) rfl (show (inR ((i : Int) + 1)) ∧ (0 ≤ ((i + 1 : Nat) : Int) ∧ ((i + 1 : Nat) : Int) < N) ∧ (inR ((i : Int) + 2)) ∧ (0 ≤ ((i + 2 : Nat) : Int) ∧ ((i + 2 : Nat) : Int) < N) from ⟨(by unfold inR; omega), (by omega), (by unfold inR; omega), (by omega)⟩) ?_
  rw [e]
  refine V.cv (c := 160) (na := 3) (o := 10) (a := 52) [aI (I SCR (i + 2)), aI (I SCR (i + 1))] [aI z] (by decide +kernel) rfl rfl rfl rfl rfl (CT.go2 hc (okA 52 (([i + 1, i + 2] : List Nat).map (I SCR)) (okI (f := I SCR) (fun k => hM.2.1 SCR k) [i + 1, i + 2])) hM1 (fun I2 J2 hM2 h2 => ?_))
  show V 0 (791, LSx i, [aI z, aI z], MM N I2 J2) _
  refine V.blk [(791, .if_icmp .eq 1303, 3)] (ps := []) (z' := (brc .eq z z 1303 794, LSx i, [], MM N I2 J2)) (by decide +kernel) rfl trivial ?_
  exact V.eq (fun _ => cont I2 J2 hM2 h2) (fun hz => absurd rfl hz)
theorem law_20 (h : INV n I J) (hn : n ≤ 900) (hN : i + 6 ≤ N) (hN2 : N ≤ 3072) (hM : okM N xs (MM N I J)) (cont : ∀ I2 J2, okM N xs (MM N I2 J2) → INV (n + 1) I2 J2 → V 0 (1303, LSx i, [], MM N I2 J2) Q) : V 0 (796, LSx i, [], MM N I J) Q := by
  refine V.blk [(796, .aload 1, 1), (797, .aload 0, 1), (798, .iload 3, 1), (799, .bipush 1, 1), (800, .iadd, 1), (801, .caload, 1), (802, .aload 0, 1), (803, .iload 3, 1), (804, .bipush 2, 1), (805, .iadd, 1), (806, .caload, 1), (807, .aload 0, 1), (808, .iload 3, 1), (809, .bipush 3, 1), (810, .iadd, 1), (811, .caload, 1), (812, .aload 0, 1), (813, .iload 3, 1), (814, .bipush 4, 1), (815, .iadd, 1), (816, .caload, 1)] (ps := [inR ((i : Int) + 1), 0 ≤ ((i + 1 : Nat) : Int) ∧ ((i + 1 : Nat) : Int) < N, inR ((i : Int) + 2), 0 ≤ ((i + 2 : Nat) : Int) ∧ ((i + 2 : Nat) : Int) < N, inR ((i : Int) + 3), 0 ≤ ((i + 3 : Nat) : Int) ∧ ((i + 3 : Nat) : Int) < N, inR ((i : Int) + 4), 0 ≤ ((i + 4 : Nat) : Int) ∧ ((i + 4 : Nat) : Int) < N]) (z' := (817, LSx i, [aI (I SCR (i + 4)), aI (I SCR (i + 3)), aI (I SCR (i + 2)), aI (I SCR (i + 1)), aR 0], MM N I J)) (by decide +kernel) rfl (show (inR ((i : Int) + 1)) ∧ (0 ≤ ((i + 1 : Nat) : Int) ∧ ((i + 1 : Nat) : Int) < N) ∧ (inR ((i : Int) + 2)) ∧ (0 ≤ ((i + 2 : Nat) : Int) ∧ ((i + 2 : Nat) : Int) < N) ∧ (inR ((i : Int) + 3)) ∧ (0 ≤ ((i + 3 : Nat) : Int) ∧ ((i + 3 : Nat) : Int) < N) ∧ (inR ((i : Int) + 4)) ∧ (0 ≤ ((i + 4 : Nat) : Int) ∧ ((i + 4 : Nat) : Int) < N) from ⟨(by unfold inR; omega), (by omega), (by unfold inR; omega), (by omega), (by unfold inR; omega), (by omega), (by unfold inR; omega), (by omega)⟩) ?_
  refine V.cv (c := 85) (na := 5) (o := 9) (a := 0) [aI (I SCR (i + 4)), aI (I SCR (i + 3)), aI (I SCR (i + 2)), aI (I SCR (i + 1))] [] (by decide +kernel) rfl rfl rfl rfl rfl (CT.go (n := n) (b_may h hn ) rfl (okA 0 (([i + 1, i + 2, i + 3, i + 4] : List Nat).map (I SCR)) (okI (f := I SCR) (fun k => hM.2.1 SCR k) [i + 1, i + 2, i + 3, i + 4])) hM (fun z I1 J1 hM1 e hc => ?_))
  show V 0 (820, LSx i, [aI z], MM N I1 J1) _
  refine V.blk [(820, .aload 2, 1), (821, .aload 0, 1), (822, .iload 3, 1), (823, .bipush 1, 1), (824, .iadd, 1), (825, .caload, 1), (826, .aload 0, 1), (827, .iload 3, 1), (828, .bipush 2, 1), (829, .iadd, 1), (830, .caload, 1), (831, .aload 0, 1), (832, .iload 3, 1), (833, .bipush 3, 1), (834, .iadd, 1), (835, .caload, 1), (836, .aload 0, 1), (837, .iload 3, 1), (838, .bipush 4, 1), (839, .iadd, 1), (840, .caload, 1)] (ps := [inR ((i : Int) + 1), 0 ≤ ((i + 1 : Nat) : Int) ∧ ((i + 1 : Nat) : Int) < N, inR ((i : Int) + 2), 0 ≤ ((i + 2 : Nat) : Int) ∧ ((i + 2 : Nat) : Int) < N, inR ((i : Int) + 3), 0 ≤ ((i + 3 : Nat) : Int) ∧ ((i + 3 : Nat) : Int) < N, inR ((i : Int) + 4), 0 ≤ ((i + 4 : Nat) : Int) ∧ ((i + 4 : Nat) : Int) < N]) (z' := (841, LSx i, [aI (I1 SCR (i + 4)), aI (I1 SCR (i + 3)), aI (I1 SCR (i + 2)), aI (I1 SCR (i + 1)), aR 52, aI z], MM N I1 J1)) (by decide +kernel) rfl (show (inR ((i : Int) + 1)) ∧ (0 ≤ ((i + 1 : Nat) : Int) ∧ ((i + 1 : Nat) : Int) < N) ∧ (inR ((i : Int) + 2)) ∧ (0 ≤ ((i + 2 : Nat) : Int) ∧ ((i + 2 : Nat) : Int) < N) ∧ (inR ((i : Int) + 3)) ∧ (0 ≤ ((i + 3 : Nat) : Int) ∧ ((i + 3 : Nat) : Int) < N) ∧ (inR ((i : Int) + 4)) ∧ (0 ≤ ((i + 4 : Nat) : Int) ∧ ((i + 4 : Nat) : Int) < N) from ⟨(by unfold inR; omega), (by omega), (by unfold inR; omega), (by omega), (by unfold inR; omega), (by omega), (by unfold inR; omega), (by omega)⟩) ?_
  rw [e]
  refine V.cv (c := 173) (na := 5) (o := 10) (a := 52) [aI (I SCR (i + 4)), aI (I SCR (i + 3)), aI (I SCR (i + 2)), aI (I SCR (i + 1))] [aI z] (by decide +kernel) rfl rfl rfl rfl rfl (CT.go2 hc (okA 52 (([i + 1, i + 2, i + 3, i + 4] : List Nat).map (I SCR)) (okI (f := I SCR) (fun k => hM.2.1 SCR k) [i + 1, i + 2, i + 3, i + 4])) hM1 (fun I2 J2 hM2 h2 => ?_))
  show V 0 (844, LSx i, [aI z, aI z], MM N I2 J2) _
  refine V.blk [(844, .if_icmp .eq 1303, 3)] (ps := []) (z' := (brc .eq z z 1303 847, LSx i, [], MM N I2 J2)) (by decide +kernel) rfl trivial ?_
  exact V.eq (fun _ => cont I2 J2 hM2 h2) (fun hz => absurd rfl hz)
theorem law_21 (h : INV n I J) (hn : n ≤ 900) (hN : i + 6 ≤ N) (hN2 : N ≤ 3072) (hM : okM N xs (MM N I J)) (cont : ∀ I2 J2, okM N xs (MM N I2 J2) → INV (n + 1) I2 J2 → V 0 (1303, LSx i, [], MM N I2 J2) Q) : V 0 (849, LSx i, [], MM N I J) Q := by
  refine V.blk [(849, .aload 1, 1), (850, .aload 0, 1), (851, .iload 3, 1), (852, .bipush 1, 1), (853, .iadd, 1), (854, .caload, 1), (855, .aload 0, 1), (856, .iload 3, 1), (857, .bipush 2, 1), (858, .iadd, 1), (859, .caload, 1), (860, .aload 0, 1), (861, .iload 3, 1), (862, .bipush 3, 1), (863, .iadd, 1), (864, .caload, 1)] (ps := [inR ((i : Int) + 1), 0 ≤ ((i + 1 : Nat) : Int) ∧ ((i + 1 : Nat) : Int) < N, inR ((i : Int) + 2), 0 ≤ ((i + 2 : Nat) : Int) ∧ ((i + 2 : Nat) : Int) < N, inR ((i : Int) + 3), 0 ≤ ((i + 3 : Nat) : Int) ∧ ((i + 3 : Nat) : Int) < N]) (z' := (865, LSx i, [aI (I SCR (i + 3)), aI (I SCR (i + 2)), aI (I SCR (i + 1)), aR 0], MM N I J)) (by decide +kernel) rfl (show (inR ((i : Int) + 1)) ∧ (0 ≤ ((i + 1 : Nat) : Int) ∧ ((i + 1 : Nat) : Int) < N) ∧ (inR ((i : Int) + 2)) ∧ (0 ≤ ((i + 2 : Nat) : Int) ∧ ((i + 2 : Nat) : Int) < N) ∧ (inR ((i : Int) + 3)) ∧ (0 ≤ ((i + 3 : Nat) : Int) ∧ ((i + 3 : Nat) : Int) < N) from ⟨(by unfold inR; omega), (by omega), (by unfold inR; omega), (by omega), (by unfold inR; omega), (by omega)⟩) ?_
  refine V.cv (c := 86) (na := 4) (o := 9) (a := 0) [aI (I SCR (i + 3)), aI (I SCR (i + 2)), aI (I SCR (i + 1))] [] (by decide +kernel) rfl rfl rfl rfl rfl (CT.goL (n := n) (b_who h hn ) rfl (okA 0 (([i + 1, i + 2, i + 3] : List Nat).map (I SCR)) (okI (f := I SCR) (fun k => hM.2.1 SCR k) [i + 1, i + 2, i + 3])) hM (fun z I1 J1 hM1 e hc => ?_))
  show V 0 (868, LSx i, [aL z], MM N I1 J1) _
  refine V.blk [(868, .aload 2, 1), (869, .aload 0, 1), (870, .iload 3, 1), (871, .bipush 1, 1), (872, .iadd, 1), (873, .caload, 1), (874, .aload 0, 1), (875, .iload 3, 1), (876, .bipush 2, 1), (877, .iadd, 1), (878, .caload, 1), (879, .aload 0, 1), (880, .iload 3, 1), (881, .bipush 3, 1), (882, .iadd, 1), (883, .caload, 1)] (ps := [inR ((i : Int) + 1), 0 ≤ ((i + 1 : Nat) : Int) ∧ ((i + 1 : Nat) : Int) < N, inR ((i : Int) + 2), 0 ≤ ((i + 2 : Nat) : Int) ∧ ((i + 2 : Nat) : Int) < N, inR ((i : Int) + 3), 0 ≤ ((i + 3 : Nat) : Int) ∧ ((i + 3 : Nat) : Int) < N]) (z' := (884, LSx i, [aI (I1 SCR (i + 3)), aI (I1 SCR (i + 2)), aI (I1 SCR (i + 1)), aR 52, aL z], MM N I1 J1)) (by decide +kernel) rfl (show (inR ((i : Int) + 1)) ∧ (0 ≤ ((i + 1 : Nat) : Int) ∧ ((i + 1 : Nat) : Int) < N) ∧ (inR ((i : Int) + 2)) ∧ (0 ≤ ((i + 2 : Nat) : Int) ∧ ((i + 2 : Nat) : Int) < N) ∧ (inR ((i : Int) + 3)) ∧ (0 ≤ ((i + 3 : Nat) : Int) ∧ ((i + 3 : Nat) : Int) < N) from ⟨(by unfold inR; omega), (by omega), (by unfold inR; omega), (by omega), (by unfold inR; omega), (by omega)⟩) ?_
  rw [e]
  refine V.cv (c := 174) (na := 4) (o := 10) (a := 52) [aI (I SCR (i + 3)), aI (I SCR (i + 2)), aI (I SCR (i + 1))] [aL z] (by decide +kernel) rfl rfl rfl rfl rfl (CT.go2 hc (okA 52 (([i + 1, i + 2, i + 3] : List Nat).map (I SCR)) (okI (f := I SCR) (fun k => hM.2.1 SCR k) [i + 1, i + 2, i + 3])) hM1 (fun I2 J2 hM2 h2 => ?_))
  show V 0 (887, LSx i, [aL z, aL z], MM N I2 J2) _
  refine V.blk [(887, .lcmp, 1), (888, .ifCond .eq 1303, 3)] (ps := []) (z' := (brc .eq (lcm z z) 0 1303 891, LSx i, [], MM N I2 J2)) (by decide +kernel) rfl trivial ?_
  exact V.eq (fun _ => cont I2 J2 hM2 h2) (fun hz => absurd (lcm_self z) hz)
theorem law_22 (h : INV n I J) (hn : n ≤ 900) (hN : i + 6 ≤ N) (hN2 : N ≤ 3072) (hM : okM N xs (MM N I J)) (cont : ∀ I2 J2, okM N xs (MM N I2 J2) → INV (n + 1) I2 J2 → V 0 (1303, LSx i, [], MM N I2 J2) Q) : V 0 (893, LSx i, [], MM N I J) Q := by
  refine V.blk [(893, .aload 1, 1), (894, .aload 0, 1), (895, .iload 3, 1), (896, .bipush 1, 1), (897, .iadd, 1), (898, .caload, 1), (899, .aload 0, 1), (900, .iload 3, 1), (901, .bipush 2, 1), (902, .iadd, 1), (903, .caload, 1), (904, .aload 0, 1), (905, .iload 3, 1), (906, .bipush 3, 1), (907, .iadd, 1), (908, .caload, 1), (909, .aload 0, 1), (910, .iload 3, 1), (911, .bipush 4, 1), (912, .iadd, 1), (913, .caload, 1), (914, .aload 0, 1), (915, .iload 3, 1), (916, .bipush 5, 1), (917, .iadd, 1), (918, .caload, 1)] (ps := [inR ((i : Int) + 1), 0 ≤ ((i + 1 : Nat) : Int) ∧ ((i + 1 : Nat) : Int) < N, inR ((i : Int) + 2), 0 ≤ ((i + 2 : Nat) : Int) ∧ ((i + 2 : Nat) : Int) < N, inR ((i : Int) + 3), 0 ≤ ((i + 3 : Nat) : Int) ∧ ((i + 3 : Nat) : Int) < N, inR ((i : Int) + 4), 0 ≤ ((i + 4 : Nat) : Int) ∧ ((i + 4 : Nat) : Int) < N, inR ((i : Int) + 5), 0 ≤ ((i + 5 : Nat) : Int) ∧ ((i + 5 : Nat) : Int) < N]) (z' := (919, LSx i, [aI (I SCR (i + 5)), aI (I SCR (i + 4)), aI (I SCR (i + 3)), aI (I SCR (i + 2)), aI (I SCR (i + 1)), aR 0], MM N I J)) (by decide +kernel) rfl (show (inR ((i : Int) + 1)) ∧ (0 ≤ ((i + 1 : Nat) : Int) ∧ ((i + 1 : Nat) : Int) < N) ∧ (inR ((i : Int) + 2)) ∧ (0 ≤ ((i + 2 : Nat) : Int) ∧ ((i + 2 : Nat) : Int) < N) ∧ (inR ((i : Int) + 3)) ∧ (0 ≤ ((i + 3 : Nat) : Int) ∧ ((i + 3 : Nat) : Int) < N) ∧ (inR ((i : Int) + 4)) ∧ (0 ≤ ((i + 4 : Nat) : Int) ∧ ((i + 4 : Nat) : Int) < N) ∧ (inR ((i : Int) + 5)) ∧ (0 ≤ ((i + 5 : Nat) : Int) ∧ ((i + 5 : Nat) : Int) < N) from ⟨(by unfold inR; omega), (by omega), (by unfold inR; omega), (by omega), (by unfold inR; omega), (by omega), (by unfold inR; omega), (by omega), (by unfold inR; omega), (by omega)⟩) ?_
  refine V.cv (c := 87) (na := 6) (o := 9) (a := 0) [aI (I SCR (i + 5)), aI (I SCR (i + 4)), aI (I SCR (i + 3)), aI (I SCR (i + 2)), aI (I SCR (i + 1))] [] (by decide +kernel) rfl rfl rfl rfl rfl (CT.go (n := n) (b_reach h hn (hM.2.1 _ _)) rfl (okA 0 (([i + 1, i + 2, i + 3, i + 4, i + 5] : List Nat).map (I SCR)) (okI (f := I SCR) (fun k => hM.2.1 SCR k) [i + 1, i + 2, i + 3, i + 4, i + 5])) hM (fun z I1 J1 hM1 e hc => ?_))
  show V 0 (922, LSx i, [aI z], MM N I1 J1) _
  refine V.blk [(922, .aload 2, 1), (923, .aload 0, 1), (924, .iload 3, 1), (925, .bipush 1, 1), (926, .iadd, 1), (927, .caload, 1), (928, .aload 0, 1), (929, .iload 3, 1), (930, .bipush 2, 1), (931, .iadd, 1), (932, .caload, 1), (933, .aload 0, 1), (934, .iload 3, 1), (935, .bipush 3, 1), (936, .iadd, 1), (937, .caload, 1), (938, .aload 0, 1), (939, .iload 3, 1), (940, .bipush 4, 1), (941, .iadd, 1), (942, .caload, 1), (943, .aload 0, 1), (944, .iload 3, 1), (945, .bipush 5, 1), (946, .iadd, 1), (947, .caload, 1)] (ps := [inR ((i : Int) + 1), 0 ≤ ((i + 1 : Nat) : Int) ∧ ((i + 1 : Nat) : Int) < N, inR ((i : Int) + 2), 0 ≤ ((i + 2 : Nat) : Int) ∧ ((i + 2 : Nat) : Int) < N, inR ((i : Int) + 3), 0 ≤ ((i + 3 : Nat) : Int) ∧ ((i + 3 : Nat) : Int) < N, inR ((i : Int) + 4), 0 ≤ ((i + 4 : Nat) : Int) ∧ ((i + 4 : Nat) : Int) < N, inR ((i : Int) + 5), 0 ≤ ((i + 5 : Nat) : Int) ∧ ((i + 5 : Nat) : Int) < N]) (z' := (948, LSx i, [aI (I1 SCR (i + 5)), aI (I1 SCR (i + 4)), aI (I1 SCR (i + 3)), aI (I1 SCR (i + 2)), aI (I1 SCR (i + 1)), aR 52, aI z], MM N I1 J1)) (by decide +kernel) rfl (show (inR ((i : Int) + 1)) ∧ (0 ≤ ((i + 1 : Nat) : Int) ∧ ((i + 1 : Nat) : Int) < N) ∧ (inR ((i : Int) + 2)) ∧ (0 ≤ ((i + 2 : Nat) : Int) ∧ ((i + 2 : Nat) : Int) < N) ∧ (inR ((i : Int) + 3)) ∧ (0 ≤ ((i + 3 : Nat) : Int) ∧ ((i + 3 : Nat) : Int) < N) ∧ (inR ((i : Int) + 4)) ∧ (0 ≤ ((i + 4 : Nat) : Int) ∧ ((i + 4 : Nat) : Int) < N) ∧ (inR ((i : Int) + 5)) ∧ (0 ≤ ((i + 5 : Nat) : Int) ∧ ((i + 5 : Nat) : Int) < N) from ⟨(by unfold inR; omega), (by omega), (by unfold inR; omega), (by omega), (by unfold inR; omega), (by omega), (by unfold inR; omega), (by omega), (by unfold inR; omega), (by omega)⟩) ?_
  rw [e]
  refine V.cv (c := 176) (na := 6) (o := 10) (a := 52) [aI (I SCR (i + 5)), aI (I SCR (i + 4)), aI (I SCR (i + 3)), aI (I SCR (i + 2)), aI (I SCR (i + 1))] [aI z] (by decide +kernel) rfl rfl rfl rfl rfl (CT.go2 hc (okA 52 (([i + 1, i + 2, i + 3, i + 4, i + 5] : List Nat).map (I SCR)) (okI (f := I SCR) (fun k => hM.2.1 SCR k) [i + 1, i + 2, i + 3, i + 4, i + 5])) hM1 (fun I2 J2 hM2 h2 => ?_))
  show V 0 (951, LSx i, [aI z, aI z], MM N I2 J2) _
  refine V.blk [(951, .if_icmp .eq 1303, 3)] (ps := []) (z' := (brc .eq z z 1303 954, LSx i, [], MM N I2 J2)) (by decide +kernel) rfl trivial ?_
  exact V.eq (fun _ => cont I2 J2 hM2 h2) (fun hz => absurd rfl hz)
theorem law_23 (h : INV n I J) (hn : n ≤ 900) (hN : i + 6 ≤ N) (hN2 : N ≤ 3072) (hM : okM N xs (MM N I J)) (cont : ∀ I2 J2, okM N xs (MM N I2 J2) → INV (n + 1) I2 J2 → V 0 (1303, LSx i, [], MM N I2 J2) Q) : V 0 (956, LSx i, [], MM N I J) Q := by
  refine V.blk [(956, .aload 1, 1), (957, .aload 0, 1), (958, .iload 3, 1), (959, .bipush 1, 1), (960, .iadd, 1), (961, .caload, 1), (962, .aload 0, 1), (963, .iload 3, 1), (964, .bipush 2, 1), (965, .iadd, 1), (966, .caload, 1), (967, .aload 0, 1), (968, .iload 3, 1), (969, .bipush 3, 1), (970, .iadd, 1), (971, .caload, 1), (972, .aload 0, 1), (973, .iload 3, 1), (974, .bipush 4, 1), (975, .iadd, 1), (976, .caload, 1)] (ps := [inR ((i : Int) + 1), 0 ≤ ((i + 1 : Nat) : Int) ∧ ((i + 1 : Nat) : Int) < N, inR ((i : Int) + 2), 0 ≤ ((i + 2 : Nat) : Int) ∧ ((i + 2 : Nat) : Int) < N, inR ((i : Int) + 3), 0 ≤ ((i + 3 : Nat) : Int) ∧ ((i + 3 : Nat) : Int) < N, inR ((i : Int) + 4), 0 ≤ ((i + 4 : Nat) : Int) ∧ ((i + 4 : Nat) : Int) < N]) (z' := (977, LSx i, [aI (I SCR (i + 4)), aI (I SCR (i + 3)), aI (I SCR (i + 2)), aI (I SCR (i + 1)), aR 0], MM N I J)) (by decide +kernel) rfl (show (inR ((i : Int) + 1)) ∧ (0 ≤ ((i + 1 : Nat) : Int) ∧ ((i + 1 : Nat) : Int) < N) ∧ (inR ((i : Int) + 2)) ∧ (0 ≤ ((i + 2 : Nat) : Int) ∧ ((i + 2 : Nat) : Int) < N) ∧ (inR ((i : Int) + 3)) ∧ (0 ≤ ((i + 3 : Nat) : Int) ∧ ((i + 3 : Nat) : Int) < N) ∧ (inR ((i : Int) + 4)) ∧ (0 ≤ ((i + 4 : Nat) : Int) ∧ ((i + 4 : Nat) : Int) < N) from ⟨(by unfold inR; omega), (by omega), (by unfold inR; omega), (by omega), (by unfold inR; omega), (by omega), (by unfold inR; omega), (by omega)⟩) ?_
  refine V.cv (c := 88) (na := 5) (o := 9) (a := 0) [aI (I SCR (i + 4)), aI (I SCR (i + 3)), aI (I SCR (i + 2)), aI (I SCR (i + 1))] [] (by decide +kernel) rfl rfl rfl rfl rfl (CT.go (n := n) (b_why h hn ) rfl (okA 0 (([i + 1, i + 2, i + 3, i + 4] : List Nat).map (I SCR)) (okI (f := I SCR) (fun k => hM.2.1 SCR k) [i + 1, i + 2, i + 3, i + 4])) hM (fun z I1 J1 hM1 e hc => ?_))
  show V 0 (980, LSx i, [aI z], MM N I1 J1) _
  refine V.blk [(980, .aload 2, 1), (981, .aload 0, 1), (982, .iload 3, 1), (983, .bipush 1, 1), (984, .iadd, 1), (985, .caload, 1), (986, .aload 0, 1), (987, .iload 3, 1), (988, .bipush 2, 1), (989, .iadd, 1), (990, .caload, 1), (991, .aload 0, 1), (992, .iload 3, 1), (993, .bipush 3, 1), (994, .iadd, 1), (995, .caload, 1), (996, .aload 0, 1), (997, .iload 3, 1), (998, .bipush 4, 1), (999, .iadd, 1), (1000, .caload, 1)] (ps := [inR ((i : Int) + 1), 0 ≤ ((i + 1 : Nat) : Int) ∧ ((i + 1 : Nat) : Int) < N, inR ((i : Int) + 2), 0 ≤ ((i + 2 : Nat) : Int) ∧ ((i + 2 : Nat) : Int) < N, inR ((i : Int) + 3), 0 ≤ ((i + 3 : Nat) : Int) ∧ ((i + 3 : Nat) : Int) < N, inR ((i : Int) + 4), 0 ≤ ((i + 4 : Nat) : Int) ∧ ((i + 4 : Nat) : Int) < N]) (z' := (1001, LSx i, [aI (I1 SCR (i + 4)), aI (I1 SCR (i + 3)), aI (I1 SCR (i + 2)), aI (I1 SCR (i + 1)), aR 52, aI z], MM N I1 J1)) (by decide +kernel) rfl (show (inR ((i : Int) + 1)) ∧ (0 ≤ ((i + 1 : Nat) : Int) ∧ ((i + 1 : Nat) : Int) < N) ∧ (inR ((i : Int) + 2)) ∧ (0 ≤ ((i + 2 : Nat) : Int) ∧ ((i + 2 : Nat) : Int) < N) ∧ (inR ((i : Int) + 3)) ∧ (0 ≤ ((i + 3 : Nat) : Int) ∧ ((i + 3 : Nat) : Int) < N) ∧ (inR ((i : Int) + 4)) ∧ (0 ≤ ((i + 4 : Nat) : Int) ∧ ((i + 4 : Nat) : Int) < N) from ⟨(by unfold inR; omega), (by omega), (by unfold inR; omega), (by omega), (by unfold inR; omega), (by omega), (by unfold inR; omega), (by omega)⟩) ?_
  rw [e]
  refine V.cv (c := 187) (na := 5) (o := 10) (a := 52) [aI (I SCR (i + 4)), aI (I SCR (i + 3)), aI (I SCR (i + 2)), aI (I SCR (i + 1))] [aI z] (by decide +kernel) rfl rfl rfl rfl rfl (CT.go2 hc (okA 52 (([i + 1, i + 2, i + 3, i + 4] : List Nat).map (I SCR)) (okI (f := I SCR) (fun k => hM.2.1 SCR k) [i + 1, i + 2, i + 3, i + 4])) hM1 (fun I2 J2 hM2 h2 => ?_))
  show V 0 (1004, LSx i, [aI z, aI z], MM N I2 J2) _
  refine V.blk [(1004, .if_icmp .eq 1303, 3)] (ps := []) (z' := (brc .eq z z 1303 1007, LSx i, [], MM N I2 J2)) (by decide +kernel) rfl trivial ?_
  exact V.eq (fun _ => cont I2 J2 hM2 h2) (fun hz => absurd rfl hz)
theorem law_24 (h : INV n I J) (hn : n ≤ 900) (hN : i + 6 ≤ N) (hN2 : N ≤ 3072) (hM : okM N xs (MM N I J)) (cont : ∀ I2 J2, okM N xs (MM N I2 J2) → INV (n + 1) I2 J2 → V 0 (1303, LSx i, [], MM N I2 J2) Q) : V 0 (1009, LSx i, [], MM N I J) Q := by
  refine V.blk [(1009, .aload 1, 1), (1010, .aload 0, 1), (1011, .iload 3, 1), (1012, .bipush 1, 1), (1013, .iadd, 1), (1014, .caload, 1)] (ps := [inR ((i : Int) + 1), 0 ≤ ((i + 1 : Nat) : Int) ∧ ((i + 1 : Nat) : Int) < N]) (z' := (1015, LSx i, [aI (I SCR (i + 1)), aR 0], MM N I J)) (by decide +kernel) rfl (show (inR ((i : Int) + 1)) ∧ (0 ≤ ((i + 1 : Nat) : Int) ∧ ((i + 1 : Nat) : Int) < N) from ⟨(by unfold inR; omega), (by omega)⟩) ?_
  refine V.cv (c := 89) (na := 2) (o := 9) (a := 0) [aI (I SCR (i + 1))] [] (by decide +kernel) rfl rfl rfl rfl rfl (CT.go (n := n) (b_reason h hn (hM.2.1 _ _)) rfl (okA 0 (([i + 1] : List Nat).map (I SCR)) (okI (f := I SCR) (fun k => hM.2.1 SCR k) [i + 1])) hM (fun z I1 J1 hM1 e hc => ?_))
  show V 0 (1018, LSx i, [aI z], MM N I1 J1) _
  refine V.blk [(1018, .aload 2, 1), (1019, .aload 0, 1), (1020, .iload 3, 1), (1021, .bipush 1, 1), (1022, .iadd, 1), (1023, .caload, 1)] (ps := [inR ((i : Int) + 1), 0 ≤ ((i + 1 : Nat) : Int) ∧ ((i + 1 : Nat) : Int) < N]) (z' := (1024, LSx i, [aI (I1 SCR (i + 1)), aR 52, aI z], MM N I1 J1)) (by decide +kernel) rfl (show (inR ((i : Int) + 1)) ∧ (0 ≤ ((i + 1 : Nat) : Int) ∧ ((i + 1 : Nat) : Int) < N) from ⟨(by unfold inR; omega), (by omega)⟩) ?_
  rw [e]
  refine V.cv (c := 188) (na := 2) (o := 10) (a := 52) [aI (I SCR (i + 1))] [aI z] (by decide +kernel) rfl rfl rfl rfl rfl (CT.go2 hc (okA 52 (([i + 1] : List Nat).map (I SCR)) (okI (f := I SCR) (fun k => hM.2.1 SCR k) [i + 1])) hM1 (fun I2 J2 hM2 h2 => ?_))
  show V 0 (1027, LSx i, [aI z, aI z], MM N I2 J2) _
  refine V.blk [(1027, .if_icmp .eq 1303, 3)] (ps := []) (z' := (brc .eq z z 1303 1030, LSx i, [], MM N I2 J2)) (by decide +kernel) rfl trivial ?_
  exact V.eq (fun _ => cont I2 J2 hM2 h2) (fun hz => absurd rfl hz)
theorem law_25 (h : INV n I J) (hn : n ≤ 900) (hN : i + 6 ≤ N) (hN2 : N ≤ 3072) (hM : okM N xs (MM N I J)) (cont : ∀ I2 J2, okM N xs (MM N I2 J2) → INV (n + 1) I2 J2 → V 0 (1303, LSx i, [], MM N I2 J2) Q) : V 0 (1032, LSx i, [], MM N I J) Q := by
  refine V.blk [(1032, .aload 1, 1), (1033, .aload 0, 1), (1034, .iload 3, 1), (1035, .bipush 1, 1), (1036, .iadd, 1), (1037, .caload, 1)] (ps := [inR ((i : Int) + 1), 0 ≤ ((i + 1 : Nat) : Int) ∧ ((i + 1 : Nat) : Int) < N]) (z' := (1038, LSx i, [aI (I SCR (i + 1)), aR 0], MM N I J)) (by decide +kernel) rfl (show (inR ((i : Int) + 1)) ∧ (0 ≤ ((i + 1 : Nat) : Int) ∧ ((i + 1 : Nat) : Int) < N) from ⟨(by unfold inR; omega), (by omega)⟩) ?_
  refine V.cv (c := 90) (na := 2) (o := 9) (a := 0) [aI (I SCR (i + 1))] [] (by decide +kernel) rfl rfl rfl rfl rfl (CT.go (n := n) (b_without h hn (hM.2.1 _ _)) rfl (okA 0 (([i + 1] : List Nat).map (I SCR)) (okI (f := I SCR) (fun k => hM.2.1 SCR k) [i + 1])) hM (fun z I1 J1 hM1 e hc => ?_))
  show V 0 (1041, LSx i, [aI z], MM N I1 J1) _
  refine V.blk [(1041, .aload 2, 1), (1042, .aload 0, 1), (1043, .iload 3, 1), (1044, .bipush 1, 1), (1045, .iadd, 1), (1046, .caload, 1)] (ps := [inR ((i : Int) + 1), 0 ≤ ((i + 1 : Nat) : Int) ∧ ((i + 1 : Nat) : Int) < N]) (z' := (1047, LSx i, [aI (I1 SCR (i + 1)), aR 52, aI z], MM N I1 J1)) (by decide +kernel) rfl (show (inR ((i : Int) + 1)) ∧ (0 ≤ ((i + 1 : Nat) : Int) ∧ ((i + 1 : Nat) : Int) < N) from ⟨(by unfold inR; omega), (by omega)⟩) ?_
  rw [e]
  refine V.cv (c := 189) (na := 2) (o := 10) (a := 52) [aI (I SCR (i + 1))] [aI z] (by decide +kernel) rfl rfl rfl rfl rfl (CT.go2 hc (okA 52 (([i + 1] : List Nat).map (I SCR)) (okI (f := I SCR) (fun k => hM.2.1 SCR k) [i + 1])) hM1 (fun I2 J2 hM2 h2 => ?_))
  show V 0 (1050, LSx i, [aI z, aI z], MM N I2 J2) _
  refine V.blk [(1050, .if_icmp .eq 1303, 3)] (ps := []) (z' := (brc .eq z z 1303 1053, LSx i, [], MM N I2 J2)) (by decide +kernel) rfl trivial ?_
  exact V.eq (fun _ => cont I2 J2 hM2 h2) (fun hz => absurd rfl hz)
theorem law_26 (h : INV n I J) (hn : n ≤ 900) (hN : i + 6 ≤ N) (hN2 : N ≤ 3072) (hM : okM N xs (MM N I J)) (cont : ∀ I2 J2, okM N xs (MM N I2 J2) → INV (n + 1) I2 J2 → V 0 (1303, LSx i, [], MM N I2 J2) Q) : V 0 (1055, LSx i, [], MM N I J) Q := by
  refine V.blk [(1055, .aload 1, 1), (1056, .aload 0, 1), (1057, .iload 3, 1), (1058, .bipush 1, 1), (1059, .iadd, 1), (1060, .caload, 1), (1061, .aload 0, 1), (1062, .iload 3, 1), (1063, .bipush 2, 1), (1064, .iadd, 1), (1065, .caload, 1), (1066, .aload 0, 1), (1067, .iload 3, 1), (1068, .bipush 3, 1), (1069, .iadd, 1), (1070, .caload, 1), (1071, .ifCond .eq 1078, 3)] (ps := [inR ((i : Int) + 1), 0 ≤ ((i + 1 : Nat) : Int) ∧ ((i + 1 : Nat) : Int) < N, inR ((i : Int) + 2), 0 ≤ ((i + 2 : Nat) : Int) ∧ ((i + 2 : Nat) : Int) < N, inR ((i : Int) + 3), 0 ≤ ((i + 3 : Nat) : Int) ∧ ((i + 3 : Nat) : Int) < N]) (z' := (brc .eq (I SCR (i + 3)) 0 1078 1074, LSx i, [aI (I SCR (i + 2)), aI (I SCR (i + 1)), aR 0], MM N I J)) (by decide +kernel) rfl (show (inR ((i : Int) + 1)) ∧ (0 ≤ ((i + 1 : Nat) : Int) ∧ ((i + 1 : Nat) : Int) < N) ∧ (inR ((i : Int) + 2)) ∧ (0 ≤ ((i + 2 : Nat) : Int) ∧ ((i + 2 : Nat) : Int) < N) ∧ (inR ((i : Int) + 3)) ∧ (0 ≤ ((i + 3 : Nat) : Int) ∧ ((i + 3 : Nat) : Int) < N) from ⟨(by unfold inR; omega), (by omega), (by unfold inR; omega), (by omega), (by unfold inR; omega), (by omega)⟩) ?_
  refine V.eq (fun hb => ?_) (fun hb => ?_)
  · skip
    refine V.blk [(1078, .bipush 0, 1)] (ps := []) (z' := (1079, LSx i, [aI 0, aI (I SCR (i + 2)), aI (I SCR (i + 1)), aR 0], MM N I J)) (by decide +kernel) rfl trivial ?_
    refine V.cv (c := 91) (na := 4) (o := 9) (a := 0) [aI 0, aI (I SCR (i + 2)), aI (I SCR (i + 1))] [] (by decide +kernel) rfl rfl rfl rfl rfl (CT.goL (n := n) (b_would h hn ) rfl (okA 0 (([i + 1, i + 2] : List Nat).map (I SCR) ++ [0]) (okJ (f := I SCR) (fun k => hM.2.1 SCR k) (e := 0) (by decide) [i + 1, i + 2])) hM (fun z I1 J1 hM1 e hc => ?_))
    show V 0 (1082, LSx i, [aL z], MM N I1 J1) _
    refine V.blk [(1082, .aload 2, 1), (1083, .aload 0, 1), (1084, .iload 3, 1), (1085, .bipush 1, 1), (1086, .iadd, 1), (1087, .caload, 1), (1088, .aload 0, 1), (1089, .iload 3, 1), (1090, .bipush 2, 1), (1091, .iadd, 1), (1092, .caload, 1), (1093, .aload 0, 1), (1094, .iload 3, 1), (1095, .bipush 3, 1), (1096, .iadd, 1), (1097, .caload, 1), (1098, .ifCond .eq 1105, 3)] (ps := [inR ((i : Int) + 1), 0 ≤ ((i + 1 : Nat) : Int) ∧ ((i + 1 : Nat) : Int) < N, inR ((i : Int) + 2), 0 ≤ ((i + 2 : Nat) : Int) ∧ ((i + 2 : Nat) : Int) < N, inR ((i : Int) + 3), 0 ≤ ((i + 3 : Nat) : Int) ∧ ((i + 3 : Nat) : Int) < N]) (z' := (brc .eq (I1 SCR (i + 3)) 0 1105 1101, LSx i, [aI (I1 SCR (i + 2)), aI (I1 SCR (i + 1)), aR 52, aL z], MM N I1 J1)) (by decide +kernel) rfl (show (inR ((i : Int) + 1)) ∧ (0 ≤ ((i + 1 : Nat) : Int) ∧ ((i + 1 : Nat) : Int) < N) ∧ (inR ((i : Int) + 2)) ∧ (0 ≤ ((i + 2 : Nat) : Int) ∧ ((i + 2 : Nat) : Int) < N) ∧ (inR ((i : Int) + 3)) ∧ (0 ≤ ((i + 3 : Nat) : Int) ∧ ((i + 3 : Nat) : Int) < N) from ⟨(by unfold inR; omega), (by omega), (by unfold inR; omega), (by omega), (by unfold inR; omega), (by omega)⟩) ?_
    rw [e]
    refine V.eq (fun _ => ?_) (fun hz => absurd hb hz)
    refine V.blk [(1105, .bipush 0, 1)] (ps := []) (z' := (1106, LSx i, [aI 0, aI (I SCR (i + 2)), aI (I SCR (i + 1)), aR 52, aL z], MM N I1 J1)) (by decide +kernel) rfl trivial ?_
    refine V.cv (c := 190) (na := 4) (o := 10) (a := 52) [aI 0, aI (I SCR (i + 2)), aI (I SCR (i + 1))] [aL z] (by decide +kernel) rfl rfl rfl rfl rfl (CT.go2 hc (okA 52 (([i + 1, i + 2] : List Nat).map (I SCR) ++ [0]) (okJ (f := I SCR) (fun k => hM.2.1 SCR k) (e := 0) (by decide) [i + 1, i + 2])) hM1 (fun I2 J2 hM2 h2 => ?_))
    show V 0 (1109, LSx i, [aL z, aL z], MM N I2 J2) _
    refine V.blk [(1109, .lcmp, 1), (1110, .ifCond .eq 1303, 3)] (ps := []) (z' := (brc .eq (lcm z z) 0 1303 1113, LSx i, [], MM N I2 J2)) (by decide +kernel) rfl trivial ?_
    exact V.eq (fun _ => cont I2 J2 hM2 h2) (fun hz => absurd (lcm_self z) hz)
  · skip
    refine V.blk [(1074, .bipush 1, 1), (1075, .goto 1079, 3)] (ps := []) (z' := (1079, LSx i, [aI 1, aI (I SCR (i + 2)), aI (I SCR (i + 1)), aR 0], MM N I J)) (by decide +kernel) rfl trivial ?_
    refine V.cv (c := 91) (na := 4) (o := 9) (a := 0) [aI 1, aI (I SCR (i + 2)), aI (I SCR (i + 1))] [] (by decide +kernel) rfl rfl rfl rfl rfl (CT.goL (n := n) (b_would h hn ) rfl (okA 0 (([i + 1, i + 2] : List Nat).map (I SCR) ++ [1]) (okJ (f := I SCR) (fun k => hM.2.1 SCR k) (e := 1) (by decide) [i + 1, i + 2])) hM (fun z I1 J1 hM1 e hc => ?_))
    show V 0 (1082, LSx i, [aL z], MM N I1 J1) _
    refine V.blk [(1082, .aload 2, 1), (1083, .aload 0, 1), (1084, .iload 3, 1), (1085, .bipush 1, 1), (1086, .iadd, 1), (1087, .caload, 1), (1088, .aload 0, 1), (1089, .iload 3, 1), (1090, .bipush 2, 1), (1091, .iadd, 1), (1092, .caload, 1), (1093, .aload 0, 1), (1094, .iload 3, 1), (1095, .bipush 3, 1), (1096, .iadd, 1), (1097, .caload, 1), (1098, .ifCond .eq 1105, 3)] (ps := [inR ((i : Int) + 1), 0 ≤ ((i + 1 : Nat) : Int) ∧ ((i + 1 : Nat) : Int) < N, inR ((i : Int) + 2), 0 ≤ ((i + 2 : Nat) : Int) ∧ ((i + 2 : Nat) : Int) < N, inR ((i : Int) + 3), 0 ≤ ((i + 3 : Nat) : Int) ∧ ((i + 3 : Nat) : Int) < N]) (z' := (brc .eq (I1 SCR (i + 3)) 0 1105 1101, LSx i, [aI (I1 SCR (i + 2)), aI (I1 SCR (i + 1)), aR 52, aL z], MM N I1 J1)) (by decide +kernel) rfl (show (inR ((i : Int) + 1)) ∧ (0 ≤ ((i + 1 : Nat) : Int) ∧ ((i + 1 : Nat) : Int) < N) ∧ (inR ((i : Int) + 2)) ∧ (0 ≤ ((i + 2 : Nat) : Int) ∧ ((i + 2 : Nat) : Int) < N) ∧ (inR ((i : Int) + 3)) ∧ (0 ≤ ((i + 3 : Nat) : Int) ∧ ((i + 3 : Nat) : Int) < N) from ⟨(by unfold inR; omega), (by omega), (by unfold inR; omega), (by omega), (by unfold inR; omega), (by omega)⟩) ?_
    rw [e]
    refine V.eq (fun hz => absurd hz hb) (fun _ => ?_)
    refine V.blk [(1101, .bipush 1, 1), (1102, .goto 1106, 3)] (ps := []) (z' := (1106, LSx i, [aI 1, aI (I SCR (i + 2)), aI (I SCR (i + 1)), aR 52, aL z], MM N I1 J1)) (by decide +kernel) rfl trivial ?_
    refine V.cv (c := 190) (na := 4) (o := 10) (a := 52) [aI 1, aI (I SCR (i + 2)), aI (I SCR (i + 1))] [aL z] (by decide +kernel) rfl rfl rfl rfl rfl (CT.go2 hc (okA 52 (([i + 1, i + 2] : List Nat).map (I SCR) ++ [1]) (okJ (f := I SCR) (fun k => hM.2.1 SCR k) (e := 1) (by decide) [i + 1, i + 2])) hM1 (fun I2 J2 hM2 h2 => ?_))
    show V 0 (1109, LSx i, [aL z, aL z], MM N I2 J2) _
    refine V.blk [(1109, .lcmp, 1), (1110, .ifCond .eq 1303, 3)] (ps := []) (z' := (brc .eq (lcm z z) 0 1303 1113, LSx i, [], MM N I2 J2)) (by decide +kernel) rfl trivial ?_
    exact V.eq (fun _ => cont I2 J2 hM2 h2) (fun hz => absurd (lcm_self z) hz)
theorem law_27 (h : INV n I J) (hn : n ≤ 900) (hN : i + 6 ≤ N) (hN2 : N ≤ 3072) (hM : okM N xs (MM N I J)) (cont : ∀ I2 J2, okM N xs (MM N I2 J2) → INV (n + 1) I2 J2 → V 0 (1303, LSx i, [], MM N I2 J2) Q) : V 0 (1115, LSx i, [], MM N I J) Q := by
  refine V.blk [(1115, .aload 1, 1), (1116, .aload 0, 1), (1117, .iload 3, 1), (1118, .bipush 1, 1), (1119, .iadd, 1), (1120, .caload, 1), (1121, .aload 0, 1), (1122, .iload 3, 1), (1123, .bipush 2, 1), (1124, .iadd, 1), (1125, .caload, 1)] (ps := [inR ((i : Int) + 1), 0 ≤ ((i + 1 : Nat) : Int) ∧ ((i + 1 : Nat) : Int) < N, inR ((i : Int) + 2), 0 ≤ ((i + 2 : Nat) : Int) ∧ ((i + 2 : Nat) : Int) < N]) (z' := (1126, LSx i, [aI (I SCR (i + 2)), aI (I SCR (i + 1)), aR 0], MM N I J)) (by decide +kernel) rfl (show (inR ((i : Int) + 1)) ∧ (0 ≤ ((i + 1 : Nat) : Int) ∧ ((i + 1 : Nat) : Int) < N) ∧ (inR ((i : Int) + 2)) ∧ (0 ≤ ((i + 2 : Nat) : Int) ∧ ((i + 2 : Nat) : Int) < N) from ⟨(by unfold inR; omega), (by omega), (by unfold inR; omega), (by omega)⟩) ?_
  refine V.cv (c := 92) (na := 3) (o := 9) (a := 0) [aI (I SCR (i + 2)), aI (I SCR (i + 1))] [] (by decide +kernel) rfl rfl rfl rfl rfl (CT.go (n := n) (b_differ h hn ) rfl (okA 0 (([i + 1, i + 2] : List Nat).map (I SCR)) (okI (f := I SCR) (fun k => hM.2.1 SCR k) [i + 1, i + 2])) hM (fun z I1 J1 hM1 e hc => ?_))
  show V 0 (1129, LSx i, [aI z], MM N I1 J1) _
  refine V.blk [(1129, .aload 2, 1), (1130, .aload 0, 1), (1131, .iload 3, 1), (1132, .bipush 1, 1), (1133, .iadd, 1), (1134, .caload, 1), (1135, .aload 0, 1), (1136, .iload 3, 1), (1137, .bipush 2, 1), (1138, .iadd, 1), (1139, .caload, 1)] (ps := [inR ((i : Int) + 1), 0 ≤ ((i + 1 : Nat) : Int) ∧ ((i + 1 : Nat) : Int) < N, inR ((i : Int) + 2), 0 ≤ ((i + 2 : Nat) : Int) ∧ ((i + 2 : Nat) : Int) < N]) (z' := (1140, LSx i, [aI (I1 SCR (i + 2)), aI (I1 SCR (i + 1)), aR 52, aI z], MM N I1 J1)) (by decide +kernel) rfl (show (inR ((i : Int) + 1)) ∧ (0 ≤ ((i + 1 : Nat) : Int) ∧ ((i + 1 : Nat) : Int) < N) ∧ (inR ((i : Int) + 2)) ∧ (0 ≤ ((i + 2 : Nat) : Int) ∧ ((i + 2 : Nat) : Int) < N) from ⟨(by unfold inR; omega), (by omega), (by unfold inR; omega), (by omega)⟩) ?_
  rw [e]
  refine V.cv (c := 191) (na := 3) (o := 10) (a := 52) [aI (I SCR (i + 2)), aI (I SCR (i + 1))] [aI z] (by decide +kernel) rfl rfl rfl rfl rfl (CT.go2 hc (okA 52 (([i + 1, i + 2] : List Nat).map (I SCR)) (okI (f := I SCR) (fun k => hM.2.1 SCR k) [i + 1, i + 2])) hM1 (fun I2 J2 hM2 h2 => ?_))
  show V 0 (1143, LSx i, [aI z, aI z], MM N I2 J2) _
  refine V.blk [(1143, .if_icmp .eq 1303, 3)] (ps := []) (z' := (brc .eq z z 1303 1146, LSx i, [], MM N I2 J2)) (by decide +kernel) rfl trivial ?_
  exact V.eq (fun _ => cont I2 J2 hM2 h2) (fun hz => absurd rfl hz)
theorem law_28 (h : INV n I J) (hn : n ≤ 900) (hN : i + 6 ≤ N) (hN2 : N ≤ 3072) (hM : okM N xs (MM N I J)) (cont : ∀ I2 J2, okM N xs (MM N I2 J2) → INV (n + 1) I2 J2 → V 0 (1303, LSx i, [], MM N I2 J2) Q) : V 0 (1148, LSx i, [], MM N I J) Q := by
  refine V.blk [(1148, .aload 1, 1), (1149, .aload 0, 1), (1150, .iload 3, 1), (1151, .bipush 1, 1), (1152, .iadd, 1), (1153, .caload, 1), (1154, .aload 0, 1), (1155, .iload 3, 1), (1156, .bipush 2, 1), (1157, .iadd, 1), (1158, .caload, 1), (1159, .aload 0, 1), (1160, .iload 3, 1), (1161, .bipush 3, 1), (1162, .iadd, 1), (1163, .caload, 1), (1164, .aload 0, 1), (1165, .iload 3, 1), (1166, .bipush 4, 1), (1167, .iadd, 1), (1168, .caload, 1)] (ps := [inR ((i : Int) + 1), 0 ≤ ((i + 1 : Nat) : Int) ∧ ((i + 1 : Nat) : Int) < N, inR ((i : Int) + 2), 0 ≤ ((i + 2 : Nat) : Int) ∧ ((i + 2 : Nat) : Int) < N, inR ((i : Int) + 3), 0 ≤ ((i + 3 : Nat) : Int) ∧ ((i + 3 : Nat) : Int) < N, inR ((i : Int) + 4), 0 ≤ ((i + 4 : Nat) : Int) ∧ ((i + 4 : Nat) : Int) < N]) (z' := (1169, LSx i, [aI (I SCR (i + 4)), aI (I SCR (i + 3)), aI (I SCR (i + 2)), aI (I SCR (i + 1)), aR 0], MM N I J)) (by decide +kernel) rfl (show (inR ((i : Int) + 1)) ∧ (0 ≤ ((i + 1 : Nat) : Int) ∧ ((i + 1 : Nat) : Int) < N) ∧ (inR ((i : Int) + 2)) ∧ (0 ≤ ((i + 2 : Nat) : Int) ∧ ((i + 2 : Nat) : Int) < N) ∧ (inR ((i : Int) + 3)) ∧ (0 ≤ ((i + 3 : Nat) : Int) ∧ ((i + 3 : Nat) : Int) < N) ∧ (inR ((i : Int) + 4)) ∧ (0 ≤ ((i + 4 : Nat) : Int) ∧ ((i + 4 : Nat) : Int) < N) from ⟨(by unfold inR; omega), (by omega), (by unfold inR; omega), (by omega), (by unfold inR; omega), (by omega), (by unfold inR; omega), (by omega)⟩) ?_
  refine V.cv (c := 93) (na := 5) (o := 9) (a := 0) [aI (I SCR (i + 4)), aI (I SCR (i + 3)), aI (I SCR (i + 2)), aI (I SCR (i + 1))] [] (by decide +kernel) rfl rfl rfl rfl rfl (CT.go (n := n) (b_list h hn (hM.2.1 _ _)) rfl (okA 0 (([i + 1, i + 2, i + 3, i + 4] : List Nat).map (I SCR)) (okI (f := I SCR) (fun k => hM.2.1 SCR k) [i + 1, i + 2, i + 3, i + 4])) hM (fun z I1 J1 hM1 e hc => ?_))
  show V 0 (1172, LSx i, [aI z], MM N I1 J1) _
  refine V.blk [(1172, .aload 2, 1), (1173, .aload 0, 1), (1174, .iload 3, 1), (1175, .bipush 1, 1), (1176, .iadd, 1), (1177, .caload, 1), (1178, .aload 0, 1), (1179, .iload 3, 1), (1180, .bipush 2, 1), (1181, .iadd, 1), (1182, .caload, 1), (1183, .aload 0, 1), (1184, .iload 3, 1), (1185, .bipush 3, 1), (1186, .iadd, 1), (1187, .caload, 1), (1188, .aload 0, 1), (1189, .iload 3, 1), (1190, .bipush 4, 1), (1191, .iadd, 1), (1192, .caload, 1)] (ps := [inR ((i : Int) + 1), 0 ≤ ((i + 1 : Nat) : Int) ∧ ((i + 1 : Nat) : Int) < N, inR ((i : Int) + 2), 0 ≤ ((i + 2 : Nat) : Int) ∧ ((i + 2 : Nat) : Int) < N, inR ((i : Int) + 3), 0 ≤ ((i + 3 : Nat) : Int) ∧ ((i + 3 : Nat) : Int) < N, inR ((i : Int) + 4), 0 ≤ ((i + 4 : Nat) : Int) ∧ ((i + 4 : Nat) : Int) < N]) (z' := (1193, LSx i, [aI (I1 SCR (i + 4)), aI (I1 SCR (i + 3)), aI (I1 SCR (i + 2)), aI (I1 SCR (i + 1)), aR 52, aI z], MM N I1 J1)) (by decide +kernel) rfl (show (inR ((i : Int) + 1)) ∧ (0 ≤ ((i + 1 : Nat) : Int) ∧ ((i + 1 : Nat) : Int) < N) ∧ (inR ((i : Int) + 2)) ∧ (0 ≤ ((i + 2 : Nat) : Int) ∧ ((i + 2 : Nat) : Int) < N) ∧ (inR ((i : Int) + 3)) ∧ (0 ≤ ((i + 3 : Nat) : Int) ∧ ((i + 3 : Nat) : Int) < N) ∧ (inR ((i : Int) + 4)) ∧ (0 ≤ ((i + 4 : Nat) : Int) ∧ ((i + 4 : Nat) : Int) < N) from ⟨(by unfold inR; omega), (by omega), (by unfold inR; omega), (by omega), (by unfold inR; omega), (by omega), (by unfold inR; omega), (by omega)⟩) ?_
  rw [e]
  refine V.cv (c := 192) (na := 5) (o := 10) (a := 52) [aI (I SCR (i + 4)), aI (I SCR (i + 3)), aI (I SCR (i + 2)), aI (I SCR (i + 1))] [aI z] (by decide +kernel) rfl rfl rfl rfl rfl (CT.go2 hc (okA 52 (([i + 1, i + 2, i + 3, i + 4] : List Nat).map (I SCR)) (okI (f := I SCR) (fun k => hM.2.1 SCR k) [i + 1, i + 2, i + 3, i + 4])) hM1 (fun I2 J2 hM2 h2 => ?_))
  show V 0 (1196, LSx i, [aI z, aI z], MM N I2 J2) _
  refine V.blk [(1196, .if_icmp .eq 1303, 3)] (ps := []) (z' := (brc .eq z z 1303 1199, LSx i, [], MM N I2 J2)) (by decide +kernel) rfl trivial ?_
  exact V.eq (fun _ => cont I2 J2 hM2 h2) (fun hz => absurd rfl hz)
theorem law_29 (h : INV n I J) (hn : n ≤ 900) (hN : i + 6 ≤ N) (hN2 : N ≤ 3072) (hM : okM N xs (MM N I J)) (cont : ∀ I2 J2, okM N xs (MM N I2 J2) → INV (n + 1) I2 J2 → V 0 (1303, LSx i, [], MM N I2 J2) Q) : V 0 (1201, LSx i, [], MM N I J) Q := by
  refine V.blk [(1201, .aload 1, 1)] (ps := []) (z' := (1202, LSx i, [aR 0], MM N I J)) (by decide +kernel) rfl trivial ?_
  refine V.cv (c := 94) (na := 1) (o := 9) (a := 0) [] [] (by decide +kernel) rfl rfl rfl rfl rfl (CT.go (n := n) (b_tear h hn ) rfl (okA 0 (([] : List Nat).map (I SCR)) (okI (f := I SCR) (fun k => hM.2.1 SCR k) [])) hM (fun z I1 J1 hM1 e hc => ?_))
  show V 0 (1205, LSx i, [aI z], MM N I1 J1) _
  refine V.blk [(1205, .aload 2, 1)] (ps := []) (z' := (1206, LSx i, [aR 52, aI z], MM N I1 J1)) (by decide +kernel) rfl trivial ?_
  refine V.cv (c := 193) (na := 1) (o := 10) (a := 52) [] [aI z] (by decide +kernel) rfl rfl rfl rfl rfl (CT.go2 hc (okA 52 (([] : List Nat).map (I SCR)) (okI (f := I SCR) (fun k => hM.2.1 SCR k) [])) hM1 (fun I2 J2 hM2 h2 => ?_))
  show V 0 (1209, LSx i, [aI z, aI z], MM N I2 J2) _
  refine V.blk [(1209, .if_icmp .eq 1303, 3)] (ps := []) (z' := (brc .eq z z 1303 1212, LSx i, [], MM N I2 J2)) (by decide +kernel) rfl trivial ?_
  exact V.eq (fun _ => cont I2 J2 hM2 h2) (fun hz => absurd rfl hz)
theorem law_30 (h : INV n I J) (hn : n ≤ 900) (hN : i + 6 ≤ N) (hN2 : N ≤ 3072) (hM : okM N xs (MM N I J)) (cont : ∀ I2 J2, okM N xs (MM N I2 J2) → INV (n + 1) I2 J2 → V 0 (1303, LSx i, [], MM N I2 J2) Q) : V 0 (1214, LSx i, [], MM N I J) Q := by
  refine V.blk [(1214, .aload 1, 1), (1215, .aload 0, 1), (1216, .iload 3, 1), (1217, .bipush 1, 1), (1218, .iadd, 1), (1219, .caload, 1)] (ps := [inR ((i : Int) + 1), 0 ≤ ((i + 1 : Nat) : Int) ∧ ((i + 1 : Nat) : Int) < N]) (z' := (1220, LSx i, [aI (I SCR (i + 1)), aR 0], MM N I J)) (by decide +kernel) rfl (show (inR ((i : Int) + 1)) ∧ (0 ≤ ((i + 1 : Nat) : Int) ∧ ((i + 1 : Nat) : Int) < N) from ⟨(by unfold inR; omega), (by omega)⟩) ?_
  refine V.cv (c := 95) (na := 2) (o := 9) (a := 0) [aI (I SCR (i + 1))] [] (by decide +kernel) rfl rfl rfl rfl rfl (CT.go (n := n) (b_row h hn (hM.2.1 _ _)) rfl (okA 0 (([i + 1] : List Nat).map (I SCR)) (okI (f := I SCR) (fun k => hM.2.1 SCR k) [i + 1])) hM (fun z I1 J1 hM1 e hc => ?_))
  show V 0 (1223, LSx i, [aI z], MM N I1 J1) _
  refine V.blk [(1223, .aload 2, 1), (1224, .aload 0, 1), (1225, .iload 3, 1), (1226, .bipush 1, 1), (1227, .iadd, 1), (1228, .caload, 1)] (ps := [inR ((i : Int) + 1), 0 ≤ ((i + 1 : Nat) : Int) ∧ ((i + 1 : Nat) : Int) < N]) (z' := (1229, LSx i, [aI (I1 SCR (i + 1)), aR 52, aI z], MM N I1 J1)) (by decide +kernel) rfl (show (inR ((i : Int) + 1)) ∧ (0 ≤ ((i + 1 : Nat) : Int) ∧ ((i + 1 : Nat) : Int) < N) from ⟨(by unfold inR; omega), (by omega)⟩) ?_
  rw [e]
  refine V.cv (c := 194) (na := 2) (o := 10) (a := 52) [aI (I SCR (i + 1))] [aI z] (by decide +kernel) rfl rfl rfl rfl rfl (CT.go2 hc (okA 52 (([i + 1] : List Nat).map (I SCR)) (okI (f := I SCR) (fun k => hM.2.1 SCR k) [i + 1])) hM1 (fun I2 J2 hM2 h2 => ?_))
  show V 0 (1232, LSx i, [aI z, aI z], MM N I2 J2) _
  refine V.blk [(1232, .if_icmp .eq 1303, 3)] (ps := []) (z' := (brc .eq z z 1303 1235, LSx i, [], MM N I2 J2)) (by decide +kernel) rfl trivial ?_
  exact V.eq (fun _ => cont I2 J2 hM2 h2) (fun hz => absurd rfl hz)
theorem law_31 (h : INV n I J) (hn : n ≤ 900) (hN : i + 6 ≤ N) (hN2 : N ≤ 3072) (hM : okM N xs (MM N I J)) (cont : ∀ I2 J2, okM N xs (MM N I2 J2) → INV (n + 1) I2 J2 → V 0 (1303, LSx i, [], MM N I2 J2) Q) : V 0 (1237, LSx i, [], MM N I J) Q := by
  refine V.blk [(1237, .aload 1, 1), (1238, .aload 0, 1), (1239, .iload 3, 1), (1240, .bipush 1, 1), (1241, .iadd, 1), (1242, .caload, 1), (1243, .aload 0, 1), (1244, .iload 3, 1), (1245, .bipush 2, 1), (1246, .iadd, 1), (1247, .caload, 1), (1248, .aload 0, 1), (1249, .iload 3, 1), (1250, .bipush 3, 1), (1251, .iadd, 1), (1252, .caload, 1)] (ps := [inR ((i : Int) + 1), 0 ≤ ((i + 1 : Nat) : Int) ∧ ((i + 1 : Nat) : Int) < N, inR ((i : Int) + 2), 0 ≤ ((i + 2 : Nat) : Int) ∧ ((i + 2 : Nat) : Int) < N, inR ((i : Int) + 3), 0 ≤ ((i + 3 : Nat) : Int) ∧ ((i + 3 : Nat) : Int) < N]) (z' := (1253, LSx i, [aI (I SCR (i + 3)), aI (I SCR (i + 2)), aI (I SCR (i + 1)), aR 0], MM N I J)) (by decide +kernel) rfl (show (inR ((i : Int) + 1)) ∧ (0 ≤ ((i + 1 : Nat) : Int) ∧ ((i + 1 : Nat) : Int) < N) ∧ (inR ((i : Int) + 2)) ∧ (0 ≤ ((i + 2 : Nat) : Int) ∧ ((i + 2 : Nat) : Int) < N) ∧ (inR ((i : Int) + 3)) ∧ (0 ≤ ((i + 3 : Nat) : Int) ∧ ((i + 3 : Nat) : Int) < N) from ⟨(by unfold inR; omega), (by omega), (by unfold inR; omega), (by omega), (by unfold inR; omega), (by omega)⟩) ?_
  refine V.cv (c := 96) (na := 4) (o := 9) (a := 0) [aI (I SCR (i + 3)), aI (I SCR (i + 2)), aI (I SCR (i + 1))] [] (by decide +kernel) rfl rfl rfl rfl rfl (CT.go (n := n) (b_copy h hn ⟨hM.2.1 _ _, hM.2.1 _ _, hM.2.1 _ _⟩) rfl (okA 0 (([i + 1, i + 2, i + 3] : List Nat).map (I SCR)) (okI (f := I SCR) (fun k => hM.2.1 SCR k) [i + 1, i + 2, i + 3])) hM (fun z I1 J1 hM1 e hc => ?_))
  show V 0 (1256, LSx i, [aI z], MM N I1 J1) _
  refine V.blk [(1256, .aload 2, 1), (1257, .aload 0, 1), (1258, .iload 3, 1), (1259, .bipush 1, 1), (1260, .iadd, 1), (1261, .caload, 1), (1262, .aload 0, 1), (1263, .iload 3, 1), (1264, .bipush 2, 1), (1265, .iadd, 1), (1266, .caload, 1), (1267, .aload 0, 1), (1268, .iload 3, 1), (1269, .bipush 3, 1), (1270, .iadd, 1), (1271, .caload, 1)] (ps := [inR ((i : Int) + 1), 0 ≤ ((i + 1 : Nat) : Int) ∧ ((i + 1 : Nat) : Int) < N, inR ((i : Int) + 2), 0 ≤ ((i + 2 : Nat) : Int) ∧ ((i + 2 : Nat) : Int) < N, inR ((i : Int) + 3), 0 ≤ ((i + 3 : Nat) : Int) ∧ ((i + 3 : Nat) : Int) < N]) (z' := (1272, LSx i, [aI (I1 SCR (i + 3)), aI (I1 SCR (i + 2)), aI (I1 SCR (i + 1)), aR 52, aI z], MM N I1 J1)) (by decide +kernel) rfl (show (inR ((i : Int) + 1)) ∧ (0 ≤ ((i + 1 : Nat) : Int) ∧ ((i + 1 : Nat) : Int) < N) ∧ (inR ((i : Int) + 2)) ∧ (0 ≤ ((i + 2 : Nat) : Int) ∧ ((i + 2 : Nat) : Int) < N) ∧ (inR ((i : Int) + 3)) ∧ (0 ≤ ((i + 3 : Nat) : Int) ∧ ((i + 3 : Nat) : Int) < N) from ⟨(by unfold inR; omega), (by omega), (by unfold inR; omega), (by omega), (by unfold inR; omega), (by omega)⟩) ?_
  rw [e]
  refine V.cv (c := 195) (na := 4) (o := 10) (a := 52) [aI (I SCR (i + 3)), aI (I SCR (i + 2)), aI (I SCR (i + 1))] [aI z] (by decide +kernel) rfl rfl rfl rfl rfl (CT.go2 hc (okA 52 (([i + 1, i + 2, i + 3] : List Nat).map (I SCR)) (okI (f := I SCR) (fun k => hM.2.1 SCR k) [i + 1, i + 2, i + 3])) hM1 (fun I2 J2 hM2 h2 => ?_))
  show V 0 (1275, LSx i, [aI z, aI z], MM N I2 J2) _
  refine V.blk [(1275, .if_icmp .eq 1303, 3)] (ps := []) (z' := (brc .eq z z 1303 1278, LSx i, [], MM N I2 J2)) (by decide +kernel) rfl trivial ?_
  exact V.eq (fun _ => cont I2 J2 hM2 h2) (fun hz => absurd rfl hz)
theorem law_32 (h : INV n I J) (hn : n ≤ 900) (hN : i + 6 ≤ N) (hN2 : N ≤ 3072) (hM : okM N xs (MM N I J)) (cont : ∀ I2 J2, okM N xs (MM N I2 J2) → INV (n + 1) I2 J2 → V 0 (1303, LSx i, [], MM N I2 J2) Q) : V 0 (1280, LSx i, [], MM N I J) Q := by
  refine V.blk [(1280, .aload 1, 1), (1281, .aload 0, 1), (1282, .iload 3, 1), (1283, .bipush 1, 1), (1284, .iadd, 1), (1285, .caload, 1)] (ps := [inR ((i : Int) + 1), 0 ≤ ((i + 1 : Nat) : Int) ∧ ((i + 1 : Nat) : Int) < N]) (z' := (1286, LSx i, [aI (I SCR (i + 1)), aR 0], MM N I J)) (by decide +kernel) rfl (show (inR ((i : Int) + 1)) ∧ (0 ≤ ((i + 1 : Nat) : Int) ∧ ((i + 1 : Nat) : Int) < N) from ⟨(by unfold inR; omega), (by omega)⟩) ?_
  refine V.cv (c := 97) (na := 2) (o := 9) (a := 0) [aI (I SCR (i + 1))] [] (by decide +kernel) rfl rfl rfl rfl rfl (CT.go (n := n) (b_status h hn (hM.2.1 _ _)) rfl (okA 0 (([i + 1] : List Nat).map (I SCR)) (okI (f := I SCR) (fun k => hM.2.1 SCR k) [i + 1])) hM (fun z I1 J1 hM1 e hc => ?_))
  show V 0 (1289, LSx i, [aI z], MM N I1 J1) _
  refine V.blk [(1289, .aload 2, 1), (1290, .aload 0, 1), (1291, .iload 3, 1), (1292, .bipush 1, 1), (1293, .iadd, 1), (1294, .caload, 1)] (ps := [inR ((i : Int) + 1), 0 ≤ ((i + 1 : Nat) : Int) ∧ ((i + 1 : Nat) : Int) < N]) (z' := (1295, LSx i, [aI (I1 SCR (i + 1)), aR 52, aI z], MM N I1 J1)) (by decide +kernel) rfl (show (inR ((i : Int) + 1)) ∧ (0 ≤ ((i + 1 : Nat) : Int) ∧ ((i + 1 : Nat) : Int) < N) from ⟨(by unfold inR; omega), (by omega)⟩) ?_
  rw [e]
  refine V.cv (c := 196) (na := 2) (o := 10) (a := 52) [aI (I SCR (i + 1))] [aI z] (by decide +kernel) rfl rfl rfl rfl rfl (CT.go2 hc (okA 52 (([i + 1] : List Nat).map (I SCR)) (okI (f := I SCR) (fun k => hM.2.1 SCR k) [i + 1])) hM1 (fun I2 J2 hM2 h2 => ?_))
  show V 0 (1298, LSx i, [aI z, aI z], MM N I2 J2) _
  refine V.blk [(1298, .if_icmp .eq 1303, 3)] (ps := []) (z' := (brc .eq z z 1303 1301, LSx i, [], MM N I2 J2)) (by decide +kernel) rfl trivial ?_
  exact V.eq (fun _ => cont I2 J2 hM2 h2) (fun hz => absurd rfl hz)
theorem law_step (h : INV n I J) (hn : n ≤ 900) (hN : i + 6 ≤ N) (hN2 : N ≤ 3072) (hM : okM N xs (MM N I J)) (cont : ∀ I2 J2, okM N xs (MM N I2 J2) → INV (n + 1) I2 J2 → V 0 (1303, LSx i, [], MM N I2 J2) Q) : V 0 (27, LSx i, [], MM N I J) Q := by
  refine V.blk [(27, .aload 0, 1), (28, .iload 3, 1), (29, .caload, 1), (30, .bipush 63, 2), (32, .iand, 1), (33, .tableswitch 1303 0 32 #[180, 203, 256, 289, 312, 335, 368, 391, 434, 487, 530, 599, 612, 625, 638, 661, 684, 707, 730, 763, 796, 849, 893, 956, 1009, 1032, 1055, 1115, 1148, 1201, 1214, 1237, 1280], 147)] (ps := [0 ≤ (i : Int) ∧ (i : Int) < N, 63 = 1 ∨ 63 = 63 ∨ 63 = 127]) (z' := (tsw 1303 0 32 [180, 203, 256, 289, 312, 335, 368, 391, 434, 487, 530, 599, 612, 625, 638, 661, 684, 707, 730, 763, 796, 849, 893, 956, 1009, 1032, 1055, 1115, 1148, 1201, 1214, 1237, 1280] (I SCR i % (63 + 1)), LSx i, [], MM N I J)) (by decide +kernel) rfl (show (0 ≤ (i : Int) ∧ (i : Int) < N) ∧ (63 = 1 ∨ 63 = 63 ∨ 63 = 127) from ⟨by omega, Or.inr (Or.inl rfl)⟩) ?_
  refine V.ts (fun k ht hlt hle => ?_) (by decide) (fun _ => ?_)
  · match k, ht, hlt with
    | 0, _, _ =>
      show V 0 (180, LSx i, [], MM N I J) _
      exact law_0 h hn hN hN2 hM cont
    | 1, _, _ =>
      show V 0 (203, LSx i, [], MM N I J) _
      exact law_1 h hn hN hN2 hM cont
    | 2, _, _ =>
      show V 0 (256, LSx i, [], MM N I J) _
      exact law_2 h hn hN hN2 hM cont
    | 3, _, _ =>
      show V 0 (289, LSx i, [], MM N I J) _
      exact law_3 h hn hN hN2 hM cont
    | 4, _, _ =>
      show V 0 (312, LSx i, [], MM N I J) _
      exact law_4 h hn hN hN2 hM cont
    | 5, _, _ =>
      show V 0 (335, LSx i, [], MM N I J) _
      exact law_5 h hn hN hN2 hM cont
    | 6, _, _ =>
      show V 0 (368, LSx i, [], MM N I J) _
      exact law_6 h hn hN hN2 hM cont
    | 7, _, _ =>
      show V 0 (391, LSx i, [], MM N I J) _
      exact law_7 h hn hN hN2 hM cont
    | 8, _, _ =>
      show V 0 (434, LSx i, [], MM N I J) _
      exact law_8 h hn hN hN2 hM cont
    | 9, _, _ =>
      show V 0 (487, LSx i, [], MM N I J) _
      exact law_9 h hn hN hN2 hM cont
    | 10, _, _ =>
      show V 0 (530, LSx i, [], MM N I J) _
      exact law_10 h hn hN hN2 hM cont
    | 11, _, _ =>
      show V 0 (599, LSx i, [], MM N I J) _
      exact law_11 h hn hN hN2 hM cont
    | 12, _, _ =>
      show V 0 (612, LSx i, [], MM N I J) _
      exact law_12 h hn hN hN2 hM cont
    | 13, _, _ =>
      show V 0 (625, LSx i, [], MM N I J) _
      exact law_13 h hn hN hN2 hM cont
    | 14, _, _ =>
      show V 0 (638, LSx i, [], MM N I J) _
      exact law_14 h hn hN hN2 hM cont
    | 15, _, _ =>
      show V 0 (661, LSx i, [], MM N I J) _
      exact law_15 h hn hN hN2 hM cont
    | 16, _, _ =>
      show V 0 (684, LSx i, [], MM N I J) _
      exact law_16 h hn hN hN2 hM cont
    | 17, _, _ =>
      show V 0 (707, LSx i, [], MM N I J) _
      exact law_17 h hn hN hN2 hM cont
    | 18, _, _ =>
      show V 0 (730, LSx i, [], MM N I J) _
      exact law_18 h hn hN hN2 hM cont
    | 19, _, _ =>
      show V 0 (763, LSx i, [], MM N I J) _
      exact law_19 h hn hN hN2 hM cont
    | 20, _, _ =>
      show V 0 (796, LSx i, [], MM N I J) _
      exact law_20 h hn hN hN2 hM cont
    | 21, _, _ =>
      show V 0 (849, LSx i, [], MM N I J) _
      exact law_21 h hn hN hN2 hM cont
    | 22, _, _ =>
      show V 0 (893, LSx i, [], MM N I J) _
      exact law_22 h hn hN hN2 hM cont
    | 23, _, _ =>
      show V 0 (956, LSx i, [], MM N I J) _
      exact law_23 h hn hN hN2 hM cont
    | 24, _, _ =>
      show V 0 (1009, LSx i, [], MM N I J) _
      exact law_24 h hn hN hN2 hM cont
    | 25, _, _ =>
      show V 0 (1032, LSx i, [], MM N I J) _
      exact law_25 h hn hN hN2 hM cont
    | 26, _, _ =>
      show V 0 (1055, LSx i, [], MM N I J) _
      exact law_26 h hn hN hN2 hM cont
    | 27, _, _ =>
      show V 0 (1115, LSx i, [], MM N I J) _
      exact law_27 h hn hN hN2 hM cont
    | 28, _, _ =>
      show V 0 (1148, LSx i, [], MM N I J) _
      exact law_28 h hn hN hN2 hM cont
    | 29, _, _ =>
      show V 0 (1201, LSx i, [], MM N I J) _
      exact law_29 h hn hN hN2 hM cont
    | 30, _, _ =>
      show V 0 (1214, LSx i, [], MM N I J) _
      exact law_30 h hn hN hN2 hM cont
    | 31, _, _ =>
      show V 0 (1237, LSx i, [], MM N I J) _
      exact law_31 h hn hN hN2 hM cont
    | 32, _, _ =>
      show V 0 (1280, LSx i, [], MM N I J) _
      exact law_32 h hn hN hN2 hM cont
    | k + 33, _, hlt => exact absurd hlt (by simp)
  · show V 0 (1303, LSx i, [], MM N I J) _
    exact cont I J hM h.next
end LAW
theorem law_loop {N : Nat} {xs : Nat → Int32} (hN2 : N ≤ 3072) : ∀ (m n i : Nat) (I : MI) (J : MJ), n + m = 513 → i = 6 * n → i ≤ N → INV n I J → okM N xs (MM N I J) → V 0 (18, LSx i, [], MM N I J) (fun r M' => r = some (aI 1) ∧ ∃ I' J', M' = MM N I' J') := by
  intro m
  induction m with
  | zero => intro n i I J h1 h2 h3; exfalso; omega
  | succ m ih =>
    intro n i I J h1 h2 h3 h hM
    refine V.blk [(18, .iload 3, 1), (19, .aload 0, 1), (20, .saload, 1), (21, .bipush 6, 2), (23, .isub, 1), (24, .if_icmp .gt 1309, 3)] (ps := [(N : Int) ≤ 100000, inR ((N : Int) - 6)]) (z' := (brc .gt (i : Int) ((N : Int) - 6) 1309 27, LSx i, [], MM N I J)) (by decide +kernel) rfl (show (N : Int) ≤ 100000 ∧ inR ((N : Int) - 6) from ⟨by omega, by unfold inR; omega⟩) ?_
    refine V.gt (fun hg => ?_) (fun hg => ?_)
    · skip
      refine V.blk [(1309, .bipush 1, 1)] (ps := []) (z' := (1310, LSx i, [aI 1], MM N I J)) (by decide +kernel) rfl trivial ?_
      refine V.rz (by decide +kernel) (by decide) ?_
      exact ⟨rfl, I, J, rfl⟩
    · skip
      refine law_step h (by omega) (by omega) hN2 hM (fun I2 J2 hM2 h2 => ?_)
      refine V.blk [(1303, .iinc 3 6, 3), (1306, .goto 18, 3)] (ps := [inR ((i : Int) + 6)]) (z' := (18, LSx (i + 6), [], MM N I2 J2)) (by decide +kernel) rfl (show inR ((i : Int) + 6) from (by unfold inR; omega)) ?_
      exact ih (n + 1) (i + 6) I2 J2 (by omega) (by omega) (by omega) h2 hM2
