/-! ===== the reference: differ, would ===== -/
theorem shrl_i32 (x : Int64) {k : Nat} (hk : k < 64) : (shrl x k &&& Int64.ofInt 1).toInt32.toInt = b2 (tb x k) := by
  have hs := shrl_i x (k := k) hk
  have h32 : ∀ x : Int64, x = Int64.ofInt 0 ∨ x = Int64.ofInt 1 → x.toInt32.toInt = x.toInt := by
    intro x hx
    rcases hx with rfl | rfl <;> decide +kernel
  rw [h32, hs]
  have h1 := shrl_1 x (k := k) hk
  rw [h1]
  split
  · exact Or.inr rfl
  · exact Or.inl rfl
/-- over how many bits two scenes differ, the first n spots, bit by bit -/
def dfB (v w : Nat → Int64) : Nat → Int
  | 0 => 0
  | n + 1 => dfB v w n + cntF (tb (w n ^^^ v n)) 40
theorem dfB_in (v w : Nat → Int64) : ∀ n : Nat, 0 ≤ dfB v w n ∧ dfB v w n ≤ 40 * n
  | 0 => ⟨Int.le_refl _, Int.le_refl _⟩
  | n + 1 => by
    have i := dfB_in v w n
    have j := cntF_in (tb (w n ^^^ v n)) 40
    unfold dfB
    omega
theorem dfB_congr {v w v' w' : Nat → Int64} : ∀ n, (∀ s, s < n → v s = v' s ∧ w s = w' s) → dfB v w n = dfB v' w' n
  | 0, _ => rfl
  | n + 1, h => by
    unfold dfB
    rw [dfB_congr n fun s hs => h s (by omega), (h n (by omega)).1, (h n (by omega)).2]
def DiffM (K : MI) (L : MJ) (t u : Int) (a : AV) (U : MI) : Prop :=
  (¬ (turnP K t ∧ turnP K u) → a = aI (-3) ∧ U = rfU K (-3)) ∧
  (turnP K t ∧ turnP K u → U = K ∧ ∃ v w, SETS K L (cnB K t (K 0 11) (-1)) v ∧ SETS K L (cnB K u (K 0 11) (-1)) w ∧ a = aI (dfB v w 320))
theorem l_mdf2 {N : Nat} {I : MI} {J : MJ} {t u c0 : Int} {s : Nat} {Q : Option AV → M5 → Prop} (hs : s < 320) (h0 : 0 ≤ c0 ∧ c0 ≤ 40 * 320) (cont : ∀ w : Option AV, V 191 (113, [some (aR 52), some (aI t), some (aI u), some (aI (c0 + cntF (tb (J 83 s ^^^ J 84 s)) 40)), some (aI (s : Int)), w], [], MM N I J) Q) : ∀ (k p : Nat) (c : Int), 41 ≤ k + p → p ≤ 40 → c = c0 + cntF (tb (J 83 s ^^^ J 84 s)) p → V 191 (76, [some (aR 52), some (aI t), some (aI u), some (aI c), some (aI (s : Int)), some (aI (p : Int))], [], MM N I J) Q := by
  intro k
  induction k with
  | zero => intro p c h1 h2; exfalso; omega
  | succ k ih =>
    intro p c h1 h2 hc
    have i1 := cntF_in (tb (J 83 s ^^^ J 84 s)) p
    refine V.blk [(76, .iload 5, 2), (78, .bipush 40, 2), (80, .if_icmp .ge 113, 3)] (ps := []) (z' := (brc .ge (p : Int) 40 113 83, [some (aR 52), some (aI t), some (aI u), some (aI c), some (aI (s : Int)), some (aI (p : Int))], [], MM N I J)) (by decide +kernel) rfl trivial ?_
    refine V.ge (fun bh1 => ?_) (fun bh2 => ?_)
    · skip
      have e : p = 40 := by omega
      subst e
      rw [hc]
      exact cont _
    · skip
      refine V.blk [(83, .iload 3, 1), (84, .aload 0, 1), (85, .getfield 10044, 3), (88, .iload 4, 2), (90, .laload, 1), (91, .aload 0, 1), (92, .getfield 10045, 3), (95, .iload 4, 2), (97, .laload, 1), (98, .lxor, 1), (99, .iload 5, 2), (101, .lshr, 1), (102, .jsr_w 1, 1), (103, .land, 1), (104, .l2i, 1)] (ps := [0 ≤ (s : Int) ∧ (s : Int) < 320, 0 ≤ (s : Int) ∧ (s : Int) < 320, 0 ≤ (p : Int) ∧ (p : Int) < 64]) (z' := (105, [some (aR 52), some (aI t), some (aI u), some (aI c), some (aI (s : Int)), some (aI (p : Int))], [aI (((shrl ((J 83 s) ^^^ (J 84 s)) (p : Int)) &&& (Int64.ofInt 1)).toInt32.toInt), aI c], MM N I J)) (by decide +kernel) rfl (show (0 ≤ (s : Int) ∧ (s : Int) < 320) ∧ (0 ≤ (s : Int) ∧ (s : Int) < 320) ∧ (0 ≤ (p : Int) ∧ (p : Int) < 64) from ⟨(by omega), (by omega), (by omega)⟩) ?_
      rw [shrl_i32 _ (by omega)]
      have hb2 := b2_in (tb (J 83 s ^^^ J 84 s) p)
      refine V.blk [(105, .iadd, 1), (106, .istore 3, 1), (107, .iinc 5 1, 3), (110, .goto 76, 3)] (ps := [inR (c + (b2 (tb (J 83 s ^^^ J 84 s) p))), inR ((p : Int) + 1)]) (z' := (76, [some (aR 52), some (aI t), some (aI u), some (aI (c + (b2 (tb (J 83 s ^^^ J 84 s) p)))), some (aI (s : Int)), some (aI ((p + 1 : Nat) : Int))], [], MM N I J)) (by decide +kernel) rfl (show (inR (c + (b2 (tb (J 83 s ^^^ J 84 s) p)))) ∧ (inR ((p : Int) + 1)) from ⟨(by unfold inR; omega), (by unfold inR; omega)⟩) ?_
      refine ih (p + 1) _ (by omega) (by omega) ?_
      rw [hc, cntF]
      cases tb (J 83 s ^^^ J 84 s) p <;> simp [b2] <;> omega
theorem l_mdf1 {N : Nat} {I : MI} {J : MJ} {t u : Int} : ∀ (k s : Nat) (c : Int) (w : Option AV), 321 ≤ k + s → s ≤ 320 → c = dfB (J 84) (J 83) s → V 191 (65, [some (aR 52), some (aI t), some (aI u), some (aI c), some (aI (s : Int)), w], [], MM N I J) (pure1 N I J (aI (dfB (J 84) (J 83) 320))) := by
  intro k
  induction k with
  | zero => intro s c w h1 h2; exfalso; omega
  | succ k ih =>
    intro s c w h1 h2 hc
    have i1 := dfB_in (J 84) (J 83) s
    refine V.blk [(65, .iload 4, 2), (67, .bipush 320, 3), (70, .if_icmp .ge 119, 3)] (ps := []) (z' := (brc .ge (s : Int) 320 119 73, [some (aR 52), some (aI t), some (aI u), some (aI c), some (aI (s : Int)), w], [], MM N I J)) (by decide +kernel) rfl trivial ?_
    refine V.ge (fun bh1 => ?_) (fun bh2 => ?_)
    · skip
      refine V.blk [(119, .iload 3, 1)] (ps := []) (z' := (120, [some (aR 52), some (aI t), some (aI u), some (aI c), some (aI (s : Int)), w], [aI c], MM N I J)) (by decide +kernel) rfl trivial ?_
      refine V.ri (by decide +kernel) ?_
      refine ⟨congrArg (fun w => some (aI w)) ?_, rfl⟩
      have e : s = 320 := by omega
      rw [hc, e]
    · skip
      refine V.blk [(73, .bipush 0, 1), (74, .istore 5, 2)] (ps := []) (z' := (76, [some (aR 52), some (aI t), some (aI u), some (aI c), some (aI (s : Int)), some (aI 0)], [], MM N I J)) (by decide +kernel) rfl trivial ?_
      refine l_mdf2 (by omega) (by omega) (fun w9 => ?_) 41 0 c (by omega) (by omega) (show c = c + cntF _ 0 by unfold cntF; omega)
      refine V.blk [(113, .iinc 4 1, 3), (116, .goto 65, 3)] (ps := [inR ((s : Int) + 1)]) (z' := (65, [some (aR 52), some (aI t), some (aI u), some (aI (c + cntF (tb (J 83 s ^^^ J 84 s)) 40)), some (aI ((s + 1 : Nat) : Int)), w9], [], MM N I J)) (by decide +kernel) rfl (show (inR ((s : Int) + 1)) from (by unfold inR; omega)) ?_
      exact ih (s + 1) _ _ (by omega) (by omega) (by rw [hc]; rfl)
theorem l_mdf0 {N : Nat} {I : MI} {J : MJ} {t u : Int} {Q : Option AV → M5 → Prop} (cont : ∀ (w : Option AV) (J' : MJ), (∀ i, i ≠ 84 → J' i = J i) → (∀ s, s < 320 → J' 84 s = J 83 s) → V 191 (55, [some (aR 52), some (aI t), some (aI u), w, none, none], [], MM N I J') Q) : ∀ (k s : Nat) (J' : MJ), 321 ≤ k + s → s ≤ 320 → (∀ i, i ≠ 84 → J' i = J i) → (∀ x, x < s → J' 84 x = J 83 x) → V 191 (30, [some (aR 52), some (aI t), some (aI u), some (aI (s : Int)), none, none], [], MM N I J') Q := by
  intro k
  induction k with
  | zero => intro s J' h1 h2; exfalso; omega
  | succ k ih =>
    intro s J' h1 h2 ho hc
    refine V.blk [(30, .iload 3, 1), (31, .bipush 320, 3), (34, .if_icmp .ge 55, 3)] (ps := []) (z' := (brc .ge (s : Int) 320 55 37, [some (aR 52), some (aI t), some (aI u), some (aI (s : Int)), none, none], [], MM N I J')) (by decide +kernel) rfl trivial ?_
    refine V.ge (fun bh1 => ?_) (fun bh2 => ?_)
    · skip
      exact cont _ J' ho (fun x hx => hc x (by omega))
    · skip
      refine V.blk [(37, .aload 0, 1), (38, .getfield 10045, 3), (41, .iload 3, 1), (42, .aload 0, 1), (43, .getfield 10044, 3), (46, .iload 3, 1), (47, .laload, 1), (48, .lastore, 1), (49, .iinc 3 1, 3), (52, .goto 30, 3)] (ps := [0 ≤ (s : Int) ∧ (s : Int) < 320, 0 ≤ (s : Int) ∧ (s : Int) < 320, inR ((s : Int) + 1)]) (z' := (30, [some (aR 52), some (aI t), some (aI u), some (aI ((s + 1 : Nat) : Int)), none, none], [], MM N I (ma J' 84 (ma (J' 84) s (J' 83 s))))) (by decide +kernel) rfl (show (0 ≤ (s : Int) ∧ (s : Int) < 320) ∧ (0 ≤ (s : Int) ∧ (s : Int) < 320) ∧ (inR ((s : Int) + 1)) from ⟨(by omega), (by omega), (by unfold inR; omega)⟩) ?_
      refine V.nJ (fun J3 eJ3 => ?_)
      refine ih (s + 1) J3 (by omega) (by omega) (fun i a => by rw [eJ3, ma_ne _ _ a]; exact ho i a) (fun x hx => ?_)
      rw [eJ3, ma_self]
      by_cases e : x = s
      · subst e
        rw [ma_self, ho 83 (by decide)]
      · rw [ma_ne _ _ e]
        exact hc x (by omega)
theorem m_X10_differ {N : Nat} {I : MI} {J : MJ} {K : MI} {L : MJ} {t u : Int} (hX : WX K L) (hA : RA K I) (hr : RfM I) (hV : Vok I) (hC : CA K L I J) : CT 191 [aR 52, aI t, aI u] (MM N I J) (fun r M' => ∃ a U I' J', r = some a ∧ M' = MM N I' J' ∧ DiffM K L t u a U ∧ PO U L I I' J') := by
  have h40 := hX.prOK.1
  have g1 : I 52 1 = K 1 1 := hA.1.1
  have g18 : I 52 18 = K 10 13 := hA.2.2.2.1.2.1
  refine CT.ofV (n := 6) (ls := [some (aR 52), some (aI t), some (aI u), none, none, none]) rfl rfl rfl ?_
  refine V.blk [(0, .aload 0, 1), (1, .iload 1, 1)] (ps := []) (z' := (2, [some (aR 52), some (aI t), some (aI u), none, none, none], [aI t, aR 52], MM N I J)) (by decide +kernel) rfl trivial ?_
  refine V.cv (c := 120) (na := 2) (o := 10) (a := 52) [aI t] [] (by decide +kernel) rfl rfl rfl rfl rfl (V.pr (m_X10_isTurn) ?_)
  show V 191 (5, [some (aR 52), some (aI t), some (aI u), none, none, none], [aI (b2 (decide (0 ≤ t ∧ t ≤ I 52 18)))], MM N I J) _
  refine V.blk [(5, .ifCond .eq 16, 3)] (ps := []) (z' := (brc .eq (b2 (decide (0 ≤ t ∧ t ≤ I 52 18))) 0 16 8, [some (aR 52), some (aI t), some (aI u), none, none, none], [], MM N I J)) (by decide +kernel) rfl trivial ?_
  refine V.eq (fun bh1 => ?_) (fun bh2 => ?_)
  · skip
    try simp only [b2_cast, b2_ncast, Classical.not_not, lcm_lt, lcm_ge, lcm_gt, lcm_le, lcm_eq, b2_0, b2_n0, Bool.not_eq_false, Bool.not_eq_true, decide_eq_true_eq, decide_eq_false_iff_not] at bh1
    refine V.blk [(16, .aload 0, 1), (17, .bipush (-3), 2)] (ps := []) (z' := (19, [some (aR 52), some (aI t), some (aI u), none, none, none], [aI (-3), aR 52], MM N I J)) (by decide +kernel) rfl trivial ?_
    refine V.cv (c := 116) (na := 2) (o := 10) (a := 52) [aI (-3)] [] (by decide +kernel) rfl rfl rfl rfl rfl ((m_no (by assumption) (by omega)).mono (fun rv M1 q => ?_))
    obtain ⟨rfl, rfl⟩ := q
    show V 191 (22, [some (aR 52), some (aI t), some (aI u), none, none, none], [aI (-3)], MM N ((noU I (-3))) J) _
    refine V.nI (fun I3 eI3 => ?_)
    refine V.ri (by decide +kernel) ?_
    have hn : ¬ (turnP K t ∧ turnP K u) := by unfold turnP; omega
    refine ⟨_, rfU K (-3), noU I (-3), J, rfl, by subst_vars; rfl, ⟨fun _ => ⟨rfl, rfl⟩, fun w => absurd w hn⟩, PO.no hA hV hC (by decide)⟩
  · skip
    try simp only [b2_cast, b2_ncast, Classical.not_not, lcm_lt, lcm_ge, lcm_gt, lcm_le, lcm_eq, b2_0, b2_n0, Bool.not_eq_false, Bool.not_eq_true, decide_eq_true_eq, decide_eq_false_iff_not] at bh2
    refine V.blk [(8, .aload 0, 1), (9, .iload 2, 1)] (ps := []) (z' := (10, [some (aR 52), some (aI t), some (aI u), none, none, none], [aI u, aR 52], MM N I J)) (by decide +kernel) rfl trivial ?_
    refine V.cv (c := 120) (na := 2) (o := 10) (a := 52) [aI u] [] (by decide +kernel) rfl rfl rfl rfl rfl (V.pr (m_X10_isTurn) ?_)
    show V 191 (13, [some (aR 52), some (aI t), some (aI u), none, none, none], [aI (b2 (decide (0 ≤ u ∧ u ≤ I 52 18)))], MM N I J) _
    refine V.blk [(13, .ifCond .ne 23, 3)] (ps := []) (z' := (brc .ne (b2 (decide (0 ≤ u ∧ u ≤ I 52 18))) 0 23 16, [some (aR 52), some (aI t), some (aI u), none, none, none], [], MM N I J)) (by decide +kernel) rfl trivial ?_
    refine V.ne (fun bh4 => ?_) (fun bh5 => ?_)
    · skip
      try simp only [b2_cast, b2_ncast, Classical.not_not, lcm_lt, lcm_ge, lcm_gt, lcm_le, lcm_eq, b2_0, b2_n0, Bool.not_eq_false, Bool.not_eq_true, decide_eq_true_eq, decide_eq_false_iff_not] at bh4
      refine V.blk [(23, .aload 0, 1), (24, .iload 1, 1)] (ps := []) (z' := (25, [some (aR 52), some (aI t), some (aI u), none, none, none], [aI t, aR 52], MM N I J)) (by decide +kernel) rfl trivial ?_
      refine V.cv (c := 171) (na := 2) (o := 10) (a := 52) [aI t] [] (by decide +kernel) rfl rfl rfl rfl rfl ((m_look hX hA hV hC).mono (fun rv M1 q => ?_))
      obtain ⟨rfl, IL, JL, rfl, hL⟩ := q
      show V 191 (28, [some (aR 52), some (aI t), some (aI u), none, none, none], [], MM N IL JL) _
      refine V.blk [(28, .bipush 0, 1), (29, .istore 3, 1)] (ps := []) (z' := (30, [some (aR 52), some (aI t), some (aI u), some (aI 0), none, none], [], MM N IL JL)) (by decide +kernel) rfl trivial ?_
      refine l_mdf0 (N := N) (I := IL) (J := JL) (fun w J9 hj1 hj2 => ?_) 321 0 JL (by omega) (by omega) (fun _ _ => rfl) (fun x hx => by omega)
      have hC2 : CA K L IL J9 := by
        have := hL.ca
        unfold CA at this ⊢
        rw [hj1 83 (by decide)]
        exact this
      refine V.blk [(55, .aload 0, 1), (56, .iload 2, 1)] (ps := []) (z' := (57, [some (aR 52), some (aI t), some (aI u), w, none, none], [aI u, aR 52], MM N IL J9)) (by decide +kernel) rfl trivial ?_
      refine V.cv (c := 171) (na := 2) (o := 10) (a := 52) [aI u] [] (by decide +kernel) rfl rfl rfl rfl rfl ((m_look hX (hL.ra hA) (hL.vok hV) hC2).mono (fun rv M1 q => ?_))
      obtain ⟨rfl, IM, JM, rfl, hM⟩ := q
      show V 191 (60, [some (aR 52), some (aI t), some (aI u), w, none, none], [], MM N IM JM) _
      refine V.blk [(60, .bipush 0, 1), (61, .istore 3, 1), (62, .bipush 0, 1), (63, .istore 4, 2)] (ps := []) (z' := (65, [some (aR 52), some (aI t), some (aI u), some (aI 0), some (aI 0), none], [], MM N IM JM)) (by decide +kernel) rfl trivial ?_
      refine (l_mdf1 (N := N) 321 0 0 _ (by omega) (by omega) rfl).mono (fun rv M2 q => ?_)
      obtain ⟨rfl, rfl⟩ := q
      have hp := hM.po (hL.ra hA) (hL.vok hV)
      have e40 := hL.2.1 40 (by decide) (by decide)
      obtain ⟨p1, p2, p3⟩ := hp
      refine ⟨_, K, IM, JM, rfl, rfl, ⟨fun w => by exfalso; omega, fun _ => ⟨rfl, _, _, hL.2.2.2.2.2.1, hM.2.2.2.2.2.1, congrArg aI (dfB_congr 320 fun s hs => ⟨?_, ?_⟩)⟩⟩, p1, ?_, p3⟩
      · rw [hM.2.2.2.2.1 84 (by decide) (by decide), hj2 s hs, vw_lt hs]
      · rw [vw_lt hs]
      · rw [← e40]
        exact p2
    · skip
      try simp only [b2_cast, b2_ncast, Classical.not_not, lcm_lt, lcm_ge, lcm_gt, lcm_le, lcm_eq, b2_0, b2_n0, Bool.not_eq_false, Bool.not_eq_true, decide_eq_true_eq, decide_eq_false_iff_not] at bh5
      refine V.blk [(16, .aload 0, 1), (17, .bipush (-3), 2)] (ps := []) (z' := (19, [some (aR 52), some (aI t), some (aI u), none, none, none], [aI (-3), aR 52], MM N I J)) (by decide +kernel) rfl trivial ?_
      refine V.cv (c := 116) (na := 2) (o := 10) (a := 52) [aI (-3)] [] (by decide +kernel) rfl rfl rfl rfl rfl ((m_no (by assumption) (by omega)).mono (fun rv M1 q => ?_))
      obtain ⟨rfl, rfl⟩ := q
      show V 191 (22, [some (aR 52), some (aI t), some (aI u), none, none, none], [aI (-3)], MM N ((noU I (-3))) J) _
      refine V.nI (fun I6 eI6 => ?_)
      refine V.ri (by decide +kernel) ?_
      have hn : ¬ (turnP K t ∧ turnP K u) := by unfold turnP; omega
      refine ⟨_, rfU K (-3), noU I (-3), J, rfl, by subst_vars; rfl, ⟨fun _ => ⟨rfl, rfl⟩, fun w => absurd w hn⟩, PO.no hA hV hC (by decide)⟩
