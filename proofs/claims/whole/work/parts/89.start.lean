/-! ===== what stands behind the two constructors; the law from its entry ===== -/
theorem mkX_low {I I' : MI} {J J' : MJ} (h : mkX I J) (e : ∀ i, i < 52 → I' i = I i ∧ J' i = J i) : mkX I' J' := by
  unfold mkX at h ⊢
  rw [(e 4 (by decide)).1, (e 7 (by decide)).1, (e 8 (by decide)).2, (e 9 (by decide)).2, (e 1 (by decide)).1, (e 2 (by decide)).1, (e 10 (by decide)).1, (e 21 (by decide)).1, (e 22 (by decide)).1, (e 0 (by decide)).1, (e 44 (by decide)).1, (e 48 (by decide)).1, (e 51 (by decide)).1]
  exact h
theorem mk_WX {I : MI} {J : MJ} (h : mkX I J) : WX I J := by
  obtain ⟨h4, h7, h8, ⟨h11, h2⟩, ⟨h109, h1011, h1013, h21⟩, ⟨h224, h229⟩, ⟨h011, h013⟩, ⟨h445, h446⟩, h48, h51⟩ := h
  refine ⟨⟨by omega, by omega, fun i _ => ?_⟩, ⟨fun p hp => ?_, fun k hk => ?_⟩, ⟨by omega, by omega, by omega, by omega, ?_, fun p hp => by omega, fun c hc => by omega, h21, ?_, fun t ht => by omega⟩, ⟨by omega, by omega, by omega, by omega, fun a ha => by omega, fun a ha => by omega⟩, ⟨by omega, by omega⟩, ⟨by omega, by omega, Or.inl h446⟩, ⟨by omega, by omega⟩, fun p hp => ⟨fun q => ?_, fun _ => h8 p hp⟩, fun q => q ⟨fun _ => 0, fun n m hn hm => ⟨fun w => ?_, fun w => ?_⟩, fun _ _ => Int.le_refl _⟩⟩
  · rw [h2]
    exact (show (0 : Int) ≤ 0 ∧ (0 : Int) < 6 by decide)
  · have := h4 p hp
    exact ⟨by omega, by omega, fun a => by omega, fun a => by omega, fun a => by omega, fun a => by omega⟩
  · have := h7 k hk
    omega
  · rw [h1011, h109]
    rfl
  · rw [h1013, h1011]
    exact h21
  · have := h4 p hp
    omega
  · obtain ⟨p, hp, -⟩ := w
    have := h7 n hn
    omega
  · obtain ⟨p, hp, -⟩ := w
    have := h7 n hn
    omega
theorem mk_RA {I : MI} {J : MJ} (h : mkX I J) (g : mkM I) : RA I I := by
  obtain ⟨h4, h7, h8, ⟨h11, h2⟩, ⟨h109, h1011, h1013, h21⟩, ⟨h224, h229⟩, ⟨h011, h013⟩, ⟨h445, h446⟩, h48, h51⟩ := h
  obtain ⟨g54, g58, ⟨g1, g13, g17, g18, g19, g29, g30, g31, g37, g40, g41, g43, g56, g61, g64⟩, g77⟩ := g
  refine ⟨⟨by omega, fun i hi => by omega⟩, ⟨fun p hp => ?_, fun k hk => by rw [g58 k hk, h7 k hk]⟩, ⟨by omega, fun p hp => by omega⟩, ⟨by omega, by omega, fun c hc => by omega, fun c t hc => by omega⟩, ⟨by omega, by omega, fun a ha => by omega, fun a ha => by omega⟩, ⟨by omega, by omega, fun k _ => by rw [g77, h51]⟩, ⟨by omega, fun i hi => by omega, ?_, fun q => absurd h446 q⟩, ⟨by omega, fun i hi => by omega⟩⟩
  · have a := h4 p hp
    have b := g54 p hp
    exact ⟨by omega, fun c => by omega, fun c => by omega, fun c => by omega⟩
  · rw [if_pos h446]
    exact g61
theorem mk_INV {I : MI} {J : MJ} (h : mkX I J) (g : mkM I) : INV 0 I J := by
  have hr := mk_RA h g
  have hw := mk_WX h
  obtain ⟨-, -, ⟨g1, g13, g17, g18, g19, g29, g30, g31, g37, g40, g41, g43, g56, g61, g64⟩, -⟩ := g
  obtain ⟨-, -, -, -, -, -, -, -, -, h51⟩ := h
  refine ⟨hw, hr, fun q => by omega, ⟨by omega, by omega, by omega, by omega, g43, g37⟩, fun k _ => ?_⟩
  rw [h51]
  exact (show (0 : Int) ≤ 0 ∧ (0 : Int) ≤ ((0 : Nat) : Int) by decide)
/-- the script alone -/
def scI (xs : Nat → Int32) : MI := fun i k => bif Nat.beq i SCR then (xs k).toInt else 0
theorem okM_start {L : Nat} {xs : Nat → Int32} : okM L xs (MG 0 0 L (scI xs) (fun _ _ => 0)) := by
  refine ⟨Nat.zero_le _, fun i k => ?_, fun i k j hj => ?_, rfl, fun k => ?_⟩
  · show inR (bif Nat.beq i SCR then (xs k).toInt else 0)
    cases Nat.beq i SCR with
    | true => exact i32_rng _
    | false => exact (show inR 0 from ⟨by decide, by decide⟩)
  · have hj : cutR 0 i k = some j := hj
    unfold cutR at hj
    rw [blt_f (Nat.not_lt_zero _)] at hj
    simp only [Bool.and_false, cond_false] at hj
    cases hj
  · show Int32.ofInt (xs k).toInt = xs k
    rw [← Int32.toInt_inj, i32_toInt (i32_rng _)]
theorem okM_nx {N n t : Nat} {xs : Nat → Int32} {I : MI} {J : MJ} (h : okM N xs (MG n t N I J)) (hn : n < 96) : okM N xs (MG (n + 1) t N (ni I n) J) := by
  obtain ⟨a, b, c, d, e⟩ := h
  refine ⟨?_, fun i k => ?_, fun i k j hj => ?_, ?_, fun k => ?_⟩
  · show n + 1 ≤ 100000
    omega
  · show inR (ni I n i k)
    by_cases q : i = n
    · subst q
      unfold ni
      rw [ma_self]
      exact ⟨by decide, by decide⟩
    · rw [ni_ne _ q]
      exact b i k
  · have q : j < n := c i k j hj
    show j < n + 1
    omega
  · show (cutS N (n + 1) SCR).2 = N
    unfold cutS
    rw [blt_f (show ¬ 100000 < n + 1 by omega)]
    rfl
  · show Int32.ofInt (ni I n SCR k) = xs k
    rw [ni_ne _ (show (100000 : Nat) ≠ n by omega)]
    exact e k
theorem law_start {N : Nat} {xs : Nat → Int32} (hN : N ≤ 3072) : CT 0 [aR SCR] (MG 0 0 N (scI xs) (fun _ _ => 0)) (fun r M' => r = some (aI 1) ∧ ∃ I' J', M' = MM N I' J') := by
  have o1 : okM N xs (MG 1 0 N (ni (scI xs) 0) (fun _ _ => 0)) := okM_nx okM_start (by decide)
  refine CT.ofV (n := 4) (ls := [some (aR SCR), none, none, none]) rfl rfl rfl ?_
  refine V.blk [(0, .new 9, 3), (3, .dup, 1)] (ps := []) (z' := (4, [some (aR SCR), none, none, none], [aR 0, aR 0], (1, ma (cutS N 0) 0 (12, 14), ma (cutR 0) 0 (fun _ => none), ni (scI xs) 0, fun _ _ => 0))) (by decide +kernel) rfl trivial ?_
  refine V.mem (mq_new (n := 0) (t := 0) (by decide) rfl (by decide +kernel)) ?_
  show V 0 (4, [some (aR SCR), none, none, none], [aR 0, aR 0], MG 1 0 N (ni (scI xs) 0) (fun _ _ => 0)) _
  refine V.cv (c := 64) (na := 1) (o := 9) (a := 0) [] [aR 0] (by decide +kernel) rfl rfl rfl rfl rfl ((CT.ok k_X9 (okA 0 [] (fun z hz => by cases hz)) o1).mono (fun rv M1 q => ?_))
  obtain ⟨⟨rfl, I1, J1, rfl, hX, -⟩, o2⟩ := q
  have o3 : okM N xs (MG 53 65 N (ni I1 52) J1) := okM_nx o2 (by decide)
  show V 0 (7, [some (aR SCR), none, none, none], [aR 0], MG 52 65 N I1 J1) _
  refine V.blk [(7, .astore 1, 1), (8, .new 10, 3), (11, .dup, 1)] (ps := []) (z' := (12, [some (aR SCR), some (aR 0), none, none], [aR 52, aR 52], (53, ma (cutS N 52) 52 (13, 65), ma (cutR 65) 52 (fun _ => none), ni I1 52, J1))) (by decide +kernel) rfl trivial ?_
  refine V.mem (mq_new (n := 52) (t := 65) (by decide) rfl (by decide +kernel)) ?_
  show V 0 (12, [some (aR SCR), some (aR 0), none, none], [aR 52, aR 52], MG 53 65 N (ni I1 52) J1) _
  refine V.cv (c := 114) (na := 1) (o := 10) (a := 52) [] [aR 52] (by decide +kernel) rfl rfl rfl rfl rfl ((CT.ok (k_X10 (ma_self _ _ _)) (okA 52 [] (fun z hz => by cases hz)) o3).mono (fun rv M1 q => ?_))
  obtain ⟨⟨rfl, I2, J2, rfl, hm, hlow, -⟩, o4⟩ := q
  show V 0 (15, [some (aR SCR), some (aR 0), none, none], [aR 52], MM N I2 J2) _
  refine V.blk [(15, .astore 2, 1), (16, .bipush 0, 1), (17, .istore 3, 1)] (ps := []) (z' := (18, LSx 0, [], MM N I2 J2)) (by decide +kernel) rfl trivial ?_
  refine law_loop hN 513 0 0 I2 J2 rfl rfl (Nat.zero_le _) (mk_INV (mkX_low hX (fun i hi => ⟨?_, (hlow i hi).2⟩)) hm) o4
  exact (hlow i hi).1.trans (ma_ne _ _ (show i ≠ 52 by omega))
