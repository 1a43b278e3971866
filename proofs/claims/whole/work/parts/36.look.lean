/-! ===== the class: scenes ===== -/
def vw (f : Nat → Int64) : SV := fun s => if s < 320 then f s else Int64.ofInt 0
theorem vw_lt {f : Nat → Int64} {s : Nat} (h : s < 320) : vw f s = f s := if_pos h
theorem vw_ma {f : Nat → Int64} {s : Nat} {x : Int64} (h : s < 320) : vw (ma f s x) = ma (vw f) s x := by
  funext r
  unfold vw ma
  by_cases e : r = s
  · subst e; simp [h]
  · simp [e]
theorem tellV_congr {K : MI} {L : MJ} (h : ScP K L) {cp : Nat → Bool} {v w : SV} (e : ∀ s, s < 320 → v s = w s) {s : Nat} (hs : s < 320) : tellV K cp v s = tellV K cp w s :=
  sub.anti (tellV_mono h hs (fun r hr _ => e r hr) (fun r hr _ => by rw [e r hr]; exact sub.refl _)) (tellV_mono h hs (fun r hr _ => (e r hr).symm) (fun r hr _ => by rw [e r hr]; exact sub.refl _))
theorem tellV_vw {K : MI} {L : MJ} (h : ScP K L) {cp : Nat → Bool} {f : Nat → Int64} {s : Nat} (hs : s < 320) : tellV K cp f s = tellV K cp (vw f) s := tellV_congr h (fun r hr => (vw_lt hr).symm) hs
theorem ScP.telP {I : MI} {J : MJ} {cp : Nat → Bool} (h : ScP I J) (h4 : I 10 9 ≤ 400) (hc : CntR I cp) : TelP I J cp := ⟨h.1, h.2.1, h.2.2.1, h.2.2.2.1, ⟨h.2.2.2.2.1, h4⟩, h.2.2.2.2.2.1, h.2.2.2.2.2.2.1, hc⟩
/-! what scenes read -/
def rdC (i : Nat) : Prop := i = 1 ∨ i = 2 ∨ (4 ≤ i ∧ i ≤ 7) ∨ i = 10 ∨ (13 ≤ i ∧ i ≤ 19)
theorem rdC_core {i : Nat} (h : rdC i) : core i = true := by
  have key : ∀ i, i < 20 → (i = 1 ∨ i = 2 ∨ (4 ≤ i ∧ i ≤ 7) ∨ i = 10 ∨ (13 ≤ i ∧ i ≤ 19)) → core i = true := by decide
  unfold rdC at h
  exact key i (by omega) h
section SCC
variable {K K' : MI} (h : ∀ i, rdC i → K' i = K i)
theorem kS_ce (h : ∀ i, rdC i → K' i = K i) : kS K' = kS K := by
  funext s
  unfold kS kn
  rw [h 2 (by unfold rdC; omega)]
theorem plS_ce (h : ∀ i, rdC i → K' i = K i) : plS K' = plS K := by
  funext cp v s T p
  unfold plS MemB ThrB
  rw [h 4 (by unfold rdC; omega), h 5 (by unfold rdC; omega), h 6 (by unfold rdC; omega), h 10 (by unfold rdC; omega), h 13 (by unfold rdC; omega), h 14 (by unfold rdC; omega), h 17 (by unfold rdC; omega), h 18 (by unfold rdC; omega), h 19 (by unfold rdC; omega)]
theorem plV_ce (h : ∀ i, rdC i → K' i = K i) : plV K' = plV K := by
  funext cp v s f
  induction f with
  | zero => rfl
  | succ f ih =>
    funext p
    show plS K' cp v s (plV K' cp v s f) p = plS K cp v s (plV K cp v s f) p
    rw [plS_ce h, ih]
theorem pl_ce (h : ∀ i, rdC i → K' i = K i) : pl K' = pl K := by
  funext cp v s p
  unfold pl
  rw [plV_ce h]
theorem tellV_ce (h : ∀ i, rdC i → K' i = K i) : tellV K' = tellV K := by
  funext cp v s
  unfold tellV
  rw [kS_ce h, pl_ce h, h 7 (by unfold rdC; omega)]
theorem swF_ce (h : ∀ i, rdC i → K' i = K i) : swF K' = swF K := by
  funext cp lev l n v
  induction n with
  | zero => rfl
  | succ n ih =>
    unfold swF
    rw [kS_ce h, tellV_ce h, ih]
theorem swp_ce (h : ∀ i, rdC i → K' i = K i) : swp K' = swp K := by
  funext cp lev l v
  unfold swp
  rw [swF_ce h, h 1 (by unfold rdC; omega)]
theorem itr_ce (h : ∀ i, rdC i → K' i = K i) : itr K' = itr K := by
  funext cp lev l n v
  induction n with
  | zero => rfl
  | succ n ih =>
    unfold itr
    rw [swp_ce h, ih]
theorem Fill_ce (h : ∀ i, rdC i → K' i = K i) : Fill K' = Fill K := by
  funext cp lev l v w
  unfold Fill
  rw [swp_ce h, itr_ce h]
theorem SetsR_ce (h : ∀ i, rdC i → K' i = K i) : SetsR K' = SetsR K := by
  funext cp lev n
  induction n with
  | zero => rfl
  | succ n ih =>
    funext w
    unfold SetsR
    rw [ih, Fill_ce h]
theorem cnB_ce (h : ∀ i, rdC i → K' i = K i) : cnB K' = cnB K := by
  funext t now wo p
  unfold cnB
  rw [h 14 (by unfold rdC; omega), h 15 (by unfold rdC; omega), h 16 (by unfold rdC; omega)]
end SCC
theorem CE.rd {I I' : MI} (h : CE I I') : ∀ i, rdC i → I' i = I i := fun i hi => h.1 i (rdC_core hi)
theorem lv_congr {K K' : MI} {L L' : MJ} (h1 : EJ K' L' = EJ K L) (h2 : ET K' L' = ET K L) : lv K' L' = lv K L := by
  unfold lv
  rw [h1, h2]
def SETS (K : MI) (L : MJ) (cp : Nat → Bool) (v : SV) : Prop := P40 v ∧ ∃ n : Nat, (∀ k, k < 48 → lv K L k < n) ∧ SetsR K cp (lv K L) n v
theorem SETS.uniq {K : MI} {L : MJ} {cp : Nat → Bool} {v w : SV} (hk : kdOK K) (hn : K 1 1 ≤ 40) (h : SETS K L cp v) (g : SETS K L cp w) : v = w := by
  obtain ⟨-, n, h1, h2⟩ := h
  obtain ⟨-, m, g1, g2⟩ := g
  exact h2.same hk hn h1 g1 g2
theorem CntR_congr {I I' : MI} {cp : Nat → Bool} (h : CntR I cp) (h10 : I' 10 = I 10) (h17 : I' 17 = I 17) (h37 : I' 37 = I 37) (h38 : I' 38 = I 38) : CntR I' cp := by
  obtain ⟨a, b⟩ := h
  refine ⟨fun s hs => ?_, fun q hq hc => ?_⟩
  · rw [h38, h10, same_prF h17]; exact a s hs
  · have e : ixF I' cp (I 10 9).toNat q = ixF I cp (I 10 9).toNat q := by
      unfold ixF
      rw [same_cF h17, same_prF h17, h17]
    rw [h37, h10, e]
    rw [h10] at hq
    exact b q hq hc
theorem ex_keep {K : MI} {cp : Nat → Bool} {lev : Nat → Int} {l : Int} {v : SV} {s : Nat} {ro : Bool} (h : ro = true ↔ ∃ r, r < s ∧ swF K cp lev l s v r ≠ v r) (e : lev (kS K s) ≠ l) : swF K cp lev l (s + 1) v = swF K cp lev l s v ∧ (ro = true ↔ ∃ r, r < s + 1 ∧ swF K cp lev l (s + 1) v r ≠ v r) := by
  have e1 : swF K cp lev l (s + 1) v = swF K cp lev l s v := by
    rw [swF, if_neg e]
  refine ⟨e1, ?_⟩
  rw [h, e1]
  constructor
  · intro w
    obtain ⟨r, a, b⟩ := w
    exact ⟨r, by omega, b⟩
  · intro w
    obtain ⟨r, a, b⟩ := w
    by_cases c : r = s
    · exact absurd (swF_out s r (Or.inl (by omega))) b
    · exact ⟨r, by omega, b⟩
theorem ex_put {K : MI} {cp : Nat → Bool} {lev : Nat → Int} {l : Int} {v : SV} {s : Nat} {ro ro' : Bool} (h : ro = true ↔ ∃ r, r < s ∧ swF K cp lev l s v r ≠ v r) (e : lev (kS K s) = l) (hr : ro' = true ↔ ro = true ∨ tellV K cp (swF K cp lev l s v) s ≠ swF K cp lev l s v s) : ro' = true ↔ ∃ r, r < s + 1 ∧ swF K cp lev l (s + 1) v r ≠ v r := by
  have e1 : swF K cp lev l (s + 1) v = ma (swF K cp lev l s v) s (tellV K cp (swF K cp lev l s v) s) := by
    rw [swF, if_pos e]
  have e0 := swF_out (K := K) (cp := cp) (lev := lev) (l := l) (v := v) s s (Or.inl (Nat.le_refl _))
  rw [hr, h, e1]
  constructor
  · intro w
    rcases w with ⟨r, a, b⟩ | w
    · exact ⟨r, by omega, by rw [ma_ne _ _ (show r ≠ s by omega)]; exact b⟩
    · exact ⟨s, by omega, by rw [ma_self]; rw [e0] at w; exact w⟩
  · intro w
    obtain ⟨r, a, b⟩ := w
    by_cases c : r = s
    · subst c
      rw [ma_self] at b
      rw [e0]
      exact Or.inr b
    · rw [ma_ne _ _ c] at b
      exact Or.inl ⟨r, by omega, b⟩
theorem l_grow {N : Nat} {I : MI} {J : MJ} {cp : Nat → Bool} {l : Int} (hS : ScP I J) (h4 : I 10 9 ≤ 400) (hc : CntR I cp) (hv : ∀ k, k < 48 → I 35 k = lv I J k) : ∀ (k s : Nat) (J' : MJ) (ro : Bool) (w4 : Option AV), 322 ≤ k + s → (s : Int) ≤ I 1 1 * 8 → vw (J' 39) = swF I cp (lv I J) l s (vw (J 39)) → (ro = true ↔ ∃ r, r < s ∧ swF I cp (lv I J) l s (vw (J 39)) r ≠ vw (J 39) r) → (∀ i, i ≠ 39 → i ≠ 40 → J' i = J i) → V 52 (4, [some (aR 36), some (aI l), some (aI (b2 ro)), some (aI (s : Int)), w4, none], [], MM N I J') (fun r M' => ∃ ro J', r = some (aI (b2 ro)) ∧ M' = MM N I J' ∧ vw (J' 39) = swp I cp (lv I J) l (vw (J 39)) ∧ (ro = true ↔ swp I cp (lv I J) l (vw (J 39)) ≠ vw (J 39)) ∧ ∀ i, i ≠ 39 → i ≠ 40 → J' i = J i) := by
  intro k
  induction k with
  | zero => intro s J' ro w4 h1 h2; have := hS.2.2.2.1.1; exfalso; omega
  | succ k ih =>
    intro s J' ro w4 h1 h2 hw hro ho
    have h40 := hS.2.2.2.1.1
    have hk := hS.1
    have hT2 : TelP I J' cp := (hS.telP h4 hc).j fun i a b => ho i b a
    refine V.blk [(4, .iload 3, 1), (5, .aload 0, 1), (6, .getfield 7000, 3), (9, .getfield 8001, 3), (12, .bipush 0, 1)] (ps := []) (z' := (13, [some (aR 36), some (aI l), some (aI (b2 ro)), some (aI (s : Int)), w4, none], [aI 0, aI (I 1 1), aI (s : Int)], MM N I J')) (by decide +kernel) rfl trivial ?_
    refine V.cs (c := 108) (na := 2) [aI 0, aI (I 1 1)] [aI (s : Int)] (by decide +kernel) rfl rfl (V.pr (c_X9_spotOf (by omega)) ?_)
    show V 52 (16, [some (aR 36), some (aI l), some (aI (b2 ro)), some (aI (s : Int)), w4, none], [aI ((I 1 1) * 8 + 0), aI (s : Int)], MM N I J') _
    refine V.blk [(16, .if_icmp .ge 82, 3)] (ps := []) (z' := (brc .ge (s : Int) ((I 1 1) * 8 + 0) 82 19, [some (aR 36), some (aI l), some (aI (b2 ro)), some (aI (s : Int)), w4, none], [], MM N I J')) (by decide +kernel) rfl trivial ?_
    refine V.ge (fun bh1 => ?_) (fun bh2 => ?_)
    · skip
      try simp only [b2_cast, b2_ncast, Classical.not_not, lcm_lt, lcm_ge, lcm_gt, lcm_le, lcm_eq, b2_0, b2_n0, b2_e1, b2_e0, Bool.not_eq_false, Bool.not_eq_true, decide_eq_true_eq, decide_eq_false_iff_not, Classical.not_not] at bh1
      refine V.blk [(82, .iload 2, 1)] (ps := []) (z' := (83, [some (aR 36), some (aI l), some (aI (b2 ro)), some (aI (s : Int)), w4, none], [aI (b2 ro)], MM N I J')) (by decide +kernel) rfl trivial ?_
      refine V.rz (by decide +kernel) (by first | exact b2_in _ | omega) ?_
      have e : (I 1 1 * 8).toNat = s := by omega
      refine ⟨ro, J', rfl, rfl, ?_, ?_, ho⟩
      · unfold swp
        rw [e]
        exact hw
      · unfold swp
        rw [e, hro]
        constructor
        · intro w q
          obtain ⟨r, a, b⟩ := w
          rw [q] at b
          exact b rfl
        · intro w
          apply Classical.byContradiction
          intro q
          apply w
          funext r
          by_cases c : r < s
          · exact Classical.byContradiction fun z => q ⟨r, c, z⟩
          · exact swF_out s r (Or.inl (by omega))
    · skip
      try simp only [b2_cast, b2_ncast, Classical.not_not, lcm_lt, lcm_ge, lcm_gt, lcm_le, lcm_eq, b2_0, b2_n0, b2_e1, b2_e0, Bool.not_eq_false, Bool.not_eq_true, decide_eq_true_eq, decide_eq_false_iff_not, Classical.not_not] at bh2
      refine V.blk [(19, .aload 0, 1), (20, .getfield 7003, 3), (23, .getfield 2006, 3), (26, .aload 0, 1), (27, .getfield 7000, 3)] (ps := []) (z' := (30, [some (aR 36), some (aI l), some (aI (b2 ro)), some (aI (s : Int)), w4, none], [aR 1, aR 35], MM N I J')) (by decide +kernel) rfl trivial ?_
      have k1 := kn_in hk (s := (s : Int)) (by omega)
      refine V.blk [(30, .iload 3, 1)] (ps := []) (z' := (31, [some (aR 36), some (aI l), some (aI (b2 ro)), some (aI (s : Int)), w4, none], [aI (s : Int), aR 1, aR 35], MM N I J')) (by decide +kernel) rfl trivial ?_
      refine V.cv (c := 62) (na := 2) (o := 8) (a := 1) [aI (s : Int)] [aR 35] (by decide +kernel) rfl rfl rfl rfl rfl (V.pr (c_X8_knotAt hk (by omega)) ?_)
      show V 52 (34, [some (aR 36), some (aI l), some (aI (b2 ro)), some (aI (s : Int)), w4, none], [aI (kn I (s : Int)), aR 35], MM N I J') _
      refine V.blk [(34, .iaload, 1), (35, .iload 1, 1), (36, .if_icmp .ne 76, 3)] (ps := [0 ≤ (kn I (s : Int)) ∧ (kn I (s : Int)) < 48]) (z' := (brc .ne (I 35 ((kn I (s : Int)).toNat)) l 76 39, [some (aR 36), some (aI l), some (aI (b2 ro)), some (aI (s : Int)), w4, none], [], MM N I J')) (by decide +kernel) rfl (show (0 ≤ (kn I (s : Int)) ∧ (kn I (s : Int)) < 48) from (by omega)) ?_
      refine V.ne (fun bh3 => ?_) (fun bh4 => ?_)
      · skip
        try simp only [b2_cast, b2_ncast, Classical.not_not, lcm_lt, lcm_ge, lcm_gt, lcm_le, lcm_eq, b2_0, b2_n0, b2_e1, b2_e0, Bool.not_eq_false, Bool.not_eq_true, decide_eq_true_eq, decide_eq_false_iff_not, Classical.not_not] at bh3
        refine V.blk [(76, .iinc 3 1, 3), (79, .goto 4, 3)] (ps := [inR ((s : Int) + 1)]) (z' := (4, [some (aR 36), some (aI l), some (aI (b2 ro)), some (aI ((s + 1 : Nat) : Int)), w4, none], [], MM N I J')) (by decide +kernel) rfl (show (inR ((s : Int) + 1)) from (by unfold inR; omega)) ?_
        have hne : lv I J (kS I s) ≠ l := by rw [← hv _ (kS_lt hk (by omega))]; assumption
        obtain ⟨g1, g2⟩ := ex_keep hro hne
        exact ih (s + 1) J' ro _ (by omega) (by omega) (by rw [g1]; exact hw) g2 ho
      · skip
        try simp only [b2_cast, b2_ncast, Classical.not_not, lcm_lt, lcm_ge, lcm_gt, lcm_le, lcm_eq, b2_0, b2_n0, b2_e1, b2_e0, Bool.not_eq_false, Bool.not_eq_true, decide_eq_true_eq, decide_eq_false_iff_not, Classical.not_not] at bh4
        refine V.blk [(39, .aload 0, 1), (40, .iload 3, 1)] (ps := []) (z' := (41, [some (aR 36), some (aI l), some (aI (b2 ro)), some (aI (s : Int)), w4, none], [aI (s : Int), aR 36], MM N I J')) (by decide +kernel) rfl trivial ?_
        refine V.cv (c := 54) (na := 2) (o := 7) (a := 36) [aI (s : Int)] [] (by decide +kernel) rfl rfl rfl rfl rfl ((c_tell (by omega) (by assumption)).mono (fun rv M1 q => ?_))
        obtain ⟨JT5, rfl, rfl, hT5o, hT5t⟩ := q
        show V 52 (44, [some (aR 36), some (aI l), some (aI (b2 ro)), some (aI (s : Int)), w4, none], [aL (tellV I cp (J' 39) s)], MM N I JT5) _
        refine V.blk [(44, .lstore 4, 2), (46, .iload 2, 1), (47, .ifCond .ne 62, 3)] (ps := []) (z' := (brc .ne (b2 ro) 0 62 50, [some (aR 36), some (aI l), some (aI (b2 ro)), some (aI (s : Int)), some (aL (tellV I cp (J' 39) s)), none], [], MM N I JT5)) (by decide +kernel) rfl trivial ?_
        refine V.ne (fun bh6 => ?_) (fun bh7 => ?_)
        · skip
          try simp only [b2_cast, b2_ncast, Classical.not_not, lcm_lt, lcm_ge, lcm_gt, lcm_le, lcm_eq, b2_0, b2_n0, b2_e1, b2_e0, Bool.not_eq_false, Bool.not_eq_true, decide_eq_true_eq, decide_eq_false_iff_not, Classical.not_not] at bh6
          refine V.blk [(62, .bipush 1, 1), (63, .goto 67, 3), (67, .istore 2, 1), (68, .aload 0, 1), (69, .getfield 7006, 3), (72, .iload 3, 1), (73, .lload 4, 2), (75, .lastore, 1), (76, .iinc 3 1, 3), (79, .goto 4, 3)] (ps := [0 ≤ (s : Int) ∧ (s : Int) < 320, inR ((s : Int) + 1)]) (z' := (4, [some (aR 36), some (aI l), some (aI 1), some (aI ((s + 1 : Nat) : Int)), some (aL (tellV I cp (J' 39) s)), none], [], MM N I (ma JT5 39 (ma (JT5 39) s (tellV I cp (J' 39) s))))) (by decide +kernel) rfl (show (0 ≤ (s : Int) ∧ (s : Int) < 320) ∧ (inR ((s : Int) + 1)) from ⟨(by omega), (by unfold inR; omega)⟩) ?_
          refine V.nJ (fun J8 eJ8 => ?_)
          have hne : lv I J (kS I s) = l := by rw [← hv _ (kS_lt hk (by omega))]; assumption
          have et : tellV I cp (J' 39) s = tellV I cp (swF I cp (lv I J) l s (vw (J 39))) s := by rw [tellV_vw hS (by omega), hw]
          have e39 : J' 39 s = swF I cp (lv I J) l s (vw (J 39)) s := by rw [← hw, vw_lt (by omega)]
          have o39 := hT5o 39 (by decide)
          refine ih (s + 1) _ true _ (by omega) (by omega) ?_ (ex_put hro hne ?_) (fun i a b => ?_)
          · subst eJ8
            rw [ma_self, vw_ma (by omega), o39, hw, et, swF, if_pos hne]
          · rw [← et, ← e39]
            rw [o39] at *
            first
            | (simp_all; done)
            | (constructor <;> intro _ <;> simp_all)
          · subst eJ8
            rw [ma_ne _ _ a, hT5o i b]
            exact ho i a b
        · skip
          try simp only [b2_cast, b2_ncast, Classical.not_not, lcm_lt, lcm_ge, lcm_gt, lcm_le, lcm_eq, b2_0, b2_n0, b2_e1, b2_e0, Bool.not_eq_false, Bool.not_eq_true, decide_eq_true_eq, decide_eq_false_iff_not, Classical.not_not] at bh7
          refine V.blk [(50, .lload 4, 2), (52, .aload 0, 1), (53, .getfield 7006, 3), (56, .iload 3, 1), (57, .laload, 1), (58, .lcmp, 1), (59, .ifCond .eq 66, 3)] (ps := [0 ≤ (s : Int) ∧ (s : Int) < 320]) (z' := (brc .eq (lcm (tellV I cp (J' 39) s) (JT5 39 s)) 0 66 62, [some (aR 36), some (aI l), some (aI (b2 ro)), some (aI (s : Int)), some (aL (tellV I cp (J' 39) s)), none], [], MM N I JT5)) (by decide +kernel) rfl (show (0 ≤ (s : Int) ∧ (s : Int) < 320) from (by omega)) ?_
          refine V.eq (fun bh9 => ?_) (fun bh10 => ?_)
          · skip
            try simp only [b2_cast, b2_ncast, Classical.not_not, lcm_lt, lcm_ge, lcm_gt, lcm_le, lcm_eq, b2_0, b2_n0, b2_e1, b2_e0, Bool.not_eq_false, Bool.not_eq_true, decide_eq_true_eq, decide_eq_false_iff_not, Classical.not_not] at bh9
            refine V.blk [(66, .bipush 0, 1), (67, .istore 2, 1), (68, .aload 0, 1), (69, .getfield 7006, 3), (72, .iload 3, 1), (73, .lload 4, 2), (75, .lastore, 1), (76, .iinc 3 1, 3), (79, .goto 4, 3)] (ps := [0 ≤ (s : Int) ∧ (s : Int) < 320, inR ((s : Int) + 1)]) (z' := (4, [some (aR 36), some (aI l), some (aI 0), some (aI ((s + 1 : Nat) : Int)), some (aL (tellV I cp (J' 39) s)), none], [], MM N I (ma JT5 39 (ma (JT5 39) s (tellV I cp (J' 39) s))))) (by decide +kernel) rfl (show (0 ≤ (s : Int) ∧ (s : Int) < 320) ∧ (inR ((s : Int) + 1)) from ⟨(by omega), (by unfold inR; omega)⟩) ?_
            refine V.nJ (fun J11 eJ11 => ?_)
            have hne : lv I J (kS I s) = l := by rw [← hv _ (kS_lt hk (by omega))]; assumption
            have et : tellV I cp (J' 39) s = tellV I cp (swF I cp (lv I J) l s (vw (J 39))) s := by rw [tellV_vw hS (by omega), hw]
            have e39 : J' 39 s = swF I cp (lv I J) l s (vw (J 39)) s := by rw [← hw, vw_lt (by omega)]
            have o39 := hT5o 39 (by decide)
            refine ih (s + 1) _ false _ (by omega) (by omega) ?_ (ex_put hro hne ?_) (fun i a b => ?_)
            · subst eJ11
              rw [ma_self, vw_ma (by omega), o39, hw, et, swF, if_pos hne]
            · rw [← et, ← e39]
              rw [o39] at *
              first
              | (simp_all; done)
              | (constructor <;> intro _ <;> simp_all)
            · subst eJ11
              rw [ma_ne _ _ a, hT5o i b]
              exact ho i a b
          · skip
            try simp only [b2_cast, b2_ncast, Classical.not_not, lcm_lt, lcm_ge, lcm_gt, lcm_le, lcm_eq, b2_0, b2_n0, b2_e1, b2_e0, Bool.not_eq_false, Bool.not_eq_true, decide_eq_true_eq, decide_eq_false_iff_not, Classical.not_not] at bh10
            refine V.blk [(62, .bipush 1, 1), (63, .goto 67, 3), (67, .istore 2, 1), (68, .aload 0, 1), (69, .getfield 7006, 3), (72, .iload 3, 1), (73, .lload 4, 2), (75, .lastore, 1), (76, .iinc 3 1, 3), (79, .goto 4, 3)] (ps := [0 ≤ (s : Int) ∧ (s : Int) < 320, inR ((s : Int) + 1)]) (z' := (4, [some (aR 36), some (aI l), some (aI 1), some (aI ((s + 1 : Nat) : Int)), some (aL (tellV I cp (J' 39) s)), none], [], MM N I (ma JT5 39 (ma (JT5 39) s (tellV I cp (J' 39) s))))) (by decide +kernel) rfl (show (0 ≤ (s : Int) ∧ (s : Int) < 320) ∧ (inR ((s : Int) + 1)) from ⟨(by omega), (by unfold inR; omega)⟩) ?_
            refine V.nJ (fun J12 eJ12 => ?_)
            have hne : lv I J (kS I s) = l := by rw [← hv _ (kS_lt hk (by omega))]; assumption
            have et : tellV I cp (J' 39) s = tellV I cp (swF I cp (lv I J) l s (vw (J 39))) s := by rw [tellV_vw hS (by omega), hw]
            have e39 : J' 39 s = swF I cp (lv I J) l s (vw (J 39)) s := by rw [← hw, vw_lt (by omega)]
            have o39 := hT5o 39 (by decide)
            refine ih (s + 1) _ true _ (by omega) (by omega) ?_ (ex_put hro hne ?_) (fun i a b => ?_)
            · subst eJ12
              rw [ma_self, vw_ma (by omega), o39, hw, et, swF, if_pos hne]
            · rw [← et, ← e39]
              rw [o39] at *
              first
              | (simp_all; done)
              | (constructor <;> intro _ <;> simp_all)
            · subst eJ12
              rw [ma_ne _ _ a, hT5o i b]
              exact ho i a b
theorem c_grow {N : Nat} {I : MI} {J : MJ} {cp : Nat → Bool} {l : Int} (hS : ScP I J) (h4 : I 10 9 ≤ 400) (hc : CntR I cp) (hv : ∀ k, k < 48 → I 35 k = lv I J k) : CT 52 [aR 36, aI l] (MM N I J) (fun r M' => ∃ ro J', r = some (aI (b2 ro)) ∧ M' = MM N I J' ∧ vw (J' 39) = swp I cp (lv I J) l (vw (J 39)) ∧ (ro = true ↔ swp I cp (lv I J) l (vw (J 39)) ≠ vw (J 39)) ∧ ∀ i, i ≠ 39 → i ≠ 40 → J' i = J i) := by
  have h40 := hS.2.2.2.1.1
  refine CT.ofV (n := 6) (ls := [some (aR 36), some (aI l), none, none, none, none]) rfl rfl rfl ?_
  refine V.blk [(0, .bipush 0, 1), (1, .istore 2, 1), (2, .bipush 0, 1), (3, .istore 3, 1)] (ps := []) (z' := (4, [some (aR 36), some (aI l), some (aI 0), some (aI 0), none, none], [], MM N I J)) (by decide +kernel) rfl trivial ?_
  exact l_grow hS h4 hc hv 322 0 J false none (by omega) (by omega) rfl ⟨(fun w => by cases w), (fun w => by obtain ⟨r, a, _⟩ := w; omega)⟩ (fun _ _ _ => rfl)
def FlI (I : MI) (J : MJ) (cp : Nat → Bool) (l : Int) (r : Nat) (gr : Bool) (J' : MJ) : Prop :=
  (∃ k, vw (J' 39) = itr I cp (lv I J) l k (vw (J 39))) ∧ P40 (vw (J' 39)) ∧ (gr = true → Sw I J cp l r (vw (J' 39))) ∧ (gr = false → swp I cp (lv I J) l (vw (J' 39)) = vw (J' 39)) ∧ ∀ i, i ≠ 39 → i ≠ 40 → J' i = J i
theorem FlI.next {I : MI} {J : MJ} {cp : Nat → Bool} {l : Int} {r : Nat} {J' J2 : MJ} {ro : Bool} (hS : ScP I J) (h : FlI I J cp l r true J') (h1 : vw (J2 39) = swp I cp (lv I J) l (vw (J' 39))) (h2 : ro = true ↔ swp I cp (lv I J) l (vw (J' 39)) ≠ vw (J' 39)) (h3 : ∀ i, i ≠ 39 → i ≠ 40 → J2 i = J' i) : FlI I J cp l (r + 1) ro J2 := by
  obtain ⟨⟨k, a⟩, b, c, d, e⟩ := h
  have c := c rfl
  have hn : (I 1 1 * 8).toNat ≤ 320 := by have := hS.2.2.2.1.1; omega
  refine ⟨⟨k + 1, by rw [h1, a]; rfl⟩, by rw [h1]; exact swF_40 hS b _ hn, fun g => ?_, fun g => ?_, fun i x y => (h3 i x y).trans (e i x y)⟩
  · rw [h1]; exact c.step hS (h2.mp g)
  · have : swp I cp (lv I J) l (vw (J' 39)) = vw (J' 39) := by
      apply Classical.byContradiction
      intro w
      have := h2.mpr w
      rw [g] at this
      cases this
    rw [h1, this, this]
theorem FlI.fin {I : MI} {J : MJ} {cp : Nat → Bool} {l : Int} {r : Nat} {J' : MJ} {gr : Bool} (h : FlI I J cp l r gr J') (hb : Bt I J cp l (vw (J 39))) (hg : gr = false ∨ 12800 < r) : Fill I cp (lv I J) l (vw (J 39)) (vw (J' 39)) ∧ Bt I J cp (l + 1) (vw (J' 39)) := by
  obtain ⟨⟨k, a⟩, b, c, d, e⟩ := h
  have hgf : gr = false := by
    rcases hg with hg | hg
    · exact hg
    · cases gr with
      | false => rfl
      | true => have := (c rfl).few; omega
  refine ⟨⟨k, a, d hgf⟩, ?_⟩
  rw [a] at b ⊢
  exact hb.next b
theorem ScP.j {I : MI} {J J' : MJ} (h : ScP I J) (e : ∀ i, i ≠ 39 → i ≠ 40 → J' i = J i) : ScP I J' ∧ lv I J' = lv I J := by
  obtain ⟨h1, h2, h3, h4, h5, h6, h7, h8, h9⟩ := h
  have e8 := e 8 (by decide) (by decide)
  have e9 := e 9 (by decide) (by decide)
  have ee := EJ_congr (I := I) (I' := I) (fun _ _ => rfl) e8 e9
  have el := lv_congr ee.1 ee.2
  refine ⟨⟨h1, h2, h3, h4, h5, h6, svOK_congr h7 rfl rfl rfl e8 e9, ?_, ?_⟩, el⟩
  · rw [ee.1, ee.2, el]; exact h8
  · rw [el]; exact h9
theorem l_fill {N : Nat} {I : MI} {J : MJ} {l : Int} {cp : Nat → Bool} (hS : ScP I J) (h4 : I 10 9 ≤ 400) (hc : CntR I cp) (hv : ∀ k, k < 48 → I 35 k = lv I J k) (hb : Bt I J cp l (vw (J 39))) : ∀ (k r : Nat) (J' : MJ) (gr : Bool), 12802 ≤ k + r → r ≤ 12801 → FlI I J cp l r gr J' → V 51 (4, [some (aR 36), some (aI l), some (aI (b2 gr)), some (aI (r : Int))], [], MM N I J') (fun r M' => r = none ∧ ∃ J', M' = MM N I J' ∧ Fill I cp (lv I J) l (vw (J 39)) (vw (J' 39)) ∧ Bt I J cp (l + 1) (vw (J' 39)) ∧ ∀ i, i ≠ 39 → i ≠ 40 → J' i = J i) := by
  intro k
  induction k with
  | zero => intro r J' gr h1 h2; exfalso; omega
  | succ k ih =>
    intro r J' gr h1 h2 hi
    obtain ⟨hS2, el⟩ := hS.j hi.2.2.2.2
    refine V.blk [(4, .iload 2, 1), (5, .ifCond .eq 27, 3)] (ps := []) (z' := (brc .eq (b2 gr) 0 27 8, [some (aR 36), some (aI l), some (aI (b2 gr)), some (aI (r : Int))], [], MM N I J')) (by decide +kernel) rfl trivial ?_
    refine V.eq (fun bh1 => ?_) (fun bh2 => ?_)
    · skip
      try simp only [b2_cast, b2_ncast, Classical.not_not, lcm_lt, lcm_ge, lcm_gt, lcm_le, lcm_eq, b2_0, b2_n0, b2_e1, b2_e0, Bool.not_eq_false, Bool.not_eq_true, decide_eq_true_eq, decide_eq_false_iff_not, Classical.not_not] at bh1
      refine V.rv (by decide +kernel) ?_
      have f := hi.fin hb (by first | exact Or.inl (by assumption) | exact Or.inr (by omega))
      exact ⟨rfl, J', rfl, f.1, f.2, hi.2.2.2.2⟩
    · skip
      try simp only [b2_cast, b2_ncast, Classical.not_not, lcm_lt, lcm_ge, lcm_gt, lcm_le, lcm_eq, b2_0, b2_n0, b2_e1, b2_e0, Bool.not_eq_false, Bool.not_eq_true, decide_eq_true_eq, decide_eq_false_iff_not, Classical.not_not] at bh2
      have hgr : gr = true := by assumption
      have hi2 : FlI I J cp l r true J' := by rw [← hgr]; exact hi
      refine V.blk [(8, .iload 3, 1), (9, .bipush 12800, 3), (12, .if_icmp .gt 27, 3)] (ps := []) (z' := (brc .gt (r : Int) 12800 27 15, [some (aR 36), some (aI l), some (aI (b2 gr)), some (aI (r : Int))], [], MM N I J')) (by decide +kernel) rfl trivial ?_
      refine V.gt (fun bh3 => ?_) (fun bh4 => ?_)
      · skip
        try simp only [b2_cast, b2_ncast, Classical.not_not, lcm_lt, lcm_ge, lcm_gt, lcm_le, lcm_eq, b2_0, b2_n0, b2_e1, b2_e0, Bool.not_eq_false, Bool.not_eq_true, decide_eq_true_eq, decide_eq_false_iff_not, Classical.not_not] at bh3
        refine V.rv (by decide +kernel) ?_
        have f := hi.fin hb (by first | exact Or.inl (by assumption) | exact Or.inr (by omega))
        exact ⟨rfl, J', rfl, f.1, f.2, hi.2.2.2.2⟩
      · skip
        try simp only [b2_cast, b2_ncast, Classical.not_not, lcm_lt, lcm_ge, lcm_gt, lcm_le, lcm_eq, b2_0, b2_n0, b2_e1, b2_e0, Bool.not_eq_false, Bool.not_eq_true, decide_eq_true_eq, decide_eq_false_iff_not, Classical.not_not] at bh4
        refine V.blk [(15, .aload 0, 1), (16, .iload 1, 1)] (ps := []) (z' := (17, [some (aR 36), some (aI l), some (aI (b2 gr)), some (aI (r : Int))], [aI l, aR 36], MM N I J')) (by decide +kernel) rfl trivial ?_
        refine V.cv (c := 52) (na := 2) (o := 7) (a := 36) [aI l] [] (by decide +kernel) rfl rfl rfl rfl rfl ((c_grow hS2 h4 hc (fun k hk => by rw [el]; exact hv k hk)).mono (fun rv M1 q => ?_))
        obtain ⟨ro, JG, rfl, rfl, g1, g2, g3⟩ := q
        rw [el] at g1 g2
        show V 51 (20, [some (aR 36), some (aI l), some (aI (b2 gr)), some (aI (r : Int))], [aI (b2 ro)], MM N I JG) _
        refine V.blk [(20, .istore 2, 1), (21, .iinc 3 1, 3), (24, .goto 4, 3)] (ps := [inR ((r : Int) + 1)]) (z' := (4, [some (aR 36), some (aI l), some (aI (b2 ro)), some (aI ((r + 1 : Nat) : Int))], [], MM N I JG)) (by decide +kernel) rfl (show (inR ((r : Int) + 1)) from (by unfold inR; omega)) ?_
        exact ih (r + 1) _ ro (by omega) (by omega) (hi2.next hS g1 g2 g3)
theorem c_fillL {N : Nat} {I : MI} {J : MJ} {l : Int} {cp : Nat → Bool} (hS : ScP I J) (h4 : I 10 9 ≤ 400) (hc : CntR I cp) (hv : ∀ k, k < 48 → I 35 k = lv I J k) (hb : Bt I J cp l (vw (J 39))) : CT 51 [aR 36, aI l] (MM N I J) (fun r M' => r = none ∧ ∃ J', M' = MM N I J' ∧ Fill I cp (lv I J) l (vw (J 39)) (vw (J' 39)) ∧ Bt I J cp (l + 1) (vw (J' 39)) ∧ ∀ i, i ≠ 39 → i ≠ 40 → J' i = J i) := by
  refine CT.ofV (n := 4) (ls := [some (aR 36), some (aI l), none, none]) rfl rfl rfl ?_
  refine V.blk [(0, .bipush 1, 1), (1, .istore 2, 1), (2, .bipush 0, 1), (3, .istore 3, 1)] (ps := []) (z' := (4, [some (aR 36), some (aI l), some (aI 1), some (aI 0)], [], MM N I J)) (by decide +kernel) rfl trivial ?_
  exact l_fill hS h4 hc hv hb 12802 0 J true (by omega) (by omega) ⟨⟨0, rfl⟩, hb.1, fun _ => hb.sw, (fun w => by cases w), fun _ _ _ => rfl⟩
def LookR (I : MI) (J : MJ) (cp : Nat → Bool) (I' : MI) (J' : MJ) : Prop :=
  (∀ i, i ≠ 31 → i ≠ 35 → i ≠ 37 → i ≠ 38 → I' i = I i) ∧ (∀ i, i ≠ 32 → i ≠ 33 → i ≠ 34 → i ≠ 39 → i ≠ 40 → J' i = J i) ∧ CntR I' cp ∧ SETS I J cp (vw (J' 39))
theorem LookR.ce {I I' : MI} {J J' : MJ} {cp : Nat → Bool} (h : LookR I J cp I' J') : CE I I' := CE.scr fun i a b c d _ _ _ _ _ => h.1 i a b c d
theorem WX.prOK {I : MI} {J : MJ} (h : WX I J) : prOK I := by
  obtain ⟨a, b, c, -⟩ := h
  refine ⟨⟨a.1, a.2.1⟩, fun q hq => ?_⟩
  obtain ⟨w, -⟩ := c.2.2.2.2.2.1 q hq
  obtain ⟨w1, w2, w3, w4, w5, w6, w7, w8, w9, w10⟩ := w
  have k := club_in a.2.1 w5
  rw [w8, w9, w10]
  refine ⟨by omega, by omega, k, ?_, w6, ?_⟩
  · unfold toldOf
    rcases w5 with w5 | w5 | w5
    · left; rw [if_neg (by omega)]
    · right; rw [if_pos (by omega)]; omega
    · left; rw [if_neg (by omega)]
  · unfold clubOf toldOf
    intro e1 e2
    rcases w5 with w5 | w5 | w5
    · exact w5
    · rw [if_pos (by omega)] at e2; omega
    · rw [if_pos w5.1] at e1; omega
theorem WX.ScP {I : MI} {J : MJ} (h : WX I J) : ScP I J := by
  have hp := h.setP
  have hq := h.prOK
  obtain ⟨a, b, c, d, e, f, g, hs, hr⟩ := h
  have l := lv_ring hr
  exact ⟨hp.2.1, b.rt.2.1, b.rt.1, hq, hp.1.1, b.rt.2.2, hs, l.1, l.2.1⟩
theorem ScP.ce {I I' : MI} {J J' : MJ} (h : ScP I J) (hc : CE I I') (h8 : J' 8 = J 8) (h9 : J' 9 = J 9) : ScP I' J' ∧ lv I' J' = lv I J := by
  obtain ⟨h1, h2, h3, h4, h5, h6, h7, h10, h11⟩ := h
  have ee := EJ_ce hc h8 h9
  have el := lv_congr ee.1 ee.2
  refine ⟨⟨?_, rlOK_ce h2 hc, ?_, ?_, ?_, ?_, svOK_ce h7 hc h8 h9, ?_, ?_⟩, el⟩
  · unfold kdOK; rw [hc.1 2 rfl]; exact h1
  · unfold rtOK; rw [hc.1 4 rfl, hc.1 5 rfl, hc.1 6 rfl]; exact h3
  · unfold prOK; rw [hc.1 1 rfl, hc.1 10 rfl, hc.1 13 rfl, hc.1 14 rfl, hc.1 17 rfl, hc.1 18 rfl, hc.1 19 rfl]; exact h4
  · rw [hc.1 10 rfl]; exact h5
  · rw [hc.1 7 rfl]; exact h6
  · rw [ee.1, ee.2, el]; exact h10
  · rw [el]; exact h11
def LkI (I : MI) (J : MJ) (cp : Nat → Bool) (I2 : MI) (J2 : MJ) (l : Nat) (J' : MJ) : Prop := SetsR I2 cp (lv I2 J2) l (vw (J' 39)) ∧ Bt I2 J2 cp l (vw (J' 39)) ∧ (∀ i, i ≠ 39 → i ≠ 40 → J' i = J2 i)
theorem l_look {N : Nat} {I : MI} {t now wo : Int} {cp : Nat → Bool} {J2 : MJ} (hS : ScP I J2) (h4 : I 10 9 ≤ 400) (hc : CntR I cp) (hv : ∀ k, k < 48 → I 35 k = lv I J2 k) (ht : 0 ≤ I 31 7 ∧ I 31 7 ≤ 3000) (hl : ∀ k, k < 48 → I 35 k ≤ I 31 7) : ∀ (k l : Nat) (J' : MJ), I 31 7 + 2 ≤ k + l → (l : Int) ≤ I 31 7 + 1 → LkI I J2 cp I J2 l J' → V 49 (26, [some (aR 36), some (aI t), some (aI now), some (aI wo), some (aI (l : Int))], [], MM N I J') (fun r M' => r = none ∧ ∃ J', M' = MM N I J' ∧ SETS I J2 cp (vw (J' 39)) ∧ ∀ i, i ≠ 39 → i ≠ 40 → J' i = J2 i) := by
  intro k
  induction k with
  | zero => intro l J' h1 h2; exfalso; omega
  | succ k ih =>
    intro l J' h1 h2 hi
    obtain ⟨hS2, el⟩ := hS.j hi.2.2
    have hbt : Bt I J' cp l (vw (J' 39)) := by
      have := hi.2.1
      unfold Bt at this ⊢
      rw [el]
      exact this
    refine V.blk [(26, .iload 4, 2), (28, .aload 0, 1), (29, .getfield 7003, 3), (32, .getfield 2007, 3), (35, .if_icmp .gt 50, 3)] (ps := []) (z' := (brc .gt (l : Int) (I 31 7) 50 38, [some (aR 36), some (aI t), some (aI now), some (aI wo), some (aI (l : Int))], [], MM N I J')) (by decide +kernel) rfl trivial ?_
    refine V.gt (fun bh1 => ?_) (fun bh2 => ?_)
    · skip
      try simp only [b2_cast, b2_ncast, Classical.not_not, lcm_lt, lcm_ge, lcm_gt, lcm_le, lcm_eq, b2_0, b2_n0, b2_e1, b2_e0, Bool.not_eq_false, Bool.not_eq_true, decide_eq_true_eq, decide_eq_false_iff_not, Classical.not_not] at bh1
      refine V.rv (by decide +kernel) ?_
      refine ⟨rfl, J', rfl, ⟨hi.2.1.1, l, fun k hk => ?_, hi.1⟩, hi.2.2⟩
      rw [← hv k hk]
      have := hl k hk
      omega
    · skip
      try simp only [b2_cast, b2_ncast, Classical.not_not, lcm_lt, lcm_ge, lcm_gt, lcm_le, lcm_eq, b2_0, b2_n0, b2_e1, b2_e0, Bool.not_eq_false, Bool.not_eq_true, decide_eq_true_eq, decide_eq_false_iff_not, Classical.not_not] at bh2
      refine V.blk [(38, .aload 0, 1), (39, .iload 4, 2)] (ps := []) (z' := (41, [some (aR 36), some (aI t), some (aI now), some (aI wo), some (aI (l : Int))], [aI (l : Int), aR 36], MM N I J')) (by decide +kernel) rfl trivial ?_
      refine V.cv (c := 51) (na := 2) (o := 7) (a := 36) [aI (l : Int)] [] (by decide +kernel) rfl rfl rfl rfl rfl ((c_fillL hS2 h4 hc (fun k hk => by rw [el]; exact hv k hk) hbt).mono (fun rv M1 q => ?_))
      obtain ⟨rfl, JF, rfl, g1, g2, g3⟩ := q
      rw [el] at g1
      show V 49 (44, [some (aR 36), some (aI t), some (aI now), some (aI wo), some (aI (l : Int))], [], MM N I JF) _
      refine V.blk [(44, .iinc 4 1, 3), (47, .goto 26, 3)] (ps := [inR ((l : Int) + 1)]) (z' := (26, [some (aR 36), some (aI t), some (aI now), some (aI wo), some (aI ((l + 1 : Nat) : Int))], [], MM N I JF)) (by decide +kernel) rfl (show (inR ((l : Int) + 1)) from (by unfold inR; omega)) ?_
      refine ih (l + 1) _ (by omega) (by omega) ⟨⟨_, hi.1, g1⟩, ?_, fun i a b => (g3 i a b).trans (hi.2.2 i a b)⟩
      unfold Bt at g2 ⊢
      rw [el] at g2
      exact g2
theorem c_look {N : Nat} {I : MI} {J : MJ} {t now wo : Int} (hX : WX I J) : CT 49 [aR 36, aI t, aI now, aI wo] (MM N I J) (fun r M' => r = none ∧ ∃ I' J', M' = MM N I' J' ∧ LookR I J (cnB I t now wo) I' J') := by
  have hP := hX.setP
  refine CT.ofV (n := 5) (ls := [some (aR 36), some (aI t), some (aI now), some (aI wo), none]) rfl rfl rfl ?_
  have h10 := hP.1
  refine V.blk [(0, .aload 0, 1), (1, .iload 1, 1), (2, .iload 2, 1), (3, .iload 3, 1)] (ps := []) (z' := (4, [some (aR 36), some (aI t), some (aI now), some (aI wo), none], [aI wo, aI now, aI t, aR 36], MM N I J)) (by decide +kernel) rfl trivial ?_
  refine V.cv (c := 50) (na := 4) (o := 7) (a := 36) [aI wo, aI now, aI t] [] (by decide +kernel) rfl rfl rfl rfl rfl ((c_sift (m := (I 10 9).toNat) (by omega) (by omega) (fun q hq => by have := hX.prOK.2 q (by omega); have := hX.prOK.1; omega)).mono (fun rv M1 q => ?_))
  obtain ⟨rfl, I1, rfl, hc1, ho1⟩ := q
  show V 49 (7, [some (aR 36), some (aI t), some (aI now), some (aI wo), none], [], MM N I1 J) _
  have hce1 : CE I I1 := CE.scr fun i _ _ a b _ _ _ _ _ => ho1 i a b
  have hS1 : SetP I1 := by
    refine setP_of hP ?_ (ho1 2 (by decide) (by decide)) (ho1 10 (by decide) (by decide)) (ho1 17 (by decide) (by decide)) (ho1 18 (by decide) (by decide))
    have := hX.2.1
    unfold WRu at this ⊢
    rw [ho1 4 (by decide) (by decide), ho1 5 (by decide) (by decide), ho1 6 (by decide) (by decide), ho1 7 (by decide) (by decide)]
    exact this
  refine V.blk [(7, .aload 0, 1), (8, .getfield 7003, 3)] (ps := []) (z' := (11, [some (aR 36), some (aI t), some (aI now), some (aI wo), none], [aR 31], MM N I1 J)) (by decide +kernel) rfl trivial ?_
  refine V.cv (c := 17) (na := 1) (o := 2) (a := 31) [] [] (by decide +kernel) rfl rfl rfl rfl rfl ((c_settleP hS1).mono (fun rv M1 q => ?_))
  obtain ⟨ok, I2, J2, rfl, rfl, hR⟩ := q
  show V 49 (14, [some (aR 36), some (aI t), some (aI now), some (aI wo), none], [aI (b2 ok)], MM N I2 J2) _
  refine V.blk [(14, .pop, 1), (15, .aload 0, 1), (16, .getfield 7006, 3), (19, .jsr_w 0, 1)] (ps := []) (z' := (20, [some (aR 36), some (aI t), some (aI now), some (aI wo), none], [aL (Int64.ofInt 0), aR 39], MM N I2 J2)) (by decide +kernel) rfl trivial ?_
  refine V.cs (c := 198) (na := 2) [aL (Int64.ofInt 0), aR 39] [] (by decide +kernel) rfl rfl ((c_fillJ_39).mono (fun rv M1 q => ?_))
  obtain ⟨rfl, J3, rfl, hFa, hFo⟩ := q
  show V 49 (23, [some (aR 36), some (aI t), some (aI now), some (aI wo), none], [], MM N I2 J3) _
  refine V.blk [(23, .bipush 0, 1), (24, .istore 4, 2)] (ps := []) (z' := (26, [some (aR 36), some (aI t), some (aI now), some (aI wo), some (aI 0)], [], MM N I2 J3)) (by decide +kernel) rfl trivial ?_
  have hok : ok = true := by
    rw [hR.1]
    have hr := hX.2.2.2.2.2.2.2.2
    rw [← ringF_ce hce1 (J := J) (J' := J) rfl rfl] at hr
    exact Classical.not_not.mp hr
  have hce2 : CE I I2 := hce1.trans hR.ce
  have j8 : J2 8 = J 8 := hR.2.2.2.2 8 (by decide) (by decide) (by decide)
  have j9 : J2 9 = J 9 := hR.2.2.2.2 9 (by decide) (by decide) (by decide)
  obtain ⟨hS2, el⟩ := hX.ScP.ce hce2 j8 j9
  have h12 : EJ I2 J2 = EJ I1 J ∧ ET I2 J2 = ET I1 J := EJ_ce hR.ce j8 j9
  obtain ⟨lv1, lv2, lv3⟩ := hR.2.1 hok
  rw [← h12.1, ← h12.2] at lv1
  have hv := lv_eq lv1
  have hc2 : CntR I2 (cnB I t now wo) := CntR_congr hc1 (hR.2.2.1 10 (by decide) (by decide)) (hR.2.2.1 17 (by decide) (by decide)) (hR.2.2.1 37 (by decide) (by decide)) (hR.2.2.1 38 (by decide) (by decide))
  have hz : vw (J3 39) = v0 := by
    funext s
    unfold vw v0
    split
    · rename_i hs
      exact hFa s hs
    · rfl
  have h0 := lv1.2.1 0 (by decide)
  have h01 := lv2 0 (by decide)
  have g := l_look (N := N) (t := t) (now := now) (wo := wo) hS2 (by rw [hce2.1 10 rfl]; omega) hc2 hv (by omega) lv2 ((I2 31 7).toNat + 2) 0 J3 (by omega) (by omega) ⟨hz, by rw [hz]; exact Bt.zero, fun i a _ => hFo i a⟩
  refine g.mono (fun r M' q => ?_)
  obtain ⟨rfl, J4, rfl, q1, q2⟩ := q
  refine ⟨rfl, I2, J4, rfl, fun i a b c d => (hR.2.2.1 i b a).trans (ho1 i c d), fun i a b c d e => (q2 i d e).trans (hR.2.2.2.2 i a b c), hc2, ?_⟩
  obtain ⟨q3, n, q4, q5⟩ := q1
  rw [el] at q4 q5
  rw [SetsR_ce hce2.rd] at q5
  exact ⟨q3, n, q4, q5⟩
