/-! ===== the class: the pairs that count, spot by spot ===== -/
def cnB (I : MI) (t now wo : Int) (p : Nat) : Bool := decide ((p : Int) ≠ wo ∧ ((I 15 p ≤ t ∧ (I 16 p = -1 ∨ t < I 16 p)) ∧ (I 14 p = 0 ∨ now < I 14 p)))
def spB (K : MI) (cp : Nat → Bool) (s p : Nat) : Bool := cp p && decide (K 17 p = (s : Int))
def cF (K : MI) (cp : Nat → Bool) (s n : Nat) : Int := cntF (spB K cp s) n
def prF (K : MI) (cp : Nat → Bool) (m : Nat) : Nat → Int
  | 0 => 0
  | s + 1 => prF K cp m s + cF K cp s m
theorem spB_t {K : MI} {cp : Nat → Bool} {s p : Nat} : spB K cp s p = true ↔ cp p = true ∧ K 17 p = s := by
  unfold spB
  rw [Bool.and_eq_true, decide_eq_true_eq]
theorem cntF_mono {f : Nat → Bool} : ∀ {n m : Nat}, n ≤ m → cntF f n ≤ cntF f m := by
  intro n m h
  obtain ⟨d, rfl⟩ := Nat.le.dest h
  clear h
  induction d with
  | zero => exact Int.le_refl _
  | succ d ih =>
    show _ ≤ cntF f (n + d) + (if f (n + d) = true then 1 else 0)
    split <;> omega
theorem cntF_next {f : Nat → Bool} {n : Nat} : ∀ m, cntF f n < cntF f m → ∃ q, n ≤ q ∧ q < m ∧ f q = true ∧ cntF f q = cntF f n
  | 0, h => by
    have := (cntF_in f n).1
    have h : cntF f n < 0 := h
    omega
  | m + 1, h => by
    by_cases e : cntF f n < cntF f m
    · obtain ⟨q, a, b, c⟩ := cntF_next m e
      exact ⟨q, a, by omega, c⟩
    · by_cases e2 : m < n
      · have := cntF_mono (f := f) (show m + 1 ≤ n by omega)
        omega
      · have h1 := cntF_mono (f := f) (show n ≤ m by omega)
        rw [cntF] at h
        split at h
        · rename_i hf
          exact ⟨m, by omega, by omega, hf, by omega⟩
        · omega
theorem cntF_none {f : Nat → Bool} {n m : Nat} (h : cntF f m ≤ cntF f n) : ∀ q, n ≤ q → q < m → f q = false := by
  intro q h1 h2
  cases hf : f q with
  | false => rfl
  | true =>
    have a := cntF_mono (f := f) h1
    have b := cntF_mono (f := f) (show q + 1 ≤ m by omega)
    rw [cntF_t hf] at b
    omega
theorem prF_mono {K : MI} {cp : Nat → Bool} {m : Nat} : ∀ {s r : Nat}, s ≤ r → prF K cp m s ≤ prF K cp m r := by
  intro s r h
  obtain ⟨d, rfl⟩ := Nat.le.dest h
  clear h
  induction d with
  | zero => exact Int.le_refl _
  | succ d ih =>
    have : 0 ≤ cF K cp (s + d) m := (cntF_in _ m).1
    show _ ≤ prF K cp m (s + d) + cF K cp (s + d) m
    omega
theorem prF_0 {K : MI} {cp : Nat → Bool} : ∀ s, prF K cp 0 s = 0
  | 0 => rfl
  | s + 1 => by
    show prF K cp 0 s + 0 = 0
    rw [prF_0 s]
    rfl
theorem prF_s {K : MI} {cp : Nat → Bool} {m : Nat} : ∀ s, prF K cp (m + 1) s = prF K cp m s + (if cp m = true ∧ 0 ≤ K 17 m ∧ K 17 m < (s : Int) then 1 else 0)
  | 0 => by
    rw [if_neg (by omega)]
    rfl
  | s + 1 => by
    show prF K cp (m + 1) s + cF K cp s (m + 1) = prF K cp m s + cF K cp s m + _
    rw [prF_s s]
    unfold cF
    by_cases e : spB K cp s m = true
    · rw [cntF_t e]
      obtain ⟨e1, e2⟩ := spB_t.mp e
      rw [if_neg (by omega), if_pos (by refine ⟨e1, by omega, by push_cast; omega⟩)]
      omega
    · rw [cntF_f (by simpa using e)]
      have e0 : ¬ (cp m = true ∧ K 17 m = (s : Int)) := fun w => e (spB_t.mpr w)
      by_cases e3 : cp m = true
      · have : K 17 m ≠ (s : Int) := fun w => e0 ⟨e3, w⟩
        by_cases e4 : 0 ≤ K 17 m ∧ K 17 m < (s : Int)
        · rw [if_pos ⟨e3, e4⟩, if_pos (by refine ⟨e3, by omega, by push_cast; omega⟩)]
          omega
        · rw [if_neg (fun w => e4 w.2), if_neg (fun w => by have := w.2; push_cast at this; omega)]
          omega
      · rw [if_neg (fun w => e3 w.1), if_neg (fun w => e3 w.1)]
        omega
theorem prF_le {K : MI} {cp : Nat → Bool} {s : Nat} : ∀ m : Nat, prF K cp m s ≤ m
  | 0 => by rw [prF_0]; exact Int.le_refl _
  | m + 1 => by
    have := prF_le (K := K) (cp := cp) (s := s) m
    rw [prF_s]
    push_cast
    split <;> omega
theorem prF_nn {K : MI} {cp : Nat → Bool} {m s : Nat} : 0 ≤ prF K cp m s := prF_mono (Nat.zero_le s)
theorem cF_le {K : MI} {cp : Nat → Bool} {s n m : Nat} (h : n ≤ m) : 0 ≤ cF K cp s n ∧ cF K cp s n ≤ cF K cp s m := ⟨(cntF_in _ n).1, cntF_mono h⟩
/-- where pair q lies among those that count -/
def ixF (K : MI) (cp : Nat → Bool) (m q : Nat) : Nat := (prF K cp m (K 17 q).toNat + cF K cp (K 17 q).toNat q).toNat
theorem ix_in {K : MI} {cp : Nat → Bool} {m q : Nat} (hq : q < m) (hc : cp q = true) (h0 : 0 ≤ K 17 q) : prF K cp m (K 17 q).toNat ≤ ixF K cp m q ∧ (ixF K cp m q : Int) = prF K cp m (K 17 q).toNat + cF K cp (K 17 q).toNat q ∧ (ixF K cp m q : Int) < prF K cp m ((K 17 q).toNat + 1) := by
  have a := prF_nn (K := K) (cp := cp) (m := m) (s := (K 17 q).toNat)
  have b := cF_le (K := K) (cp := cp) (s := (K 17 q).toNat) (show q ≤ q + 1 by omega)
  have c := cF_le (K := K) (cp := cp) (s := (K 17 q).toNat) (show q + 1 ≤ m by omega)
  have e : cF K cp (K 17 q).toNat (q + 1) = cF K cp (K 17 q).toNat q + 1 := cntF_t (spB_t.mpr ⟨hc, by omega⟩)
  have d : prF K cp m ((K 17 q).toNat + 1) = prF K cp m (K 17 q).toNat + cF K cp (K 17 q).toNat m := rfl
  unfold ixF
  omega
theorem ix_inj {K : MI} {cp : Nat → Bool} {m q r : Nat} (hq : q < r) (hr : r < m) (hc : cp q = true) (hd : cp r = true) (h0 : 0 ≤ K 17 q) (h1 : 0 ≤ K 17 r) : ixF K cp m q ≠ ixF K cp m r := by
  have a := ix_in (show q < m by omega) hc h0
  have b := ix_in hr hd h1
  intro e
  rcases Nat.lt_trichotomy (K 17 q).toNat (K 17 r).toNat with w | w | w
  · have := prF_mono (K := K) (cp := cp) (m := m) (show (K 17 q).toNat + 1 ≤ (K 17 r).toNat by omega)
    omega
  · have c := cF_le (K := K) (cp := cp) (s := (K 17 q).toNat) (show q + 1 ≤ r by omega)
    have e1 : cF K cp (K 17 q).toNat (q + 1) = cF K cp (K 17 q).toNat q + 1 := cntF_t (spB_t.mpr ⟨hc, by omega⟩)
    rw [← w] at b
    omega
  · have := prF_mono (K := K) (cp := cp) (m := m) (show (K 17 r).toNat + 1 ≤ (K 17 q).toNat by omega)
    omega
/-- the class's lists of the pairs that count -/
def CntR (I : MI) (cp : Nat → Bool) : Prop := (∀ s, s < 321 → I 38 s = prF I cp (I 10 9).toNat s) ∧ ∀ q : Nat, (q : Int) < I 10 9 → cp q = true → I 37 (ixF I cp (I 10 9).toNat q) = q
theorem c_X3_countsAt {N : Nat} {I : MI} {J : MJ} {p : Nat} {t now : Int} (hp : p < 400) : CT 26 [aR 10, aI (p : Int), aI t, aI now] (MM N I J) (pure1 N I J (aI (b2 (decide ((I 15 p ≤ t ∧ (I 16 p = -1 ∨ t < I 16 p)) ∧ (I 14 p = 0 ∨ now < I 14 p)))))) := by
  refine CT.ofV (n := 4) (ls := [some (aR 10), some (aI (p : Int)), some (aI t), some (aI now)]) rfl rfl rfl ?_
  refine V.blk [(0, .aload 0, 1), (1, .iload 1, 1), (2, .iload 2, 1)] (ps := []) (z' := (3, [some (aR 10), some (aI (p : Int)), some (aI t), some (aI now)], [aI t, aI (p : Int), aR 10], MM N I J)) (by decide +kernel) rfl trivial ?_
  refine V.cv (c := 25) (na := 3) (o := 3) (a := 10) [aI t, aI (p : Int)] [] (by decide +kernel) rfl rfl rfl rfl rfl (V.pr (c_X3_inForceAt (by omega)) ?_)
  show V 26 (6, [some (aR 10), some (aI (p : Int)), some (aI t), some (aI now)], [aI (b2 (decide (I 15 p ≤ t ∧ (I 16 p = -1 ∨ t < I 16 p))))], MM N I J) _
  refine V.blk [(6, .ifCond .eq 32, 3)] (ps := []) (z' := (brc .eq (b2 (decide (I 15 p ≤ t ∧ (I 16 p = -1 ∨ t < I 16 p)))) 0 32 9, [some (aR 10), some (aI (p : Int)), some (aI t), some (aI now)], [], MM N I J)) (by decide +kernel) rfl trivial ?_
  refine V.eq (fun h1 => ?_) (fun h2 => ?_)
  · skip
    try simp only [b2_cast, b2_ncast, Classical.not_not, lcm_lt, lcm_ge, lcm_gt, lcm_le, lcm_eq] at h1
    refine V.blk [(32, .bipush 0, 1)] (ps := []) (z' := (33, [some (aR 10), some (aI (p : Int)), some (aI t), some (aI now)], [aI 0], MM N I J)) (by decide +kernel) rfl trivial ?_
    refine V.rz (by decide +kernel) (by first | exact b2_in _ | omega) ?_
    refine ⟨congrArg (fun w => some (aI w)) ?_, rfl⟩
    first | exact b2_td (by omega) | exact b2_fd (by omega)
  · skip
    try simp only [b2_cast, b2_ncast, Classical.not_not, lcm_lt, lcm_ge, lcm_gt, lcm_le, lcm_eq] at h2
    refine V.blk [(9, .aload 0, 1), (10, .getfield 3003, 3), (13, .iload 1, 1), (14, .iaload, 1), (15, .ifCond .eq 28, 3)] (ps := [0 ≤ (p : Int) ∧ (p : Int) < 400]) (z' := (brc .eq (I 14 p) 0 28 18, [some (aR 10), some (aI (p : Int)), some (aI t), some (aI now)], [], MM N I J)) (by decide +kernel) rfl (show (0 ≤ (p : Int) ∧ (p : Int) < 400) from (by omega)) ?_
    refine V.eq (fun h3 => ?_) (fun h4 => ?_)
    · skip
      try simp only [b2_cast, b2_ncast, Classical.not_not, lcm_lt, lcm_ge, lcm_gt, lcm_le, lcm_eq] at h3
      refine V.blk [(28, .bipush 1, 1), (29, .goto 33, 3)] (ps := []) (z' := (33, [some (aR 10), some (aI (p : Int)), some (aI t), some (aI now)], [aI 1], MM N I J)) (by decide +kernel) rfl trivial ?_
      refine V.rz (by decide +kernel) (by first | exact b2_in _ | omega) ?_
      refine ⟨congrArg (fun w => some (aI w)) ?_, rfl⟩
      first | exact b2_td (by omega) | exact b2_fd (by omega)
    · skip
      try simp only [b2_cast, b2_ncast, Classical.not_not, lcm_lt, lcm_ge, lcm_gt, lcm_le, lcm_eq] at h4
      refine V.blk [(18, .aload 0, 1), (19, .getfield 3003, 3), (22, .iload 1, 1), (23, .iaload, 1), (24, .iload 3, 1), (25, .if_icmp .le 32, 3)] (ps := [0 ≤ (p : Int) ∧ (p : Int) < 400]) (z' := (brc .le (I 14 p) now 32 28, [some (aR 10), some (aI (p : Int)), some (aI t), some (aI now)], [], MM N I J)) (by decide +kernel) rfl (show (0 ≤ (p : Int) ∧ (p : Int) < 400) from (by omega)) ?_
      refine V.le (fun h5 => ?_) (fun h6 => ?_)
      · skip
        try simp only [b2_cast, b2_ncast, Classical.not_not, lcm_lt, lcm_ge, lcm_gt, lcm_le, lcm_eq] at h5
        refine V.blk [(32, .bipush 0, 1)] (ps := []) (z' := (33, [some (aR 10), some (aI (p : Int)), some (aI t), some (aI now)], [aI 0], MM N I J)) (by decide +kernel) rfl trivial ?_
        refine V.rz (by decide +kernel) (by first | exact b2_in _ | omega) ?_
        refine ⟨congrArg (fun w => some (aI w)) ?_, rfl⟩
        first | exact b2_td (by omega) | exact b2_fd (by omega)
      · skip
        try simp only [b2_cast, b2_ncast, Classical.not_not, lcm_lt, lcm_ge, lcm_gt, lcm_le, lcm_eq] at h6
        refine V.blk [(28, .bipush 1, 1), (29, .goto 33, 3)] (ps := []) (z' := (33, [some (aR 10), some (aI (p : Int)), some (aI t), some (aI now)], [aI 1], MM N I J)) (by decide +kernel) rfl trivial ?_
        refine V.rz (by decide +kernel) (by first | exact b2_in _ | omega) ?_
        refine ⟨congrArg (fun w => some (aI w)) ?_, rfl⟩
        first | exact b2_td (by omega) | exact b2_fd (by omega)
theorem cn_t {I : MI} {t now wo : Int} {p : Nat} (h1 : ¬ (p : Int) = wo) (h2 : (I 15 p ≤ t ∧ (I 16 p = -1 ∨ t < I 16 p)) ∧ (I 14 p = 0 ∨ now < I 14 p)) : cnB I t now wo p = true := decide_eq_true ⟨h1, h2⟩
theorem cn_f {I : MI} {t now wo : Int} {p : Nat} (h2 : ¬ ((p : Int) ≠ wo ∧ ((I 15 p ≤ t ∧ (I 16 p = -1 ∨ t < I 16 p)) ∧ (I 14 p = 0 ∨ now < I 14 p)))) : cnB I t now wo p = false := decide_eq_false h2
theorem cF_skip {K : MI} {cp : Nat → Bool} {s p : Nat} (h : cp p = false) : cF K cp s (p + 1) = cF K cp s p := cntF_f (by unfold spB; rw [h]; rfl)
theorem cF_put {K : MI} {cp : Nat → Bool} {s p : Nat} (h : cp p = true) : cF K cp s (p + 1) = cF K cp s p + (if K 17 p = (s : Int) then 1 else 0) := by
  show cntF (spB K cp s) p + (if spB K cp s p = true then 1 else 0) = cntF (spB K cp s) p + _
  by_cases e : K 17 p = (s : Int)
  · rw [if_pos (spB_t.mpr ⟨h, e⟩), if_pos e]
  · rw [if_neg (fun w => e (spB_t.mp w).2), if_neg e]
theorem same_cF {I I' : MI} {cp : Nat → Bool} (h : I' 17 = I 17) : cF I' cp = cF I cp := by
  funext s n
  unfold cF
  congr 1
  funext p
  unfold spB
  rw [h]
theorem same_prF {I I' : MI} {cp : Nat → Bool} (h : I' 17 = I 17) : prF I' cp = prF I cp := by
  funext m s
  induction s with
  | zero => rfl
  | succ s ih => show prF I' cp m s + cF I' cp s m = prF I cp m s + cF I cp s m; rw [ih, same_cF h]
theorem sift_done {I : MI} {t now wo : Int} {m : Nat} (hm : I 10 9 = m) (h4 : m ≤ 400) (hs : ∀ q, q < m → 0 ≤ I 17 q ∧ I 17 q < 320) {I' : MI} (h17 : I' 17 = I 17) (h10 : I' 10 = I 10) (hf : ∀ s, s < 321 → I' 38 s = prF I (cnB I t now wo) m s + cF I (cnB I t now wo) s 0) (hc : ∀ q, q < m → cnB I t now wo q = true → I' 37 (ixF I (cnB I t now wo) m q) = q) : CntR I' (cnB I t now wo) := by
  have em : (I' 10 9).toNat = m := by rw [h10, hm]; rfl
  refine ⟨fun s hs => ?_, fun q hq hcq => ?_⟩
  · rw [em, same_prF h17, hf s hs]
    show _ + (0 : Int) = _
    omega
  · have e : ixF I' (cnB I t now wo) m q = ixF I (cnB I t now wo) m q := by
      unfold ixF
      rw [same_cF h17, same_prF h17, h17]
    rw [em, e]
    exact hc q (by rw [h10, hm] at hq; omega) hcq
theorem l_sift3 {N : Nat} {I : MI} {J : MJ} {t now wo : Int} {m : Nat} (hm : I 10 9 = m) (h4 : m ≤ 400) (hs : ∀ q, q < m → 0 ≤ I 17 q ∧ I 17 q < 320) : ∀ (n : Nat) (I' : MI) (w : Option AV), n ≤ m → (∀ s, s < 321 → I' 38 s = prF I (cnB I t now wo) m s + cF I (cnB I t now wo) s n) → (∀ q, n ≤ q → q < m → cnB I t now wo q = true → I' 37 (ixF I (cnB I t now wo) m q) = q) → (∀ i, i ≠ 37 → i ≠ 38 → I' i = I i) → V 50 (115, [some (aR 36), some (aI t), some (aI now), some (aI wo), some (aI ((n : Int) - 1)), w], [], MM N I' J) (fun r M' => r = none ∧ ∃ I', M' = MM N I' J ∧ CntR I' (cnB I t now wo) ∧ ∀ i, i ≠ 37 → i ≠ 38 → I' i = I i) := by
  intro n
  induction n with
  | zero =>
    intro I' w h1 hf hc ho
    show V 50 (115, [some (aR 36), some (aI t), some (aI now), some (aI wo), some (aI (-1)), w], [], MM N I' J) (fun r M' => r = none ∧ ∃ I', M' = MM N I' J ∧ CntR I' (cnB I t now wo) ∧ ∀ i, i ≠ 37 → i ≠ 38 → I' i = I i)
    refine V.blk [(115, .iload 4, 2), (117, .ifCond .lt 183, 3)] (ps := []) (z' := (brc .lt (-1) 0 183 120, [some (aR 36), some (aI t), some (aI now), some (aI wo), some (aI (-1)), w], [], MM N I' J)) (by decide +kernel) rfl trivial ?_
    refine V.lt (fun _ => ?_) (fun hz => absurd hz (by decide))
    refine V.rv (by decide +kernel) ?_
    exact ⟨rfl, I', rfl, sift_done hm h4 hs (ho 17 (by decide) (by decide)) (ho 10 (by decide) (by decide)) hf (fun q hq => hc q (by omega) hq), ho⟩
  | succ n ih =>
    intro I' w h1 hf hc ho
    have e17 : I' 17 = I 17 := ho 17 (by decide) (by decide)
    have e14 : I' 14 = I 14 := ho 14 (by decide) (by decide)
    have e15 : I' 15 = I 15 := ho 15 (by decide) (by decide)
    have e16 : I' 16 = I 16 := ho 16 (by decide) (by decide)
    have hsn := hs n (by omega)
    rw [show ((n + 1 : Nat) : Int) - 1 = (n : Int) by omega]
    have skip : ∀ (hcp : cnB I t now wo n = false) (w : Option AV), V 50 (115, [some (aR 36), some (aI t), some (aI now), some (aI wo), some (aI ((n : Int) + (-1))), w], [], MM N I' J) (fun r M' => r = none ∧ ∃ I', M' = MM N I' J ∧ CntR I' (cnB I t now wo) ∧ ∀ i, i ≠ 37 → i ≠ 38 → I' i = I i) := by
      intro hcp w
      refine ih I' w (by omega) (fun s hs => ?_) (fun q hq hqm hqc => ?_) ho
      · rw [hf s hs, cF_skip hcp]
      · by_cases e : q = n
        · subst e; rw [hcp] at hqc; cases hqc
        · exact hc q (by omega) hqm hqc
    refine V.blk [(115, .iload 4, 2), (117, .ifCond .lt 183, 3)] (ps := []) (z' := (brc .lt (n : Int) 0 183 120, [some (aR 36), some (aI t), some (aI now), some (aI wo), some (aI (n : Int)), w], [], MM N I' J)) (by decide +kernel) rfl trivial ?_
    refine V.lt (fun h1 => ?_) (fun h2 => ?_)
    · skip
      try simp only [b2_cast, b2_ncast, Classical.not_not, lcm_lt, lcm_ge, lcm_gt, lcm_le, lcm_eq] at h1
      refine V.rv (by decide +kernel) ?_
      exfalso; omega
    · skip
      try simp only [b2_cast, b2_ncast, Classical.not_not, lcm_lt, lcm_ge, lcm_gt, lcm_le, lcm_eq] at h2
      refine V.blk [(120, .iload 4, 2), (122, .iload 3, 1), (123, .if_icmp .eq 177, 3)] (ps := []) (z' := (brc .eq (n : Int) wo 177 126, [some (aR 36), some (aI t), some (aI now), some (aI wo), some (aI (n : Int)), w], [], MM N I' J)) (by decide +kernel) rfl trivial ?_
      refine V.eq (fun h3 => ?_) (fun h4 => ?_)
      · skip
        try simp only [b2_cast, b2_ncast, Classical.not_not, lcm_lt, lcm_ge, lcm_gt, lcm_le, lcm_eq] at h3
        refine V.blk [(177, .iinc 4 (-1), 3), (180, .goto 115, 3)] (ps := [inR ((n : Int) + (-1))]) (z' := (115, [some (aR 36), some (aI t), some (aI now), some (aI wo), some (aI ((n : Int) + (-1))), w], [], MM N I' J)) (by decide +kernel) rfl (show (inR ((n : Int) + (-1))) from (by unfold inR; first | omega | (simp only [ma_self, ma_ne _ _ (show (17 : Nat) ≠ 38 by decide)]; omega) | (rw [ma_self, ma_ne _ _ (show (17 : Nat) ≠ 38 by decide), ma_self]; omega))) ?_
        first
        | (refine skip (cn_f ?_) _; rw [e14, e15, e16] at *; omega)
        | (refine skip (cn_f ?_) _; omega)
      · skip
        try simp only [b2_cast, b2_ncast, Classical.not_not, lcm_lt, lcm_ge, lcm_gt, lcm_le, lcm_eq] at h4
        refine V.blk [(126, .aload 0, 1), (127, .getfield 7002, 3), (130, .iload 4, 2), (132, .iload 1, 1), (133, .iload 2, 1)] (ps := []) (z' := (134, [some (aR 36), some (aI t), some (aI now), some (aI wo), some (aI (n : Int)), w], [aI now, aI t, aI (n : Int), aR 10], MM N I' J)) (by decide +kernel) rfl trivial ?_
        refine V.cv (c := 26) (na := 4) (o := 3) (a := 10) [aI now, aI t, aI (n : Int)] [] (by decide +kernel) rfl rfl rfl rfl rfl (V.pr (c_X3_countsAt (by omega)) ?_)
        show V 50 (137, [some (aR 36), some (aI t), some (aI now), some (aI wo), some (aI (n : Int)), w], [aI (b2 (decide ((I' 15 n ≤ t ∧ (I' 16 n = -1 ∨ t < I' 16 n)) ∧ (I' 14 n = 0 ∨ now < I' 14 n))))], MM N I' J) _
        refine V.blk [(137, .ifCond .eq 177, 3)] (ps := []) (z' := (brc .eq (b2 (decide ((I' 15 n ≤ t ∧ (I' 16 n = -1 ∨ t < I' 16 n)) ∧ (I' 14 n = 0 ∨ now < I' 14 n)))) 0 177 140, [some (aR 36), some (aI t), some (aI now), some (aI wo), some (aI (n : Int)), w], [], MM N I' J)) (by decide +kernel) rfl trivial ?_
        refine V.eq (fun h5 => ?_) (fun h6 => ?_)
        · skip
          try simp only [b2_cast, b2_ncast, Classical.not_not, lcm_lt, lcm_ge, lcm_gt, lcm_le, lcm_eq] at h5
          refine V.blk [(177, .iinc 4 (-1), 3), (180, .goto 115, 3)] (ps := [inR ((n : Int) + (-1))]) (z' := (115, [some (aR 36), some (aI t), some (aI now), some (aI wo), some (aI ((n : Int) + (-1))), w], [], MM N I' J)) (by decide +kernel) rfl (show (inR ((n : Int) + (-1))) from (by unfold inR; first | omega | (simp only [ma_self, ma_ne _ _ (show (17 : Nat) ≠ 38 by decide)]; omega) | (rw [ma_self, ma_ne _ _ (show (17 : Nat) ≠ 38 by decide), ma_self]; omega))) ?_
          first
          | (refine skip (cn_f ?_) _; rw [e14, e15, e16] at *; omega)
          | (refine skip (cn_f ?_) _; omega)
        · skip
          try simp only [b2_cast, b2_ncast, Classical.not_not, lcm_lt, lcm_ge, lcm_gt, lcm_le, lcm_eq] at h6
          have b0 := hf (I 17 n).toNat (by omega)
          have b1 := cF_le (K := I) (cp := cnB I t now wo) (s := (I 17 n).toNat) (show n + 1 ≤ m by omega)
          have b2 := prF_mono (K := I) (cp := cnB I t now wo) (m := m) (show (I 17 n).toNat + 1 ≤ 320 by omega)
          have b3 := prF_le (K := I) (cp := cnB I t now wo) (s := 320) m
          have b4 := prF_nn (K := I) (cp := cnB I t now wo) (m := m) (s := (I 17 n).toNat)
          have b5 : prF I (cnB I t now wo) m ((I 17 n).toNat + 1) = prF I (cnB I t now wo) m (I 17 n).toNat + cF I (cnB I t now wo) (I 17 n).toNat m := rfl
          have b6 : cF I (cnB I t now wo) (I 17 n).toNat (n + 1) = cF I (cnB I t now wo) (I 17 n).toNat n + 1 := by
            rw [cF_put (by rw [e14, e15, e16] at *; exact cn_t (by assumption) (by assumption)), if_pos (by omega)]
          have b7 := (cF_le (K := I) (cp := cnB I t now wo) (s := (I 17 n).toNat) (show n ≤ m by omega)).1
          have hsn0 := hsn
          rw [← e17] at b0 b1 b2 b4 b5 b6 b7 hsn
          refine V.blk [(140, .aload 0, 1), (141, .getfield 7002, 3), (144, .getfield 3006, 3), (147, .iload 4, 2), (149, .iaload, 1), (150, .istore 5, 2), (152, .aload 0, 1), (153, .getfield 7005, 3), (156, .iload 5, 2), (158, .dup2, 1), (159, .iaload, 1), (160, .bipush 1, 1), (161, .isub, 1), (162, .iastore, 1), (163, .aload 0, 1), (164, .getfield 7004, 3), (167, .aload 0, 1), (168, .getfield 7005, 3), (171, .iload 5, 2), (173, .iaload, 1), (174, .iload 4, 2), (176, .iastore, 1), (177, .iinc 4 (-1), 3), (180, .goto 115, 3)] (ps := [0 ≤ (n : Int) ∧ (n : Int) < 400, 0 ≤ (I' 17 n) ∧ (I' 17 n) < 321, inR ((I' 38 ((I' 17 n).toNat)) - 1), 0 ≤ (I' 17 n) ∧ (I' 17 n) < 321, 0 ≤ (I' 17 n) ∧ (I' 17 n) < 321, 0 ≤ ((ma I' 38 (ma (I' 38) ((I' 17 n).toNat) ((I' 38 ((I' 17 n).toNat)) - 1))) 38 ((I' 17 n).toNat)) ∧ ((ma I' 38 (ma (I' 38) ((I' 17 n).toNat) ((I' 38 ((I' 17 n).toNat)) - 1))) 38 ((I' 17 n).toNat)) < 400, inR ((n : Int) + (-1))]) (z' := (115, [some (aR 36), some (aI t), some (aI now), some (aI wo), some (aI ((n : Int) + (-1))), some (aI (I' 17 n))], [], MM N (ma (ma I' 38 (ma (I' 38) ((I' 17 n).toNat) ((I' 38 ((I' 17 n).toNat)) - 1))) 37 (ma ((ma I' 38 (ma (I' 38) ((I' 17 n).toNat) ((I' 38 ((I' 17 n).toNat)) - 1))) 37) (((ma I' 38 (ma (I' 38) ((I' 17 n).toNat) ((I' 38 ((I' 17 n).toNat)) - 1))) 38 ((I' 17 n).toNat)).toNat) (n : Int))) J)) (by decide +kernel) rfl (show (0 ≤ (n : Int) ∧ (n : Int) < 400) ∧ (0 ≤ (I' 17 n) ∧ (I' 17 n) < 321) ∧ (inR ((I' 38 ((I' 17 n).toNat)) - 1)) ∧ (0 ≤ (I' 17 n) ∧ (I' 17 n) < 321) ∧ (0 ≤ (I' 17 n) ∧ (I' 17 n) < 321) ∧ (0 ≤ ((ma I' 38 (ma (I' 38) ((I' 17 n).toNat) ((I' 38 ((I' 17 n).toNat)) - 1))) 38 ((I' 17 n).toNat)) ∧ ((ma I' 38 (ma (I' 38) ((I' 17 n).toNat) ((I' 38 ((I' 17 n).toNat)) - 1))) 38 ((I' 17 n).toNat)) < 400) ∧ (inR ((n : Int) + (-1))) from ⟨(by first | omega | (simp only [ma_self, ma_ne _ _ (show (17 : Nat) ≠ 38 by decide)]; omega) | (rw [ma_self, ma_ne _ _ (show (17 : Nat) ≠ 38 by decide), ma_self]; omega)), (by first | omega | (simp only [ma_self, ma_ne _ _ (show (17 : Nat) ≠ 38 by decide)]; omega) | (rw [ma_self, ma_ne _ _ (show (17 : Nat) ≠ 38 by decide), ma_self]; omega)), (by unfold inR; first | omega | (simp only [ma_self, ma_ne _ _ (show (17 : Nat) ≠ 38 by decide)]; omega) | (rw [ma_self, ma_ne _ _ (show (17 : Nat) ≠ 38 by decide), ma_self]; omega)), (by first | omega | (simp only [ma_self, ma_ne _ _ (show (17 : Nat) ≠ 38 by decide)]; omega) | (rw [ma_self, ma_ne _ _ (show (17 : Nat) ≠ 38 by decide), ma_self]; omega)), (by first | omega | (simp only [ma_self, ma_ne _ _ (show (17 : Nat) ≠ 38 by decide)]; omega) | (rw [ma_self, ma_ne _ _ (show (17 : Nat) ≠ 38 by decide), ma_self]; omega)), (by first | omega | (simp only [ma_self, ma_ne _ _ (show (17 : Nat) ≠ 38 by decide)]; omega) | (rw [ma_self, ma_ne _ _ (show (17 : Nat) ≠ 38 by decide), ma_self]; omega)), (by unfold inR; first | omega | (simp only [ma_self, ma_ne _ _ (show (17 : Nat) ≠ 38 by decide)]; omega) | (rw [ma_self, ma_ne _ _ (show (17 : Nat) ≠ 38 by decide), ma_self]; omega))⟩) ?_
          refine V.nI (fun I7 eI7 => ?_)
          have hcp : cnB I t now wo n = true := by rw [e14, e15, e16] at *; exact cn_t (by assumption) (by assumption)
          refine ih _ _ (by omega) (fun s hs => ?_) (fun q hq hqm hqc => ?_) (fun i h37 h38 => ?_)
          · subst eI7
            rw [ma_ne _ _ (show (38 : Nat) ≠ 37 by decide), ma_self, e17]
            unfold ma
            split
            · rename_i e
              rw [← e, hf s hs, cF_put hcp, if_pos (by omega)]
              omega
            · rename_i e
              rw [hf s hs, cF_put hcp, if_neg (by omega)]
              omega
          · have ix : ((ma (I' 38) (I 17 n).toNat (I' 38 (I 17 n).toNat - 1) (I 17 n).toNat).toNat) = ixF I (cnB I t now wo) m n := by
              rw [ma_self, hf (I 17 n).toNat (by omega), cF_put hcp, if_pos (by omega)]
              unfold ixF
              congr 1
              omega
            subst eI7
            rw [ma_self, ma_ne _ _ (show (37 : Nat) ≠ 38 by decide), ma_self, e17, ix]
            by_cases e : q = n
            · subst e; rw [ma_self]
            · rw [ma_ne _ _ (ix_inj (show n < q by omega) hqm hcp hqc (by omega) (hs q (by omega)).1).symm]
              exact hc q (by omega) hqm hqc
          · subst eI7
            rw [ma_ne _ _ h37, ma_ne _ _ h38]
            exact ho i h37 h38
theorem l_sift2 {N : Nat} {I : MI} {J : MJ} {t now wo : Int} {m : Nat} (hm : I 10 9 = m) (h4 : m ≤ 400) (hs : ∀ q, q < m → 0 ≤ I 17 q ∧ I 17 q < 320) : ∀ (k s : Nat) (I' : MI), 322 ≤ k + s → 1 ≤ s → s ≤ 321 → (∀ r, r < s → I' 38 r = prF I (cnB I t now wo) m (r + 1)) → (∀ r, s ≤ r → r < 321 → I' 38 r = cF I (cnB I t now wo) r m) → (∀ i, i ≠ 37 → i ≠ 38 → I' i = I i) → V 50 (71, [some (aR 36), some (aI t), some (aI now), some (aI wo), some (aI (s : Int)), none], [], MM N I' J) (fun r M' => r = none ∧ ∃ I', M' = MM N I' J ∧ CntR I' (cnB I t now wo) ∧ ∀ i, i ≠ 37 → i ≠ 38 → I' i = I i) := by
  intro k
  induction k with
  | zero => intro s I' h1 h2 h3; exfalso; omega
  | succ k ih =>
    intro s I' h1 h2 h3 ha hb ho
    have em : I' 10 9 = m := by rw [ho 10 (by decide) (by decide)]; exact hm
    refine V.blk [(71, .iload 4, 2), (73, .bipush 320, 3), (76, .if_icmp .gt 104, 3)] (ps := []) (z' := (brc .gt (s : Int) 320 104 79, [some (aR 36), some (aI t), some (aI now), some (aI wo), some (aI (s : Int)), none], [], MM N I' J)) (by decide +kernel) rfl trivial ?_
    refine V.gt (fun h1 => ?_) (fun h2 => ?_)
    · skip
      try simp only [b2_cast, b2_ncast, Classical.not_not, lcm_lt, lcm_ge, lcm_gt, lcm_le, lcm_eq] at h1
      refine V.blk [(104, .aload 0, 1), (105, .getfield 7002, 3), (108, .getfield 3009, 3), (111, .bipush 1, 1), (112, .isub, 1), (113, .istore 4, 2)] (ps := [inR ((I' 10 9) - 1)]) (z' := (115, [some (aR 36), some (aI t), some (aI now), some (aI wo), some (aI ((I' 10 9) - 1)), none], [], MM N I' J)) (by decide +kernel) rfl (show (inR ((I' 10 9) - 1)) from (by unfold inR; omega)) ?_
      rw [em]
      refine l_sift3 hm h4 hs m I' _ (Nat.le_refl _) (fun r hr => ?_) (fun q hq hq2 => by omega) ho
      rw [ha r (by omega)]
      rfl
    · skip
      try simp only [b2_cast, b2_ncast, Classical.not_not, lcm_lt, lcm_ge, lcm_gt, lcm_le, lcm_eq] at h2
      have b0 := hb s (Nat.le_refl _) (by omega)
      have b1 := ha (s - 1) (by omega)
      have b2 := (cF_le (K := I) (cp := cnB I t now wo) (s := s) (Nat.le_refl m)).1
      have b3 := prF_le (K := I) (cp := cnB I t now wo) (s := s) m
      have b4 := prF_nn (K := I) (cp := cnB I t now wo) (m := m) (s := s)
      have b5 : cF I (cnB I t now wo) s m ≤ m := (cntF_in _ m).2
      have eS : (s : Int) - 1 = ((s - 1 : Nat) : Int) := by omega
      have eA : ((s : Int) - 1).toNat = s - 1 := by omega
      rw [show s - 1 + 1 = s by omega] at b1
      rw [← eA] at b1
      refine V.blk [(79, .aload 0, 1), (80, .getfield 7005, 3), (83, .iload 4, 2), (85, .dup2, 1), (86, .iaload, 1), (87, .aload 0, 1), (88, .getfield 7005, 3), (91, .iload 4, 2), (93, .bipush 1, 1), (94, .isub, 1), (95, .iaload, 1), (96, .iadd, 1), (97, .iastore, 1), (98, .iinc 4 1, 3), (101, .goto 71, 3)] (ps := [0 ≤ (s : Int) ∧ (s : Int) < 321, inR ((s : Int) - 1), 0 ≤ ((s : Int) - 1) ∧ ((s : Int) - 1) < 321, inR ((I' 38 s) + (I' 38 (((s : Int) - 1).toNat))), 0 ≤ (s : Int) ∧ (s : Int) < 321, inR ((s : Int) + 1)]) (z' := (71, [some (aR 36), some (aI t), some (aI now), some (aI wo), some (aI ((s + 1 : Nat) : Int)), none], [], MM N (ma I' 38 (ma (I' 38) s ((I' 38 s) + (I' 38 (((s : Int) - 1).toNat))))) J)) (by decide +kernel) rfl (show (0 ≤ (s : Int) ∧ (s : Int) < 321) ∧ (inR ((s : Int) - 1)) ∧ (0 ≤ ((s : Int) - 1) ∧ ((s : Int) - 1) < 321) ∧ (inR ((I' 38 s) + (I' 38 (((s : Int) - 1).toNat)))) ∧ (0 ≤ (s : Int) ∧ (s : Int) < 321) ∧ (inR ((s : Int) + 1)) from ⟨(by omega), (by unfold inR; omega), (by omega), (by unfold inR; omega), (by omega), (by unfold inR; omega)⟩) ?_
      refine V.nI (fun I3 eI3 => ?_)
      refine ih (s + 1) _ (by omega) (by omega) (by omega) (fun r hr => ?_) (fun r hr hr2 => ?_) (fun i h37 h38 => ?_)
      · subst eI3
        rw [ma_self]
        unfold ma
        split
        · rename_i e
          subst e
          rw [eA, hb r (Nat.le_refl _) (by omega), ha (r - 1) (by omega)]
          obtain ⟨r, rfl⟩ : ∃ r', r = r' + 1 := ⟨r - 1, by omega⟩
          show cF I (cnB I t now wo) (r + 1) m + prF I (cnB I t now wo) m (r + 1) = prF I (cnB I t now wo) m (r + 1) + cF I (cnB I t now wo) (r + 1) m
          omega
        · exact ha r (by omega)
      · subst eI3
        rw [ma_self, ma_ne _ _ (show r ≠ s by omega)]
        exact hb r (by omega) hr2
      · subst eI3
        rw [ma_ne _ _ h38]
        exact ho i h37 h38
theorem l_sift1 {N : Nat} {I : MI} {J : MJ} {t now wo : Int} {m : Nat} (hm : I 10 9 = m) (h4 : m ≤ 400) (hs : ∀ q, q < m → 0 ≤ I 17 q ∧ I 17 q < 320) : ∀ (k p : Nat) (I' : MI), m + 1 ≤ k + p → p ≤ m → (∀ s, s < 321 → I' 38 s = cF I (cnB I t now wo) s p) → (∀ i, i ≠ 37 → i ≠ 38 → I' i = I i) → V 50 (11, [some (aR 36), some (aI t), some (aI now), some (aI wo), some (aI (p : Int)), none], [], MM N I' J) (fun r M' => r = none ∧ ∃ I', M' = MM N I' J ∧ CntR I' (cnB I t now wo) ∧ ∀ i, i ≠ 37 → i ≠ 38 → I' i = I i) := by
  intro k
  induction k with
  | zero => intro p I' h1 h2; exfalso; omega
  | succ k ih =>
    intro p I' h1 h2 hf ho
    have em : I' 10 9 = m := by rw [ho 10 (by decide) (by decide)]; exact hm
    have e17 : I' 17 = I 17 := ho 17 (by decide) (by decide)
    have e14 : I' 14 = I 14 := ho 14 (by decide) (by decide)
    have e15 : I' 15 = I 15 := ho 15 (by decide) (by decide)
    have e16 : I' 16 = I 16 := ho 16 (by decide) (by decide)
    have skip : ∀ (hp : p < m) (hcp : cnB I t now wo p = false), V 50 (11, [some (aR 36), some (aI t), some (aI now), some (aI wo), some (aI ((p + 1 : Nat) : Int)), none], [], MM N I' J) (fun r M' => r = none ∧ ∃ I', M' = MM N I' J ∧ CntR I' (cnB I t now wo) ∧ ∀ i, i ≠ 37 → i ≠ 38 → I' i = I i) := by
      intro hp hcp
      exact ih (p + 1) I' (by omega) (by omega) (fun s hs => by rw [hf s hs, cF_skip hcp]) ho
    refine V.blk [(11, .iload 4, 2), (13, .aload 0, 1), (14, .getfield 7002, 3), (17, .getfield 3009, 3), (20, .if_icmp .ge 68, 3)] (ps := []) (z' := (brc .ge (p : Int) (I' 10 9) 68 23, [some (aR 36), some (aI t), some (aI now), some (aI wo), some (aI (p : Int)), none], [], MM N I' J)) (by decide +kernel) rfl trivial ?_
    refine V.ge (fun h1 => ?_) (fun h2 => ?_)
    · skip
      try simp only [b2_cast, b2_ncast, Classical.not_not, lcm_lt, lcm_ge, lcm_gt, lcm_le, lcm_eq] at h1
      refine V.blk [(68, .bipush 1, 1), (69, .istore 4, 2)] (ps := []) (z' := (71, [some (aR 36), some (aI t), some (aI now), some (aI wo), some (aI 1), none], [], MM N I' J)) (by decide +kernel) rfl trivial ?_
      refine l_sift2 hm h4 hs 321 1 I' (by omega) (by omega) (by omega) (fun r hr => ?_) (fun r _ hr => ?_) ho
      · rw [hf r (by omega), show p = m by omega]
        obtain rfl : r = 0 := by omega
        show cF I (cnB I t now wo) 0 m = 0 + cF I (cnB I t now wo) 0 m
        omega
      · rw [hf r hr, show p = m by omega]
    · skip
      try simp only [b2_cast, b2_ncast, Classical.not_not, lcm_lt, lcm_ge, lcm_gt, lcm_le, lcm_eq] at h2
      refine V.blk [(23, .iload 4, 2), (25, .iload 3, 1), (26, .if_icmp .eq 62, 3)] (ps := []) (z' := (brc .eq (p : Int) wo 62 29, [some (aR 36), some (aI t), some (aI now), some (aI wo), some (aI (p : Int)), none], [], MM N I' J)) (by decide +kernel) rfl trivial ?_
      refine V.eq (fun h3 => ?_) (fun h4 => ?_)
      · skip
        try simp only [b2_cast, b2_ncast, Classical.not_not, lcm_lt, lcm_ge, lcm_gt, lcm_le, lcm_eq] at h3
        refine V.blk [(62, .iinc 4 1, 3), (65, .goto 11, 3)] (ps := [inR ((p : Int) + 1)]) (z' := (11, [some (aR 36), some (aI t), some (aI now), some (aI wo), some (aI ((p + 1 : Nat) : Int)), none], [], MM N I' J)) (by decide +kernel) rfl (show (inR ((p : Int) + 1)) from (by unfold inR; omega)) ?_
        first
        | (refine skip (by omega) (cn_f ?_); rw [e14, e15, e16] at *; omega)
        | (refine skip (by omega) (cn_f ?_); omega)
      · skip
        try simp only [b2_cast, b2_ncast, Classical.not_not, lcm_lt, lcm_ge, lcm_gt, lcm_le, lcm_eq] at h4
        refine V.blk [(29, .aload 0, 1), (30, .getfield 7002, 3), (33, .iload 4, 2), (35, .iload 1, 1), (36, .iload 2, 1)] (ps := []) (z' := (37, [some (aR 36), some (aI t), some (aI now), some (aI wo), some (aI (p : Int)), none], [aI now, aI t, aI (p : Int), aR 10], MM N I' J)) (by decide +kernel) rfl trivial ?_
        refine V.cv (c := 26) (na := 4) (o := 3) (a := 10) [aI now, aI t, aI (p : Int)] [] (by decide +kernel) rfl rfl rfl rfl rfl (V.pr (c_X3_countsAt (by omega)) ?_)
        show V 50 (40, [some (aR 36), some (aI t), some (aI now), some (aI wo), some (aI (p : Int)), none], [aI (b2 (decide ((I' 15 p ≤ t ∧ (I' 16 p = -1 ∨ t < I' 16 p)) ∧ (I' 14 p = 0 ∨ now < I' 14 p))))], MM N I' J) _
        refine V.blk [(40, .ifCond .eq 62, 3)] (ps := []) (z' := (brc .eq (b2 (decide ((I' 15 p ≤ t ∧ (I' 16 p = -1 ∨ t < I' 16 p)) ∧ (I' 14 p = 0 ∨ now < I' 14 p)))) 0 62 43, [some (aR 36), some (aI t), some (aI now), some (aI wo), some (aI (p : Int)), none], [], MM N I' J)) (by decide +kernel) rfl trivial ?_
        refine V.eq (fun h5 => ?_) (fun h6 => ?_)
        · skip
          try simp only [b2_cast, b2_ncast, Classical.not_not, lcm_lt, lcm_ge, lcm_gt, lcm_le, lcm_eq] at h5
          refine V.blk [(62, .iinc 4 1, 3), (65, .goto 11, 3)] (ps := [inR ((p : Int) + 1)]) (z' := (11, [some (aR 36), some (aI t), some (aI now), some (aI wo), some (aI ((p + 1 : Nat) : Int)), none], [], MM N I' J)) (by decide +kernel) rfl (show (inR ((p : Int) + 1)) from (by unfold inR; omega)) ?_
          first
          | (refine skip (by omega) (cn_f ?_); rw [e14, e15, e16] at *; omega)
          | (refine skip (by omega) (cn_f ?_); omega)
        · skip
          try simp only [b2_cast, b2_ncast, Classical.not_not, lcm_lt, lcm_ge, lcm_gt, lcm_le, lcm_eq] at h6
          have hsp := hs p (by omega)
          have b0 := hf (I 17 p).toNat (by omega)
          have b1 : cF I (cnB I t now wo) (I 17 p).toNat p ≤ p := (cntF_in _ p).2
          have b2 := (cF_le (K := I) (cp := cnB I t now wo) (s := (I 17 p).toNat) (Nat.le_refl p)).1
          have hsp0 := hsp
          rw [← e17] at hsp b0 b1 b2
          refine V.blk [(43, .aload 0, 1), (44, .getfield 7005, 3), (47, .aload 0, 1), (48, .getfield 7002, 3), (51, .getfield 3006, 3), (54, .iload 4, 2), (56, .iaload, 1), (57, .dup2, 1), (58, .iaload, 1), (59, .bipush 1, 1), (60, .iadd, 1), (61, .iastore, 1), (62, .iinc 4 1, 3), (65, .goto 11, 3)] (ps := [0 ≤ (p : Int) ∧ (p : Int) < 400, 0 ≤ (I' 17 p) ∧ (I' 17 p) < 321, inR ((I' 38 ((I' 17 p).toNat)) + 1), 0 ≤ (I' 17 p) ∧ (I' 17 p) < 321, inR ((p : Int) + 1)]) (z' := (11, [some (aR 36), some (aI t), some (aI now), some (aI wo), some (aI ((p + 1 : Nat) : Int)), none], [], MM N (ma I' 38 (ma (I' 38) ((I' 17 p).toNat) ((I' 38 ((I' 17 p).toNat)) + 1))) J)) (by decide +kernel) rfl (show (0 ≤ (p : Int) ∧ (p : Int) < 400) ∧ (0 ≤ (I' 17 p) ∧ (I' 17 p) < 321) ∧ (inR ((I' 38 ((I' 17 p).toNat)) + 1)) ∧ (0 ≤ (I' 17 p) ∧ (I' 17 p) < 321) ∧ (inR ((p : Int) + 1)) from ⟨(by omega), (by omega), (by unfold inR; omega), (by omega), (by unfold inR; omega)⟩) ?_
          refine V.nI (fun I7 eI7 => ?_)
          have hcp : cnB I t now wo p = true := by rw [e14, e15, e16] at *; exact cn_t (by assumption) (by assumption)
          refine ih (p + 1) _ (by omega) (by omega) (fun s hs => ?_) (fun i h37 h38 => ?_)
          · subst eI7
            rw [ma_self, cF_put hcp, e17]
            unfold ma
            split
            · rename_i e
              rw [← e, hf s hs, if_pos (by omega)]
            · rename_i e
              rw [hf s hs, if_neg (by omega)]
              omega
          · subst eI7
            rw [ma_ne _ _ h38]
            exact ho i h37 h38
theorem c_sift {N : Nat} {I : MI} {J : MJ} {t now wo : Int} {m : Nat} (hm : I 10 9 = m) (h4 : m ≤ 400) (hs : ∀ q, q < m → 0 ≤ I 17 q ∧ I 17 q < 320) : CT 50 [aR 36, aI t, aI now, aI wo] (MM N I J) (fun r M' => r = none ∧ ∃ I', M' = MM N I' J ∧ CntR I' (cnB I t now wo) ∧ ∀ i, i ≠ 37 → i ≠ 38 → I' i = I i) := by
  refine CT.ofV (n := 6) (ls := [some (aR 36), some (aI t), some (aI now), some (aI wo), none, none]) rfl rfl rfl ?_
  refine V.blk [(0, .aload 0, 1), (1, .getfield 7005, 3), (4, .bipush 0, 1)] (ps := []) (z' := (5, [some (aR 36), some (aI t), some (aI now), some (aI wo), none, none], [aI 0, aR 38], MM N I J)) (by decide +kernel) rfl trivial ?_
  refine V.cs (c := 199) (na := 2) [aI 0, aR 38] [] (by decide +kernel) rfl rfl ((c_fillI_38).mono (fun rv M1 q => ?_))
  obtain ⟨rfl, IF, rfl, hFa, hFo⟩ := q
  show V 50 (8, [some (aR 36), some (aI t), some (aI now), some (aI wo), none, none], [], MM N IF J) _
  refine V.blk [(8, .bipush 0, 1), (9, .istore 4, 2)] (ps := []) (z' := (11, [some (aR 36), some (aI t), some (aI now), some (aI wo), some (aI 0), none], [], MM N IF J)) (by decide +kernel) rfl trivial ?_
  exact l_sift1 hm h4 hs (m + 1) 0 IF (by omega) (by omega) (fun s hs => by rw [hFa s (by omega)]; rfl) (fun i _ h38 => hFo i h38)
