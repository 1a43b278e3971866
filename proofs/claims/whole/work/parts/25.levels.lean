/-! ===== levels: rounds that settle one more knot each ===== -/
abbrev ED : Type := Nat → Nat → Prop
def stab (A T : ED) (v : Nat → Int) : Prop := ∀ n m, n < 48 → m < 48 → (A n m → v m ≤ v n) ∧ (T n m → v m + 1 ≤ v n)
def nng (v : Nat → Int) : Prop := ∀ n, n < 48 → 0 ≤ v n
/-- one round, from v to w -/
def Pg (A T : ED) (v w : Nat → Int) : Prop := (∀ n, n < 48 → v n ≤ w n) ∧ (∀ n m, n < 48 → m < 48 → (A n m → v m ≤ w n) ∧ (T n m → v m + 1 ≤ w n)) ∧ ∀ z, stab A T z → nng z → (∀ n, n < 48 → v n ≤ z n) → ∀ n, n < 48 → w n ≤ z n
def LevOK (A T : ED) (v : Nat → Int) : Prop := stab A T v ∧ nng v ∧ ∀ z, stab A T z → nng z → ∀ n, n < 48 → v n ≤ z n
theorem LevOK.uniq {A T : ED} {v w : Nat → Int} (h1 : LevOK A T v) (h2 : LevOK A T w) : ∀ n, n < 48 → v n = w n := by
  intro n hn
  have a := h1.2.2 w h2.1 h2.2.1 n hn
  have b := h2.2.2 v h1.1 h1.2.1 n hn
  omega
theorem least_nat {P : Nat → Prop} (h : ∃ n, P n) : ∃ n, P n ∧ ∀ k, P k → n ≤ k := by
  obtain ⟨n, hn⟩ := h
  induction n using Nat.strongRecOn with
  | ind n ih =>
    by_cases q : ∃ k, k < n ∧ P k
    · obtain ⟨k, hk, hP⟩ := q
      exact ih k hk hP
    · exact ⟨n, hn, fun k hk => Nat.not_lt.mp fun w => q ⟨k, w, hk⟩⟩
/-- where one potential is stable, there is a least one -/
theorem lev_ex {A T : ED} (h : ∃ z, stab A T z ∧ nng z) : ∃ v, LevOK A T v := by
  have key : ∀ n, ∃ k : Nat, n < 48 → (∃ z, stab A T z ∧ nng z ∧ z n = k) ∧ ∀ z, stab A T z → nng z → (k : Int) ≤ z n := by
    intro n
    by_cases hn : n < 48
    · obtain ⟨k, hk, hmin⟩ := least_nat (P := fun k : Nat => ∃ z, stab A T z ∧ nng z ∧ z n = k) (by
        obtain ⟨z, h1, h2⟩ := h
        exact ⟨(z n).toNat, z, h1, h2, by have := h2 n hn; omega⟩)
      refine ⟨k, fun _ => ⟨hk, fun z h1 h2 => ?_⟩⟩
      have h3 := h2 n hn
      have := hmin (z n).toNat ⟨z, h1, h2, by omega⟩
      omega
    · exact ⟨0, fun q => absurd q hn⟩
  refine ⟨fun n => ((Classical.choose (key n) : Nat) : Int), ?_, ?_, ?_⟩
  · intro n m hn hm
    obtain ⟨⟨z, h1, h2, h3⟩, -⟩ := Classical.choose_spec (key n) hn
    have h4 := (Classical.choose_spec (key m) hm).2 z h1 h2
    have h5 := h1 n m hn hm
    dsimp only
    rw [← h3]
    exact ⟨fun q => Int.le_trans h4 (h5.1 q), fun q => by have := h5.2 q; omega⟩
  · intro n hn
    exact Int.natCast_nonneg _
  · intro z h1 h2 n hn
    exact (Classical.choose_spec (key n) hn).2 z h1 h2
theorem cntF_le {f g : Nat → Bool} : ∀ n, (∀ k, k < n → f k = true → g k = true) → cntF f n ≤ cntF g n
  | 0, _ => Int.le_refl _
  | n + 1, h => by
    have := cntF_le n (fun k hk => h k (by omega))
    unfold cntF
    split
    · rename_i hf
      rw [if_pos (h n (by omega) hf)]
      omega
    · split <;> omega
theorem cntF_lt {f g : Nat → Bool} : ∀ n, (∀ k, k < n → f k = true → g k = true) → (∃ k, k < n ∧ f k = false ∧ g k = true) → cntF f n + 1 ≤ cntF g n
  | 0, _, h => by obtain ⟨k, hk, -⟩ := h; omega
  | n + 1, h, h2 => by
    obtain ⟨k, hk, h3, h4⟩ := h2
    unfold cntF
    by_cases e : k = n
    · subst e
      have := cntF_le k (fun q hq => h q (by omega))
      rw [if_neg (by rw [h3]; simp), if_pos h4]
      omega
    · have := cntF_lt n (fun q hq => h q (by omega)) ⟨k, by omega, h3, h4⟩
      split
      · rename_i hf
        rw [if_pos (h n (by omega) hf)]
        omega
      · split <;> omega
theorem cntF_all {f : Nat → Bool} : ∀ n : Nat, (n : Int) ≤ cntF f n → ∀ k, k < n → f k = true
  | 0, _, k, hk => by omega
  | n + 1, h, k, hk => by
    have hb := cntF_in f n
    unfold cntF at h
    split at h
    · rename_i hf
      by_cases e : k = n
      · rw [e]; exact hf
      · exact cntF_all n (by omega) k (by omega)
    · omega
/-- how many knots of 48 have come to their last value -/
def setl (u v : Nat → Int) : Int := cntF (fun n => decide (v n = u n)) 48
theorem lev_prog {A T : ED} {u v w : Nat → Int} (hu : LevOK A T u) (h0 : nng v) (hv : ∀ n, n < 48 → v n ≤ u n) (hp : Pg A T v w) : (∀ n, n < 48 → w n ≤ u n) ∧ nng w ∧ (setl u v = 48 ∨ setl u v + 1 ≤ setl u w) := by
  have hw : ∀ n, n < 48 → w n ≤ u n := hp.2.2 u hu.1 hu.2.1 hv
  refine ⟨hw, fun n hn => Int.le_trans (h0 n hn) (hp.1 n hn), ?_⟩
  have keep : ∀ k, k < 48 → decide (v k = u k) = true → decide (w k = u k) = true := by
    intro k hk h
    have h := of_decide_eq_true h
    have a := hp.1 k hk
    have b := hw k hk
    exact decide_eq_true (by omega)
  by_cases hall : ∀ n, n < 48 → v n = u n
  · left
    have hb := cntF_in (fun n => decide (v n = u n)) 48
    have h1 : cntF (fun _ => true) 48 ≤ cntF (fun n => decide (v n = u n)) 48 := cntF_le 48 (fun k hk _ => decide_eq_true (hall k hk))
    have h2 : cntF (fun _ => true) 48 = 48 := by decide
    unfold setl
    omega
  · right
    apply cntF_lt 48 keep
    apply Classical.byContradiction
    intro hno
    have hU : ∀ n, n < 48 → v n ≠ u n → w n < u n := by
      intro n hn hne
      have a := hw n hn
      by_cases e : w n = u n
      · exact absurd ⟨n, hn, decide_eq_false hne, decide_eq_true e⟩ hno
      · omega
    obtain ⟨n0, hn0, hne0⟩ : ∃ n, n < 48 ∧ v n ≠ u n := by
      apply Classical.byContradiction
      intro q
      exact hall fun n hn => Classical.byContradiction fun e => q ⟨n, hn, e⟩
    have hst : stab A T (fun n => if v n = u n then u n else u n - 1) := by
      intro n m hn hm
      have s1 := hu.1 n m hn hm
      have p1 := hp.2.1 n m hn hm
      dsimp only
      by_cases e1 : v n = u n
      · rw [if_pos e1]
        constructor
        · intro q
          have := s1.1 q
          split <;> omega
        · intro q
          have := s1.2 q
          split <;> omega
      · rw [if_neg e1]
        have := hU n hn e1
        by_cases e2 : v m = u m
        · rw [if_pos e2]
          constructor
          · intro q
            have := p1.1 q
            omega
          · intro q
            have := p1.2 q
            omega
        · rw [if_neg e2]
          constructor
          · intro q
            have := s1.1 q
            omega
          · intro q
            have := s1.2 q
            omega
    have hng : nng (fun n => if v n = u n then u n else u n - 1) := by
      intro n hn
      dsimp only
      have a := hu.2.1 n hn
      have b := h0 n hn
      have c := hv n hn
      split <;> omega
    have := hu.2.2 _ hst hng n0 hn0
    rw [if_neg hne0] at this
    omega
/-- v behind r rounds -/
def Rnd (A T : ED) (r : Nat) (v : Nat → Int) : Prop := nng v ∧ ∀ u, LevOK A T u → (∀ n, n < 48 → v n ≤ u n) ∧ (setl u v = 48 ∨ (r : Int) ≤ setl u v)
theorem Rnd.zero {A T : ED} {v : Nat → Int} (h : ∀ n, n < 48 → v n = 0) : Rnd A T 0 v := by
  refine ⟨fun n hn => by rw [h n hn]; exact Int.le_refl _, fun u hu => ⟨fun n hn => by rw [h n hn]; exact hu.2.1 n hn, Or.inr ?_⟩⟩
  exact (cntF_in _ 48).1
theorem Rnd.step {A T : ED} {r : Nat} {v w : Nat → Int} (h : Rnd A T r v) (hp : Pg A T v w) : Rnd A T (r + 1) w := by
  refine ⟨fun n hn => Int.le_trans (h.1 n hn) (hp.1 n hn), fun u hu => ?_⟩
  obtain ⟨h1, h2⟩ := h.2 u hu
  obtain ⟨g1, g2, g3⟩ := lev_prog hu h.1 h1 hp
  refine ⟨g1, ?_⟩
  have hb : setl u v ≤ setl u w := by
    apply cntF_le 48
    intro k hk q
    have q := of_decide_eq_true q
    have a := hp.1 k hk
    have b := g1 k hk
    exact decide_eq_true (by omega)
  have hb2 : setl u w ≤ 48 := (cntF_in _ 48).2
  rcases h2 with h2 | h2
  · left; omega
  · rcases g3 with g3 | g3
    · left; omega
    · right; omega
theorem Rnd.done {A T : ED} {r : Nat} {v : Nat → Int} (h : Rnd A T r v) (hr : 48 ≤ r) (hz : ∃ z, stab A T z ∧ nng z) : LevOK A T v := by
  obtain ⟨u, hu⟩ := lev_ex hz
  obtain ⟨h1, h2⟩ := h.2 u hu
  have hb : setl u v ≤ 48 := (cntF_in _ 48).2
  have e : ∀ n, n < 48 → v n = u n := by
    intro n hn
    have := cntF_all (f := fun n => decide (v n = u n)) 48 (by unfold setl at h2 hb; omega) n hn
    exact of_decide_eq_true this
  refine ⟨fun n m hn hm => by rw [e n hn, e m hm]; exact hu.1 n m hn hm, fun n hn => by rw [e n hn]; exact hu.2.1 n hn, fun z g1 g2 n hn => by rw [e n hn]; exact hu.2.2 z g1 g2 n hn⟩
/-- a round that changes nothing: stable, and least -/
theorem Rnd.still {A T : ED} {r : Nat} {v w : Nat → Int} (h : Rnd A T r v) (hp : Pg A T v w) (he : ∀ n, n < 48 → w n = v n) : LevOK A T v := by
  have hs : stab A T v := fun n m hn hm => by
    have := hp.2.1 n m hn hm
    rw [he n hn] at this
    exact this
  refine ⟨hs, h.1, fun z g1 g2 => ?_⟩
  obtain ⟨u, hu⟩ := lev_ex ⟨v, hs, h.1⟩
  intro n hn
  exact Int.le_trans ((h.2 u hu).1 n hn) (hu.2.2 z g1 g2 n hn)
