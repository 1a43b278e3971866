/-! ===== what it costs to be in: prices, sweeps (no memory, no machine) ===== -/
def up1 (x : Int) : Int := if x < 1000000 then x + 1 else 1000000
/-- the least of f below n where b is, 1000000 at most; and the first place of it -/
def mnF (b : Nat → Bool) (f : Nat → Int) : Nat → Int
  | 0 => 1000000
  | n + 1 => if b n = true ∧ f n < mnF b f n then f n else mnF b f n
def bsF (b : Nat → Bool) (f : Nat → Int) : Nat → Int
  | 0 => -1
  | n + 1 => if b n = true ∧ f n < mnF b f n then (n : Int) else bsF b f n
theorem mnF_le (b : Nat → Bool) (f : Nat → Int) : ∀ n, mnF b f n ≤ 1000000
  | 0 => by unfold mnF; omega
  | n + 1 => by
    have := mnF_le b f n
    unfold mnF
    split <;> omega
theorem bs_mn (b : Nat → Bool) (f : Nat → Int) : ∀ n, (∀ r, r < n → b r = true → mnF b f n ≤ f r) ∧ ((bsF b f n = -1 ∧ mnF b f n = 1000000) ∨ ∃ q, q < n ∧ bsF b f n = (q : Int) ∧ b q = true ∧ f q = mnF b f n ∧ mnF b f n < 1000000 ∧ ∀ r, r < q → b r = true → mnF b f n < f r)
  | 0 => ⟨fun r hr => by omega, Or.inl ⟨rfl, rfl⟩⟩
  | n + 1 => by
    obtain ⟨h1, h2⟩ := bs_mn b f n
    have hm := mnF_le b f n
    have e1 : mnF b f (n + 1) = if b n = true ∧ f n < mnF b f n then f n else mnF b f n := rfl
    have e2 : bsF b f (n + 1) = if b n = true ∧ f n < mnF b f n then (n : Int) else bsF b f n := rfl
    by_cases c : b n = true ∧ f n < mnF b f n
    · rw [if_pos c] at e1 e2
      refine ⟨fun r hr hb => ?_, Or.inr ⟨n, by omega, e2, c.1, e1.symm, by omega, fun r hr hb => ?_⟩⟩
      · by_cases e : r = n
        · subst e; omega
        · have := h1 r (by omega) hb; omega
      · have := h1 r hr hb; omega
    · rw [if_neg c] at e1 e2
      refine ⟨fun r hr hb => ?_, ?_⟩
      · rw [e1]
        by_cases e : r = n
        · subst e
          exact Int.not_lt.mp fun w => c ⟨hb, w⟩
        · exact h1 r (by omega) hb
      · rw [e1, e2]
        rcases h2 with h2 | ⟨q, a, h2⟩
        · exact Or.inl h2
        · exact Or.inr ⟨q, by omega, h2⟩
def bhM (K : MI) (c : Nat → Int) (pe : Nat) (u : Bool) (q : Nat) : Int := if decide (K 14 q ≠ 0) = u then (if K 18 q ≠ -1 then c (K 18 q).toNat else if K 13 q = (pe : Int) then 0 else 1000000) else 1000000
def bhT (K : MI) (c : Nat → Int) (y q : Nat) : Int := if K 19 q = -1 then 1000000 else c ((K 19 q).toNat * 8 + y)
/-- what place p costs at spot s, T being what lower places cost -/
noncomputable def prS (K : MI) (cp : Nat → Bool) (v : SV) (c : Nat → Int) (pe s : Nat) (T : Nat → Int) (p : Nat) : Int :=
  if K 4 p = 0 then up1 (mnF (spB K cp s) (bhM K c pe false) (K 10 9).toNat) else if K 4 p = 1 then up1 (mnF (spB K cp s) (bhM K c pe true) (K 10 9).toNat)
  else if K 4 p = 2 then up1 (c (s / 8 * 8 + (K 5 p).toNat))
  else if K 4 p = 3 then up1 (mnF (spB K cp (s / 8 * 8 + (K 5 p).toNat)) (bhT K c (K 6 p).toNat) (K 10 9).toNat)
  else if K 4 p = 4 then (if T (K 6 p).toNat < T (K 5 p).toNat then T (K 6 p).toNat else T (K 5 p).toNat)
  else if K 4 p = 5 then (if T (K 5 p).toNat < T (K 6 p).toNat then T (K 6 p).toNat else T (K 5 p).toNat)
  else if K 4 p = 6 then (if tb (pl K cp v s (K 6 p).toNat) pe = true then 1000000 else T (K 5 p).toNat) else 1000000
noncomputable def prV (K : MI) (cp : Nat → Bool) (v : SV) (c : Nat → Int) (pe s : Nat) : Nat → Nat → Int
  | 0, _ => 1000000
  | f + 1, p => prS K cp v c pe s (prV K cp v c pe s f) p
theorem prS_T {K : MI} {cp : Nat → Bool} {v : SV} {c : Nat → Int} {pe s p : Nat} {T T' : Nat → Int} (h : 4 ≤ K 4 p → K 4 p ≤ 6 → T (K 5 p).toNat = T' (K 5 p).toNat ∧ T (K 6 p).toNat = T' (K 6 p).toNat) : prS K cp v c pe s T p = prS K cp v c pe s T' p := by
  unfold prS
  by_cases hj : 4 ≤ K 4 p ∧ K 4 p ≤ 6
  · obtain ⟨h1, h2⟩ := h hj.1 hj.2
    rw [h1, h2]
  · rw [if_neg (show ¬ K 4 p = 4 by omega), if_neg (show ¬ K 4 p = 5 by omega), if_neg (show ¬ K 4 p = 6 by omega), if_neg (show ¬ K 4 p = 4 by omega), if_neg (show ¬ K 4 p = 5 by omega), if_neg (show ¬ K 4 p = 6 by omega)]
theorem prV_fuel {K : MI} {cp : Nat → Bool} {v : SV} {c : Nat → Int} {pe s : Nat} (hr : rlOK K) : ∀ f g p, p < f → p < g → p < 64 → prV K cp v c pe s f p = prV K cp v c pe s g p := by
  intro f
  induction f with
  | zero => intro g p h; omega
  | succ f ih =>
    intro g p h1 h2 h3
    obtain ⟨g, rfl⟩ : ∃ k, g = k + 1 := ⟨g - 1, by omega⟩
    show prS K cp v c pe s (prV K cp v c pe s f) p = prS K cp v c pe s (prV K cp v c pe s g) p
    refine prS_T fun a b => ?_
    have := hr p h3 a b
    exact ⟨ih g _ (by omega) (by omega) (by omega), ih g _ (by omega) (by omega) (by omega)⟩
noncomputable def pr (K : MI) (cp : Nat → Bool) (v : SV) (c : Nat → Int) (pe s p : Nat) : Int := prV K cp v c pe s 64 p
theorem pr_eq {K : MI} {cp : Nat → Bool} {v : SV} {c : Nat → Int} {pe s p : Nat} (hr : rlOK K) (hp : p < 64) : pr K cp v c pe s p = prS K cp v c pe s (pr K cp v c pe s) p := by
  show prS K cp v c pe s (prV K cp v c pe s 63) p = _
  refine prS_T fun a b => ?_
  have := hr p hp a b
  exact ⟨prV_fuel hr _ _ _ (by omega) (by omega) (by omega), prV_fuel hr _ _ _ (by omega) (by omega) (by omega)⟩
noncomputable def prT (K : MI) (cp : Nat → Bool) (v : SV) (c : Nat → Int) (pe s : Nat) : Int := if K 7 (kS K s) = -1 then 1000000 else pr K cp v c pe s (K 7 (kS K s)).toNat
/-! a property of prices, from places up -/
theorem pr_ind {K : MI} {cp : Nat → Bool} {v : SV} {c : Nat → Int} {pe s : Nat} (hr : rlOK K) {P : Nat → Int → Prop}
    (hs : ∀ p, p < 64 → ∀ T : Nat → Int, (4 ≤ K 4 p → K 4 p ≤ 6 → P (K 5 p).toNat (T (K 5 p).toNat) ∧ P (K 6 p).toNat (T (K 6 p).toNat)) → P p (prS K cp v c pe s T p)) : ∀ p, p < 64 → P p (pr K cp v c pe s p) := by
  intro p
  induction p using Nat.strongRecOn with
  | ind p ih =>
    intro hp
    rw [pr_eq hr hp]
    refine hs p hp _ fun a b => ?_
    have := hr p hp a b
    exact ⟨ih _ (by omega) (by omega), ih _ (by omega) (by omega)⟩
def ag (z a b : Int) : Prop := (a ≤ z ∨ b ≤ z) → a = b
theorem ag.rf (z a : Int) : ag z a a := fun _ => rfl
theorem ag.up {z a b : Int} (h : ag z a b) (hz : z + 1 < 1000000) : ag (z + 1) (up1 a) (up1 b) := by
  unfold ag up1 at *
  intro q
  have : a ≤ z ∨ b ≤ z := by
    rcases q with q | q
    · left; split at q <;> omega
    · right; split at q <;> omega
  rw [h this]
theorem ag.mn {z : Int} {b : Nat → Bool} {f g : Nat → Int} : ∀ n, (∀ q, q < n → b q = true → ag z (f q) (g q)) → ag z (mnF b f n) (mnF b g n)
  | 0, _ => ag.rf _ _
  | n + 1, h => by
    have i := ag.mn n fun q hq => h q (by omega)
    have j := h n (by omega)
    unfold ag at *
    unfold mnF
    by_cases hb : b n = true
    · have j := j hb
      simp only [hb, true_and]
      split <;> split <;> omega
    · simp only [hb, false_and, if_false]
      exact i
/-- c and d are the same up to z -/
def AgC (z : Int) (c d : Nat → Int) : Prop := ∀ s, s < 320 → ag z (c s) (d s)
theorem prS_ag {K : MI} {cp : Nat → Bool} {v : SV} {c d : Nat → Int} {pe s p : Nat} {z : Int} {T T' : Nat → Int} (hp : p < 64) (hr : rtOK K) (hq : prOK K) (hs : s < 320) (hz : z + 1 < 1000000) (h : AgC z c d) (hT : 4 ≤ K 4 p → K 4 p ≤ 6 → ag (z + 1) (T (K 5 p).toNat) (T' (K 5 p).toNat) ∧ ag (z + 1) (T (K 6 p).toNat) (T' (K 6 p).toNat)) : ag (z + 1) (prS K cp v c pe s T p) (prS K cp v d pe s T' p) := by
  have r := hr p hp
  have q0 := hq.1
  have hm : ∀ (u : Bool) (q : Nat), (q : Int) < K 10 9 → ag z (bhM K c pe u q) (bhM K d pe u q) := by
    intro u q a
    have := hq.2 q a
    unfold bhM
    by_cases c1 : decide (K 14 q ≠ 0) = u
    · rw [if_pos c1, if_pos c1]
      by_cases c2 : K 18 q ≠ -1
      · rw [if_pos c2, if_pos c2]; exact h _ (by omega)
      · rw [if_neg c2, if_neg c2]; exact ag.rf _ _
    · rw [if_neg c1, if_neg c1]; exact ag.rf _ _
  unfold prS
  by_cases c0 : K 4 p = 0
  · rw [if_pos c0, if_pos c0]; exact (ag.mn (K 10 9).toNat fun q a _ => hm _ q (by omega)).up hz
  rw [if_neg c0, if_neg c0]
  by_cases c1 : K 4 p = 1
  · rw [if_pos c1, if_pos c1]; exact (ag.mn (K 10 9).toNat fun q a _ => hm _ q (by omega)).up hz
  rw [if_neg c1, if_neg c1]
  by_cases c2 : K 4 p = 2
  · rw [if_pos c2, if_pos c2]; exact (h _ (by omega)).up hz
  rw [if_neg c2, if_neg c2]
  by_cases c3 : K 4 p = 3
  · rw [if_pos c3, if_pos c3]
    refine (ag.mn (K 10 9).toNat fun q a _ => ?_).up hz
    have := hq.2 q (by omega)
    unfold bhT
    by_cases c4 : K 19 q = -1
    · rw [if_pos c4, if_pos c4]; exact ag.rf _ _
    · rw [if_neg c4, if_neg c4]; exact h _ (by omega)
  rw [if_neg c3, if_neg c3]
  by_cases c4 : K 4 p = 4
  · rw [if_pos c4, if_pos c4]
    have := hT (by omega) (by omega)
    unfold ag at *
    split <;> split <;> omega
  rw [if_neg c4, if_neg c4]
  by_cases c5 : K 4 p = 5
  · rw [if_pos c5, if_pos c5]
    have := hT (by omega) (by omega)
    unfold ag at *
    split <;> split <;> omega
  rw [if_neg c5, if_neg c5]
  by_cases c6 : K 4 p = 6
  · rw [if_pos c6, if_pos c6]
    have := hT (by omega) (by omega)
    split
    · exact ag.rf _ _
    · exact this.1
  rw [if_neg c6, if_neg c6]
  exact ag.rf _ _
theorem prT_ag {K : MI} {cp : Nat → Bool} {v : SV} {c d : Nat → Int} {pe s : Nat} {z : Int} (hl : rlOK K) (h7 : ∀ n, n < 48 → -1 ≤ K 7 n ∧ K 7 n < 64) (hk : kdOK K) (hr : rtOK K) (hq : prOK K) (hs : s < 320) (hz : z + 1 < 1000000) (h : AgC z c d) : ag (z + 1) (prT K cp v c pe s) (prT K cp v d pe s) := by
  unfold prT
  split
  · exact ag.rf _ _
  · have := h7 _ (kS_lt hk hs)
    have key : ∀ p, p < 64 → ag (z + 1) (pr K cp v c pe s p) (pr K cp v d pe s p) := by
      intro p
      induction p using Nat.strongRecOn with
      | ind p ih =>
        intro hp
        rw [pr_eq hl hp, pr_eq hl hp]
        refine prS_ag hp hr hq hs hz h fun a b => ?_
        have := hl p hp a b
        exact ⟨ih _ (by omega) (by omega), ih _ (by omega) (by omega)⟩
    exact key _ (by omega)
/-! less costs less -/
theorem mnF_mono {b : Nat → Bool} {f g : Nat → Int} : ∀ n, (∀ q, q < n → b q = true → f q ≤ g q) → mnF b f n ≤ mnF b g n
  | 0, _ => Int.le_refl _
  | n + 1, h => by
    have i := mnF_mono n fun q hq => h q (by omega)
    have j := h n (by omega)
    unfold mnF
    by_cases hb : b n = true
    · have j := j hb
      simp only [hb, true_and]
      split <;> split <;> omega
    · simp only [hb, false_and, if_false]
      exact i
theorem up1_mono {a b : Int} (h : a ≤ b) : up1 a ≤ up1 b := by
  unfold up1
  split <;> split <;> omega
theorem prT_mono {K : MI} {cp : Nat → Bool} {v : SV} {c d : Nat → Int} {pe s : Nat} (hl : rlOK K) (h7 : ∀ n, n < 48 → -1 ≤ K 7 n ∧ K 7 n < 64) (hk : kdOK K) (hr : rtOK K) (hq : prOK K) (hs : s < 320) (h : ∀ s, s < 320 → c s ≤ d s) : prT K cp v c pe s ≤ prT K cp v d pe s := by
  unfold prT
  split
  · exact Int.le_refl _
  · have := h7 _ (kS_lt hk hs)
    have q0 := hq.1
    have hm : ∀ (u : Bool) (q : Nat), (q : Int) < K 10 9 → bhM K c pe u q ≤ bhM K d pe u q := by
      intro u q a
      have := hq.2 q a
      unfold bhM
      by_cases c1 : decide (K 14 q ≠ 0) = u
      · rw [if_pos c1, if_pos c1]
        by_cases c2 : K 18 q ≠ -1
        · rw [if_pos c2, if_pos c2]; exact h _ (by omega)
        · rw [if_neg c2, if_neg c2]; exact Int.le_refl _
      · rw [if_neg c1, if_neg c1]; exact Int.le_refl _
    have key : ∀ p, p < 64 → pr K cp v c pe s p ≤ pr K cp v d pe s p := by
      intro p
      induction p using Nat.strongRecOn with
      | ind p ih =>
        intro hp
        rw [pr_eq hl hp, pr_eq hl hp]
        have r := hr p hp
        have ll := hl p hp
        have i1 := fun a b => ih (K 5 p).toNat (by have := ll a b; omega) (by have := ll a b; omega)
        have i2 := fun a b => ih (K 6 p).toNat (by have := ll a b; omega) (by have := ll a b; omega)
        unfold prS
        by_cases c0 : K 4 p = 0
        · rw [if_pos c0, if_pos c0]; exact up1_mono (mnF_mono (K 10 9).toNat fun q a _ => hm _ q (by omega))
        rw [if_neg c0, if_neg c0]
        by_cases c1 : K 4 p = 1
        · rw [if_pos c1, if_pos c1]; exact up1_mono (mnF_mono (K 10 9).toNat fun q a _ => hm _ q (by omega))
        rw [if_neg c1, if_neg c1]
        by_cases c2 : K 4 p = 2
        · rw [if_pos c2, if_pos c2]; exact up1_mono (h _ (by omega))
        rw [if_neg c2, if_neg c2]
        by_cases c3 : K 4 p = 3
        · rw [if_pos c3, if_pos c3]
          refine up1_mono (mnF_mono (K 10 9).toNat fun q a _ => ?_)
          have := hq.2 q (by omega)
          unfold bhT
          by_cases c4 : K 19 q = -1
          · rw [if_pos c4, if_pos c4]; exact Int.le_refl _
          · rw [if_neg c4, if_neg c4]; exact h _ (by omega)
        rw [if_neg c3, if_neg c3]
        by_cases c4 : K 4 p = 4
        · rw [if_pos c4, if_pos c4]
          have := i1 (by omega) (by omega)
          have := i2 (by omega) (by omega)
          split <;> split <;> omega
        rw [if_neg c4, if_neg c4]
        by_cases c5 : K 4 p = 5
        · rw [if_pos c5, if_pos c5]
          have := i1 (by omega) (by omega)
          have := i2 (by omega) (by omega)
          split <;> split <;> omega
        rw [if_neg c5, if_neg c5]
        by_cases c6 : K 4 p = 6
        · rw [if_pos c6, if_pos c6]
          have := i1 (by omega) (by omega)
          split <;> omega
        rw [if_neg c6, if_neg c6]
        exact Int.le_refl _
    exact key _ (by omega)
/-! between 1 and 1000000; and what costs w costs w - 1 behind -/
theorem up1_in {a : Int} (h : 0 ≤ a) : 1 ≤ up1 a ∧ up1 a ≤ 1000000 := by
  unfold up1
  split <;> omega
theorem mnF_nn {b : Nat → Bool} {f : Nat → Int} : ∀ n, (∀ q, q < n → b q = true → 0 ≤ f q) → 0 ≤ mnF b f n
  | 0, _ => by unfold mnF; omega
  | n + 1, h => by
    have i := mnF_nn n fun q hq => h q (by omega)
    have j := h n (by omega)
    unfold mnF
    split
    · rename_i w; exact j w.1
    · exact i
def CPos (c : Nat → Int) : Prop := ∀ s, s < 320 → 1 ≤ c s ∧ c s ≤ 1000000
theorem bhM_nn {K : MI} {c : Nat → Int} {pe q : Nat} {u : Bool} (hq : prOK K) (hc : CPos c) (a : (q : Int) < K 10 9) : 0 ≤ bhM K c pe u q := by
  have := hq.2 q a
  have := hq.1
  unfold bhM
  by_cases c1 : decide (K 14 q ≠ 0) = u
  · rw [if_pos c1]
    by_cases c2 : K 18 q ≠ -1
    · rw [if_pos c2]; have := hc (K 18 q).toNat (by omega); omega
    · rw [if_neg c2]; split <;> omega
  · rw [if_neg c1]; omega
theorem bhT_nn {K : MI} {c : Nat → Int} {y q : Nat} (hq : prOK K) (hc : CPos c) (hy : y < 8) (a : (q : Int) < K 10 9) : 0 ≤ bhT K c y q := by
  have := hq.2 q a
  have := hq.1
  unfold bhT
  split
  · omega
  · have := hc ((K 19 q).toNat * 8 + y) (by omega); omega
theorem pr_in {K : MI} {cp : Nat → Bool} {v : SV} {c : Nat → Int} {pe s : Nat} (hl : rlOK K) (hr : rtOK K) (hq : prOK K) (hs : s < 320) (hc : CPos c) : ∀ p, p < 64 → 1 ≤ pr K cp v c pe s p ∧ pr K cp v c pe s p ≤ 1000000 := by
  refine pr_ind hl (P := fun _ x => 1 ≤ x ∧ x ≤ 1000000) fun p hp T h => ?_
  have r := hr p hp
  unfold prS
  by_cases c0 : K 4 p = 0
  · rw [if_pos c0]; exact up1_in (mnF_nn (K 10 9).toNat fun q a _ => bhM_nn hq hc (by omega))
  rw [if_neg c0]
  by_cases c1 : K 4 p = 1
  · rw [if_pos c1]; exact up1_in (mnF_nn (K 10 9).toNat fun q a _ => bhM_nn hq hc (by omega))
  rw [if_neg c1]
  by_cases c2 : K 4 p = 2
  · rw [if_pos c2]; have := hc (s / 8 * 8 + (K 5 p).toNat) (by omega); exact up1_in (by omega)
  rw [if_neg c2]
  by_cases c3 : K 4 p = 3
  · rw [if_pos c3]; exact up1_in (mnF_nn (K 10 9).toNat fun q a _ => bhT_nn hq hc (by omega) (by omega))
  rw [if_neg c3]
  by_cases c4 : K 4 p = 4
  · rw [if_pos c4]; have := h (by omega) (by omega); split <;> omega
  rw [if_neg c4]
  by_cases c5 : K 4 p = 5
  · rw [if_pos c5]; have := h (by omega) (by omega); split <;> omega
  rw [if_neg c5]
  by_cases c6 : K 4 p = 6
  · rw [if_pos c6]; have := h (by omega) (by omega); split <;> omega
  rw [if_neg c6]
  omega
theorem prT_in {K : MI} {L : MJ} (h : ScP K L) {cp : Nat → Bool} {v : SV} {c : Nat → Int} {pe s : Nat} (hs : s < 320) (hc : CPos c) : 1 ≤ prT K cp v c pe s ∧ prT K cp v c pe s ≤ 1000000 := by
  have := h.2.2.2.2.2.1 _ (kS_lt h.1 hs)
  unfold prT
  split
  · omega
  · exact pr_in h.2.1 h.2.2.1 h.2.2.2.1 hs hc _ (by omega)
theorem up1_at {a w : Int} (h : up1 a = w) (hw : w < 1000000) : a = w - 1 := by
  unfold up1 at h
  split at h <;> omega
theorem mn_att {b : Nat → Bool} {f : Nat → Int} {n : Nat} {w : Int} (h : mnF b f n = w) (hw : w < 1000000) : ∃ q, q < n ∧ b q = true ∧ f q = w := by
  rcases (bs_mn b f n).2 with ⟨-, a⟩ | ⟨q, a1, -, a3, a4, -⟩
  · omega
  · exact ⟨q, a1, a3, a4.trans h⟩
theorem prT_att {K : MI} {L : MJ} (h : ScP K L) {cp : Nat → Bool} {v : SV} {c : Nat → Int} {pe s : Nat} (hs : s < 320) {w : Int} (hw : prT K cp v c pe s = w) (h2 : 2 ≤ w) (h3 : w < 1000000) : ∃ r, r < 320 ∧ c r = w - 1 := by
  have g7 := h.2.2.2.2.2.1 _ (kS_lt h.1 hs)
  obtain ⟨hk, hl, hr, hq, -⟩ := h
  have q0 := hq.1
  unfold prT at hw
  split at hw
  · omega
  have key : ∀ p, p < 64 → ∀ w, pr K cp v c pe s p = w → 2 ≤ w → w < 1000000 → ∃ r, r < 320 ∧ c r = w - 1 := by
    refine pr_ind hl (P := fun _ x => ∀ w, x = w → 2 ≤ w → w < 1000000 → ∃ r, r < 320 ∧ c r = w - 1) fun p hp T h w hw h2 h3 => ?_
    have r := hr p hp
    have hm : ∀ u, up1 (mnF (spB K cp s) (bhM K c pe u) (K 10 9).toNat) = w → ∃ r, r < 320 ∧ c r = w - 1 := by
      intro u e
      obtain ⟨q, a1, a2, a3⟩ := mn_att (up1_at e h3) (by omega)
      have := hq.2 q (by omega)
      unfold bhM at a3
      split at a3
      · split at a3
        · exact ⟨_, by omega, a3⟩
        · split at a3 <;> omega
      · omega
    unfold prS at hw
    by_cases c0 : K 4 p = 0
    · rw [if_pos c0] at hw; exact hm _ hw
    rw [if_neg c0] at hw
    by_cases c1 : K 4 p = 1
    · rw [if_pos c1] at hw; exact hm _ hw
    rw [if_neg c1] at hw
    by_cases c2 : K 4 p = 2
    · rw [if_pos c2] at hw; exact ⟨_, by omega, up1_at hw h3⟩
    rw [if_neg c2] at hw
    by_cases c3 : K 4 p = 3
    · rw [if_pos c3] at hw
      obtain ⟨q, a1, a2, a3⟩ := mn_att (up1_at hw h3) (by omega)
      have := hq.2 q (by omega)
      unfold bhT at a3
      split at a3
      · omega
      · exact ⟨_, by omega, a3⟩
    rw [if_neg c3] at hw
    by_cases c4 : K 4 p = 4
    · rw [if_pos c4] at hw
      have := h (by omega) (by omega)
      split at hw
      · exact this.2 w hw h2 h3
      · exact this.1 w hw h2 h3
    rw [if_neg c4] at hw
    by_cases c5 : K 4 p = 5
    · rw [if_pos c5] at hw
      have := h (by omega) (by omega)
      split at hw
      · exact this.2 w hw h2 h3
      · exact this.1 w hw h2 h3
    rw [if_neg c5] at hw
    by_cases c6 : K 4 p = 6
    · rw [if_pos c6] at hw
      have := h (by omega) (by omega)
      split at hw
      · omega
      · exact this.1 w hw h2 h3
    rw [if_neg c6] at hw
    omega
  exact key _ (by omega) w hw h2 h3
/-! sweeps -/
noncomputable def csF (K : MI) (cp : Nat → Bool) (v : SV) (pe : Nat) : Nat → (Nat → Int) → Nat → Int
  | 0, c => c
  | n + 1, c => if tb (v n) pe = true then ma (csF K cp v pe n c) n (prT K cp v (csF K cp v pe n c) pe n) else csF K cp v pe n c
def cFar : Nat → Int := fun _ => 1000000
noncomputable def cit (K : MI) (cp : Nat → Bool) (v : SV) (pe : Nat) : Nat → Nat → Int
  | 0 => cFar
  | n + 1 => csF K cp v pe 320 (cit K cp v pe n)
theorem csF_out {K : MI} {cp : Nat → Bool} {v : SV} {pe : Nat} {c : Nat → Int} : ∀ n s, n ≤ s → csF K cp v pe n c s = c s
  | 0, _, _ => rfl
  | n + 1, s, h => by
    unfold csF
    split
    · rw [ma_ne _ _ (by omega)]; exact csF_out n s (by omega)
    · exact csF_out n s (by omega)
theorem csF_at {K : MI} {cp : Nat → Bool} {v : SV} {pe : Nat} {c : Nat → Int} : ∀ n s, s < n → csF K cp v pe n c s = if tb (v s) pe = true then prT K cp v (csF K cp v pe s c) pe s else c s
  | 0, _, h => by omega
  | n + 1, s, h => by
    by_cases e : s = n
    · subst e
      show (if tb (v s) pe = true then ma (csF K cp v pe s c) s (prT K cp v (csF K cp v pe s c) pe s) else csF K cp v pe s c) s = _
      split
      · rw [ma_self]
      · exact csF_out s s (Nat.le_refl _)
    · have := csF_at (K := K) (cp := cp) (v := v) (pe := pe) (c := c) n s (by omega)
      rw [← this]
      show (if tb (v n) pe = true then ma (csF K cp v pe n c) n (prT K cp v (csF K cp v pe n c) pe n) else csF K cp v pe n c) s = _
      split
      · rw [ma_ne _ _ e]
      · rfl
theorem csF_mix {K : MI} {cp : Nat → Bool} {v : SV} {pe : Nat} {c : Nat → Int} {n s : Nat} (hs : s < 320) (hn : n ≤ 320) : csF K cp v pe n c s = if s < n then csF K cp v pe 320 c s else c s := by
  split
  · rename_i h
    rw [csF_at n s h, csF_at 320 s hs]
  · exact csF_out n s (by omega)
/-- sweeps only take away -/
def Qc (K : MI) (cp : Nat → Bool) (v : SV) (pe : Nat) (c : Nat → Int) : Prop := CPos c ∧ ∀ s, s < 320 → tb (v s) pe = true → prT K cp v c pe s ≤ c s
theorem Qc.put {K : MI} {L : MJ} (h : ScP K L) {cp : Nat → Bool} {v : SV} {pe : Nat} {c : Nat → Int} (q : Qc K cp v pe c) {n : Nat} (hn : n < 320) (hb : tb (v n) pe = true) : Qc K cp v pe (ma c n (prT K cp v c pe n)) ∧ ∀ s, s < 320 → ma c n (prT K cp v c pe n) s ≤ c s := by
  have dn : ∀ s, s < 320 → ma c n (prT K cp v c pe n) s ≤ c s := by
    intro s hs
    by_cases e : s = n
    · subst e; rw [ma_self]; exact q.2 s hs hb
    · rw [ma_ne _ _ e]; exact Int.le_refl _
  refine ⟨⟨fun s hs => ?_, fun s hs hs2 => ?_⟩, dn⟩
  · by_cases e : s = n
    · subst e; rw [ma_self]; exact prT_in h hs q.1
    · rw [ma_ne _ _ e]; exact q.1 s hs
  · have m := prT_mono (cp := cp) (v := v) (pe := pe) h.2.1 h.2.2.2.2.2.1 h.1 h.2.2.1 h.2.2.2.1 hs dn
    by_cases e : s = n
    · subst e; rw [ma_self]; exact m
    · rw [ma_ne _ _ e]; exact Int.le_trans m (q.2 s hs hs2)
theorem csF_dn {K : MI} {L : MJ} (h : ScP K L) {cp : Nat → Bool} {v : SV} {pe : Nat} {c : Nat → Int} (q : Qc K cp v pe c) : ∀ n, n ≤ 320 → Qc K cp v pe (csF K cp v pe n c) ∧ ∀ s, s < 320 → csF K cp v pe n c s ≤ c s
  | 0, _ => ⟨q, fun _ _ => Int.le_refl _⟩
  | n + 1, hn => by
    obtain ⟨a, b⟩ := csF_dn h q n (by omega)
    unfold csF
    split
    · rename_i e
      obtain ⟨c1, d⟩ := a.put h (by omega) e
      exact ⟨c1, fun s hs => Int.le_trans (d s hs) (b s hs)⟩
    · exact ⟨a, b⟩
theorem cit_q {K : MI} {L : MJ} (h : ScP K L) {cp : Nat → Bool} {v : SV} {pe : Nat} : ∀ k, Qc K cp v pe (cit K cp v pe k)
  | 0 => ⟨fun s _ => by show 1 ≤ (1000000 : Int) ∧ (1000000 : Int) ≤ 1000000; omega, fun s hs _ => (prT_in h hs (fun _ _ => by show 1 ≤ (1000000 : Int) ∧ (1000000 : Int) ≤ 1000000; omega)).2⟩
  | k + 1 => (csF_dn h (cit_q h k) 320 (Nat.le_refl _)).1
theorem cit_dn {K : MI} {L : MJ} (h : ScP K L) {cp : Nat → Bool} {v : SV} {pe : Nat} (k : Nat) : ∀ d s, s < 320 → cit K cp v pe (k + d) s ≤ cit K cp v pe k s
  | 0, _, _ => Int.le_refl _
  | d + 1, s, hs => Int.le_trans ((csF_dn h (cit_q h (k + d)) 320 (Nat.le_refl _)).2 s hs) (cit_dn h k d s hs)
/-- up to z nothing changes behind round z -/
theorem cit_none {K : MI} {cp : Nat → Bool} {v : SV} {pe s : Nat} (hs : s < 320) (hb : ¬ tb (v s) pe = true) : ∀ j, cit K cp v pe j s = 1000000
  | 0 => rfl
  | j + 1 => by
    show csF K cp v pe 320 (cit K cp v pe j) s = _
    rw [csF_at 320 s hs, if_neg hb, cit_none hs hb j]
theorem cit_ag {K : MI} {L : MJ} (h : ScP K L) {cp : Nat → Bool} {v : SV} {pe : Nat} : ∀ z : Nat, (z : Int) < 1000000 → ∀ k, z ≤ k → AgC z (cit K cp v pe k) (cit K cp v pe (k + 1)) := by
  intro z
  induction z with
  | zero =>
    intro _ k _ s hs
    have a := (cit_q h (cp := cp) (v := v) (pe := pe) k).1 s hs
    have b := (cit_q h (cp := cp) (v := v) (pe := pe) (k + 1)).1 s hs
    unfold ag
    omega
  | succ z ih =>
    intro hz k hk s hs
    obtain ⟨k, rfl⟩ : ∃ j, k = j + 1 := ⟨k - 1, by omega⟩
    have i0 := ih (by omega) k (by omega)
    have i1 := ih (by omega) (k + 1) (by omega)
    by_cases hb : tb (v s) pe = true
    · show ag _ (csF K cp v pe 320 (cit K cp v pe k) s) (csF K cp v pe 320 (cit K cp v pe (k + 1)) s)
      rw [csF_at 320 s hs, csF_at 320 s hs, if_pos hb, if_pos hb]
      have e : (((z + 1 : Nat) : Int)) = (z : Int) + 1 := by omega
      rw [e]
      refine prT_ag h.2.1 h.2.2.2.2.2.1 h.1 h.2.2.1 h.2.2.2.1 hs (by omega) fun r hr => ?_
      rw [csF_mix (c := cit K cp v pe k) (n := s) hr (by omega), csF_mix (c := cit K cp v pe (k + 1)) (n := s) hr (by omega)]
      split
      · exact i1 r hr
      · exact i0 r hr
    · rw [cit_none hs hb, cit_none hs hb]
      exact ag.rf _ _
theorem AgC.trans {z : Int} {c d e : Nat → Int} (h : AgC z c d) (g : AgC z d e) : AgC z c e := fun s hs => by
  have a := h s hs
  have b := g s hs
  unfold ag at *
  omega
theorem cit_ags {K : MI} {L : MJ} (h : ScP K L) {cp : Nat → Bool} {v : SV} {pe : Nat} {z : Nat} (hz : (z : Int) < 1000000) {k : Nat} (hk : z ≤ k) : ∀ d, AgC z (cit K cp v pe k) (cit K cp v pe (k + d))
  | 0 => fun _ _ => ag.rf _ _
  | d + 1 => (cit_ags h hz hk d).trans (cit_ag h z hz (k + d) (by omega))
/-- what costs w is behind what costs w - 1 -/
theorem cit_step {K : MI} {L : MJ} (h : ScP K L) {cp : Nat → Bool} {v : SV} {pe : Nat} {k : Nat} {w : Int} (hw : w < 1000000) (h2 : 2 ≤ w) (hk : w ≤ k) {s : Nat} (hs : s < 320) (e : cit K cp v pe (k + 1) s = w) : ∃ r, r < 320 ∧ cit K cp v pe (k + 1) r = w - 1 := by
  have e0 := e
  change csF K cp v pe 320 (cit K cp v pe k) s = w at e
  rw [csF_at 320 s hs] at e
  split at e
  · obtain ⟨r, hr, er⟩ := prT_att h hs e h2 hw
    refine ⟨r, hr, ?_⟩
    rw [csF_mix hr (by omega)] at er
    split at er
    · exact er
    · have a := cit_ag h (cp := cp) (v := v) (pe := pe) (w - 1).toNat (by omega) k (by omega) r hr
      unfold ag at a
      have := a (Or.inl (by omega))
      omega
  · rename_i hb
    rw [cit_none hs hb] at e0
    omega
theorem cit_few {K : MI} {L : MJ} (h : ScP K L) {cp : Nat → Bool} {v : SV} {pe : Nat} {k : Nat} {w : Nat} (hk : w ≤ k) (hw : (w : Int) < 1000000) {s : Nat} (hs : s < 320) (e : cit K cp v pe (k + 1) s = w) : ∀ z : Nat, z ≤ w → (z : Int) ≤ cntF (fun r => decide (cit K cp v pe (k + 1) r ≤ z)) 320
  | 0, _ => (cntF_in _ _).1
  | z + 1, hz => by
    have i := cit_few h hk hw hs e z (by omega)
    -- every value from w down to 1 is there
    have at_ : ∀ d : Nat, d + 1 ≤ w → ∃ r, r < 320 ∧ cit K cp v pe (k + 1) r = ((w - d : Nat) : Int) := by
      intro d
      induction d with
      | zero => intro _; exact ⟨s, hs, e⟩
      | succ d ih =>
        intro hd
        obtain ⟨r, hr, er⟩ := ih (by omega)
        obtain ⟨r2, hr2, er2⟩ := cit_step h (by omega) (by omega) (by omega) hr er
        exact ⟨r2, hr2, by rw [er2]; omega⟩
    obtain ⟨r, hr, er⟩ := at_ (w - (z + 1)) (by omega)
    have : cntF (fun r => decide (cit K cp v pe (k + 1) r ≤ z)) 320 + 1 ≤ cntF (fun r => decide (cit K cp v pe (k + 1) r ≤ ((z + 1 : Nat) : Int))) 320 := by
      apply cntF_lt
      · intro q hq hd
        have := of_decide_eq_true hd
        exact decide_eq_true (by omega)
      · exact ⟨r, hr, decide_eq_false (by omega), decide_eq_true (by omega)⟩
    omega
/-- 320 rounds settle all -/
theorem cit_far {K : MI} {L : MJ} (h : ScP K L) {cp : Nat → Bool} {v : SV} {pe : Nat} {k : Nat} (hk : 999999 ≤ k) {s : Nat} (hs : s < 320) : cit K cp v pe (k + 1) s ≤ 320 ∨ cit K cp v pe (k + 1) s = 1000000 := by
  have q := (cit_q h (cp := cp) (v := v) (pe := pe) (k + 1)).1 s hs
  by_cases e : cit K cp v pe (k + 1) s = 1000000
  · exact Or.inr e
  · left
    obtain ⟨w, ew⟩ : ∃ w : Nat, cit K cp v pe (k + 1) s = w := ⟨(cit K cp v pe (k + 1) s).toNat, by omega⟩
    have f := cit_few h (by omega) (by omega) hs ew w (Nat.le_refl _)
    have g := cntF_in (fun r => decide (cit K cp v pe (k + 1) r ≤ w)) 320
    omega
theorem cit_320 {K : MI} {L : MJ} (h : ScP K L) {cp : Nat → Bool} {v : SV} {pe : Nat} {j : Nat} (hj : 320 ≤ j) {s : Nat} (hs : s < 320) : cit K cp v pe j s = cit K cp v pe (j + 1000000) s := by
  obtain ⟨k, hk⟩ : ∃ k, k + 1 = j + 1000000 := ⟨j + 999999, by omega⟩
  have f := cit_far h (cp := cp) (v := v) (pe := pe) (k := k) (by omega) hs
  have a := cit_ags h (cp := cp) (v := v) (pe := pe) (z := 320) (by omega) hj 1000000 s hs
  have d := cit_dn h (cp := cp) (v := v) (pe := pe) j 1000000 s hs
  have q := (cit_q h (cp := cp) (v := v) (pe := pe) j).1 s hs
  rw [hk] at f
  unfold ag at a
  omega
theorem cit_fix {K : MI} {L : MJ} (h : ScP K L) {cp : Nat → Bool} {v : SV} {pe : Nat} : ∀ s, s < 320 → csF K cp v pe 320 (cit K cp v pe 320) s = cit K cp v pe 320 s := by
  intro s hs
  show cit K cp v pe 321 s = _
  have a := cit_320 h (cp := cp) (v := v) (pe := pe) (j := 320) (by omega) hs
  have b := cit_dn h (cp := cp) (v := v) (pe := pe) 320 1 s hs
  have d := cit_dn h (cp := cp) (v := v) (pe := pe) 321 999999 s hs
  have e : 321 + 999999 = 320 + 1000000 := by omega
  rw [e] at d
  change cit K cp v pe 321 s ≤ _ at b
  omega
/-- the costs -/
noncomputable def cst (K : MI) (cp : Nat → Bool) (v : SV) (pe : Nat) : Nat → Int := cit K cp v pe 320
theorem csF_congr {K : MI} {L : MJ} (h : ScP K L) {cp : Nat → Bool} {v : SV} {pe : Nat} {c d : Nat → Int} (e : ∀ s, s < 320 → c s = d s) : ∀ n, n ≤ 320 → ∀ s, s < 320 → csF K cp v pe n c s = csF K cp v pe n d s
  | 0, _, s, hs => e s hs
  | n + 1, hn, s, hs => by
    have i := csF_congr h (cp := cp) (v := v) (pe := pe) e n (by omega)
    unfold csF
    split
    · by_cases q : s = n
      · subst q
        rw [ma_self, ma_self]
        apply Int.le_antisymm
        · exact prT_mono h.2.1 h.2.2.2.2.2.1 h.1 h.2.2.1 h.2.2.2.1 hs fun r hr => Int.le_of_eq (i r hr)
        · exact prT_mono h.2.1 h.2.2.2.2.2.1 h.1 h.2.2.1 h.2.2.2.1 hs fun r hr => Int.le_of_eq (i r hr).symm
      · rw [ma_ne _ _ q, ma_ne _ _ q]; exact i s hs
    · exact i s hs
theorem cst_more {K : MI} {L : MJ} (h : ScP K L) {cp : Nat → Bool} {v : SV} {pe : Nat} : ∀ d s, s < 320 → cit K cp v pe (320 + d) s = cst K cp v pe s
  | 0, _, _ => rfl
  | d + 1, s, hs => by
    show csF K cp v pe 320 (cit K cp v pe (320 + d)) s = _
    rw [csF_congr h (cst_more h d) 320 (Nat.le_refl _) s hs]
    exact cit_fix h s hs
/-- sweeps that change nothing any more have come to the costs -/
theorem cst_of {K : MI} {L : MJ} (h : ScP K L) {cp : Nat → Bool} {v : SV} {pe : Nat} {k : Nat} (e : ∀ s, s < 320 → cit K cp v pe (k + 1) s = cit K cp v pe k s) : ∀ s, s < 320 → cit K cp v pe k s = cst K cp v pe s := by
  have m : ∀ d s, s < 320 → cit K cp v pe (k + d) s = cit K cp v pe k s := by
    intro d
    induction d with
    | zero => intro s _; rfl
    | succ d ih =>
      intro s hs
      show csF K cp v pe 320 (cit K cp v pe (k + d)) s = _
      rw [csF_congr h ih 320 (Nat.le_refl _) s hs]
      exact e s hs
  intro s hs
  have a := m 320 s hs
  have b := cst_more h (cp := cp) (v := v) (pe := pe) k s hs
  rw [Nat.add_comm] at b
  omega
theorem cst_in {K : MI} {L : MJ} (h : ScP K L) {cp : Nat → Bool} {v : SV} {pe s : Nat} (hs : s < 320) : 1 ≤ cst K cp v pe s ∧ (cst K cp v pe s ≤ 320 ∨ cst K cp v pe s = 1000000) := by
  have q := (cit_q h (cp := cp) (v := v) (pe := pe) 320).1 s hs
  have a := cit_320 h (cp := cp) (v := v) (pe := pe) (j := 320) (by omega) hs
  have f := cit_far h (cp := cp) (v := v) (pe := pe) (k := 320 + 999999) (by omega) hs
  have e : 320 + 999999 + 1 = 320 + 1000000 := by omega
  rw [e, ← a] at f
  exact ⟨q.1, f⟩
theorem cst_pos {K : MI} {L : MJ} (h : ScP K L) {cp : Nat → Bool} {v : SV} {pe : Nat} : CPos (cst K cp v pe) := (cit_q h 320).1
/-- the cost of one who is in is the price -/
theorem cst_eq {K : MI} {L : MJ} (h : ScP K L) {cp : Nat → Bool} {v : SV} {pe s : Nat} (hs : s < 320) : cst K cp v pe s = if tb (v s) pe = true then prT K cp v (cst K cp v pe) pe s else 1000000 := by
  have a := cit_fix h (cp := cp) (v := v) (pe := pe) s hs
  rw [csF_at 320 s hs] at a
  by_cases hb : tb (v s) pe = true
  · rw [if_pos hb] at a ⊢
    show cit K cp v pe 320 s = _
    rw [← a]
    have e : ∀ r, r < 320 → csF K cp v pe s (cit K cp v pe 320) r = cit K cp v pe 320 r := by
      intro r hr
      rw [csF_mix hr (by omega)]
      split
      · exact cit_fix h r hr
      · rfl
    apply Int.le_antisymm
    · exact prT_mono h.2.1 h.2.2.2.2.2.1 h.1 h.2.2.1 h.2.2.2.1 hs fun r hr => Int.le_of_eq (e r hr)
    · exact prT_mono h.2.1 h.2.2.2.2.2.1 h.1 h.2.2.1 h.2.2.2.1 hs fun r hr => Int.le_of_eq (e r hr).symm
  · rw [if_neg hb]
    exact cit_none hs hb 320
