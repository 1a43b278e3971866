/-! ===== who is in: what a place tells, sweeps, levels (no memory, no machine) ===== -/
def orF (f : Nat → Int64) : Nat → Int64
  | 0 => Int64.ofInt 0
  | n + 1 => orF f n ||| f n
theorem tb_orF {f : Nat → Int64} {i : Nat} : ∀ n, tb (orF f n) i = true ↔ ∃ k, k < n ∧ tb (f k) i = true
  | 0 => by
    constructor
    · intro q
      unfold orF at q
      rw [tb_0] at q
      cases q
    · intro q
      obtain ⟨k, hk, -⟩ := q
      omega
  | n + 1 => by
    unfold orF
    rw [tb_or, Bool.or_eq_true, tb_orF n, ex_s]
noncomputable def mkI (P : Nat → Prop) : Int64 := orF (fun k => @ite _ (P k) (Classical.propDecidable _) (bt k) (Int64.ofInt 0)) 64
theorem tb_mkI {P : Nat → Prop} {i : Nat} (hi : i < 64) : tb (mkI P) i = true ↔ P i := by
  unfold mkI
  rw [tb_orF]
  constructor
  · intro q
    obtain ⟨k, hk, q⟩ := q
    split at q
    · rename_i hP
      rw [tb_bt hk] at q
      rw [of_decide_eq_true q]
      exact hP
    · rw [tb_0] at q
      cases q
  · intro hP
    refine ⟨i, hi, ?_⟩
    rw [if_pos hP, tb_bt hi]
    exact decide_eq_true rfl
theorem mkI_eq {P : Nat → Prop} {x : Int64} (h : ∀ i, i < 64 → (tb x i = true ↔ P i)) : x = mkI P := by
  apply tb_ext
  intro i hi
  rw [Bool.eq_iff_iff, h i hi, tb_mkI hi]
abbrev SV : Type := Nat → Int64
def sub (x y : Int64) : Prop := ∀ i, i < 64 → tb x i = true → tb y i = true
theorem sub.refl (x : Int64) : sub x x := fun _ _ h => h
theorem sub.trans {x y z : Int64} (h : sub x y) (g : sub y z) : sub x z := fun i hi q => g i hi (h i hi q)
theorem sub.anti {x y : Int64} (h : sub x y) (g : sub y x) : x = y := tb_ext fun i hi => Bool.eq_iff_iff.mpr ⟨h i hi, g i hi⟩
theorem sub_0 (x : Int64) : sub (Int64.ofInt 0) x := fun i _ q => by rw [tb_0] at q; cases q
theorem sub_or {a b c d : Int64} (h : sub a c) (g : sub b d) : sub (a ||| b) (c ||| d) := by
  intro i hi q
  rw [tb_or, Bool.or_eq_true] at q ⊢
  rcases q with q | q
  · exact Or.inl (h i hi q)
  · exact Or.inr (g i hi q)
theorem sub_and {a b c d : Int64} (h : sub a c) (g : sub b d) : sub (a &&& b) (c &&& d) := by
  intro i hi q
  rw [tb_and, Bool.and_eq_true] at q ⊢
  exact ⟨h i hi q.1, g i hi q.2⟩
theorem sub_not {a b : Int64} (h : sub b a) : sub (a ^^^ Int64.ofInt (-1)) (b ^^^ Int64.ofInt (-1)) := by
  intro i hi q
  rw [tb_not _ hi, Bool.not_eq_true'] at q ⊢
  cases hb : tb b i with
  | false => rfl
  | true => rw [h i hi hb] at q; cases q
def MemB (K : MI) (cp : Nat → Bool) (v : SV) (s : Nat) (u : Bool) (i : Nat) : Prop := ∃ p : Nat, (p : Int) < K 10 9 ∧ cp p = true ∧ K 17 p = s ∧ decide (K 14 p ≠ 0) = u ∧ K 19 p = -1 ∧ ((K 18 p = -1 ∧ (i : Int) = K 13 p) ∨ (K 18 p ≠ -1 ∧ tb (v (K 18 p).toNat) i = true))
def ThrB (K : MI) (cp : Nat → Bool) (v : SV) (s y : Nat) (i : Nat) : Prop := ∃ p : Nat, (p : Int) < K 10 9 ∧ cp p = true ∧ K 17 p = s ∧ K 19 p ≠ -1 ∧ tb (v ((K 19 p).toNat * 8 + y)) i = true
/-- what place p tells at spot s, T being what lower places tell -/
noncomputable def plS (K : MI) (cp : Nat → Bool) (v : SV) (s : Nat) (T : Nat → Int64) (p : Nat) : Int64 :=
  if K 4 p = 0 then mkI (MemB K cp v s false) else if K 4 p = 1 then mkI (MemB K cp v s true) else if K 4 p = 2 then v (s / 8 * 8 + (K 5 p).toNat)
  else if K 4 p = 3 then mkI (ThrB K cp v (s / 8 * 8 + (K 5 p).toNat) (K 6 p).toNat) else if K 4 p = 4 then T (K 5 p).toNat ||| T (K 6 p).toNat
  else if K 4 p = 5 then T (K 5 p).toNat &&& T (K 6 p).toNat else if K 4 p = 6 then T (K 5 p).toNat &&& (T (K 6 p).toNat ^^^ Int64.ofInt (-1)) else Int64.ofInt 0
noncomputable def plV (K : MI) (cp : Nat → Bool) (v : SV) (s : Nat) : Nat → Nat → Int64
  | 0, _ => Int64.ofInt 0
  | f + 1, p => plS K cp v s (plV K cp v s f) p
theorem plS_T {K : MI} {cp : Nat → Bool} {v : SV} {s p : Nat} {T T' : Nat → Int64} (h : 4 ≤ K 4 p → K 4 p ≤ 6 → T (K 5 p).toNat = T' (K 5 p).toNat ∧ T (K 6 p).toNat = T' (K 6 p).toNat) : plS K cp v s T p = plS K cp v s T' p := by
  unfold plS
  by_cases hj : 4 ≤ K 4 p ∧ K 4 p ≤ 6
  · obtain ⟨h1, h2⟩ := h hj.1 hj.2
    rw [h1, h2]
  · rw [if_neg (show ¬ K 4 p = 4 by omega), if_neg (show ¬ K 4 p = 5 by omega), if_neg (show ¬ K 4 p = 6 by omega), if_neg (show ¬ K 4 p = 4 by omega), if_neg (show ¬ K 4 p = 5 by omega), if_neg (show ¬ K 4 p = 6 by omega)]
theorem plV_fuel {K : MI} {cp : Nat → Bool} {v : SV} {s : Nat} (hr : rlOK K) : ∀ f g p, p < f → p < g → p < 64 → plV K cp v s f p = plV K cp v s g p := by
  intro f
  induction f with
  | zero => intro g p h; omega
  | succ f ih =>
    intro g p h1 h2 h3
    obtain ⟨g, rfl⟩ : ∃ k, g = k + 1 := ⟨g - 1, by omega⟩
    show plS K cp v s (plV K cp v s f) p = plS K cp v s (plV K cp v s g) p
    refine plS_T fun a b => ?_
    have := hr p h3 a b
    exact ⟨ih g _ (by omega) (by omega) (by omega), ih g _ (by omega) (by omega) (by omega)⟩
noncomputable def pl (K : MI) (cp : Nat → Bool) (v : SV) (s p : Nat) : Int64 := plV K cp v s 64 p
theorem pl_eq {K : MI} {cp : Nat → Bool} {v : SV} {s p : Nat} (hr : rlOK K) (hp : p < 64) : pl K cp v s p = plS K cp v s (pl K cp v s) p := by
  show plS K cp v s (plV K cp v s 63) p = _
  refine plS_T fun a b => ?_
  have := hr p hp a b
  exact ⟨plV_fuel hr _ _ _ (by omega) (by omega) (by omega), plV_fuel hr _ _ _ (by omega) (by omega) (by omega)⟩
def kS (K : MI) (s : Nat) : Nat := (kn K s).toNat
noncomputable def tellV (K : MI) (cp : Nat → Bool) (v : SV) (s : Nat) : Int64 := if K 7 (kS K s) = -1 then Int64.ofInt 0 else pl K cp v s (K 7 (kS K s)).toNat
noncomputable def swF (K : MI) (cp : Nat → Bool) (lev : Nat → Int) (l : Int) : Nat → SV → SV
  | 0, v => v
  | n + 1, v => if lev (kS K n) = l then ma (swF K cp lev l n v) n (tellV K cp (swF K cp lev l n v) n) else swF K cp lev l n v
noncomputable def swp (K : MI) (cp : Nat → Bool) (lev : Nat → Int) (l : Int) (v : SV) : SV := swF K cp lev l (K 1 1 * 8).toNat v
noncomputable def itr (K : MI) (cp : Nat → Bool) (lev : Nat → Int) (l : Int) : Nat → SV → SV
  | 0, v => v
  | n + 1, v => swp K cp lev l (itr K cp lev l n v)
def Fill (K : MI) (cp : Nat → Bool) (lev : Nat → Int) (l : Int) (v w : SV) : Prop := ∃ k, w = itr K cp lev l k v ∧ swp K cp lev l w = w
theorem itr_fix {K : MI} {cp : Nat → Bool} {lev : Nat → Int} {l : Int} {v : SV} {k : Nat} (h : swp K cp lev l (itr K cp lev l k v) = itr K cp lev l k v) : ∀ m, itr K cp lev l (k + m) v = itr K cp lev l k v
  | 0 => rfl
  | m + 1 => by
    show swp K cp lev l (itr K cp lev l (k + m) v) = _
    rw [itr_fix h m, h]
theorem Fill.uniq {K : MI} {cp : Nat → Bool} {lev : Nat → Int} {l : Int} {v w w' : SV} (h : Fill K cp lev l v w) (h' : Fill K cp lev l v w') : w = w' := by
  obtain ⟨k, rfl, h1⟩ := h
  obtain ⟨m, rfl, h2⟩ := h'
  rcases Nat.le_total k m with q | q
  · obtain ⟨d, rfl⟩ := Nat.le.dest q
    exact (itr_fix h1 d).symm
  · obtain ⟨d, rfl⟩ := Nat.le.dest q
    exact itr_fix h2 d
def v0 : SV := fun _ => Int64.ofInt 0
def SetsR (K : MI) (cp : Nat → Bool) (lev : Nat → Int) : Nat → SV → Prop
  | 0, v => v = v0
  | n + 1, w => ∃ v, SetsR K cp lev n v ∧ Fill K cp lev n v w
theorem SetsR.uniq {K : MI} {cp : Nat → Bool} {lev : Nat → Int} : ∀ {n : Nat} {v w : SV}, SetsR K cp lev n v → SetsR K cp lev n w → v = w
  | 0, v, w, h, g => by
    have h : v = v0 := h
    have g : w = v0 := g
    rw [h, g]
  | n + 1, v, w, h, g => by
    obtain ⟨v1, h1, h2⟩ := h
    obtain ⟨w1, g1, g2⟩ := g
    have e := SetsR.uniq h1 g1
    subst e
    exact h2.uniq g2
theorem swF_none {K : MI} {cp : Nat → Bool} {lev : Nat → Int} {l : Int} {v : SV} : ∀ n, (∀ s, s < n → lev (kS K s) ≠ l) → swF K cp lev l n v = v
  | 0, _ => rfl
  | n + 1, h => by
    unfold swF
    rw [if_neg (h n (by omega)), swF_none n fun s hs => h s (by omega)]
theorem kS_lt {K : MI} (hk : kdOK K) {s : Nat} (hs : s < 320) : kS K s < 48 := by
  have := kn_in hk (s := (s : Int)) (by omega)
  unfold kS
  omega
theorem SetsR.more {K : MI} {cp : Nat → Bool} {lev : Nat → Int} {n : Nat} {v : SV} (hk : kdOK K) (hn : K 1 1 ≤ 40) (hl : ∀ k, k < 48 → lev k < n) (h : SetsR K cp lev n v) : ∀ d, SetsR K cp lev (n + d) v
  | 0 => h
  | d + 1 => ⟨v, SetsR.more hk hn hl h d, 0, rfl, swF_none _ fun s hs => by
      have := hl (kS K s) (kS_lt hk (by omega))
      show lev (kS K s) ≠ ((n + d : Nat) : Int)
      omega⟩
theorem SetsR.same {K : MI} {cp : Nat → Bool} {lev : Nat → Int} {n m : Nat} {v w : SV} (hk : kdOK K) (hn : K 1 1 ≤ 40) (hl : ∀ k, k < 48 → lev k < n) (hm : ∀ k, k < 48 → lev k < m) (h : SetsR K cp lev n v) (g : SetsR K cp lev m w) : v = w := by
  have h1 := h.more hk hn hl m
  have g1 := g.more hk hn hm n
  rw [Nat.add_comm] at g1
  exact h1.uniq g1
/-- the least potential is below 48 -/
theorem LevOK.lt {A T : ED} {u : Nat → Int} (h : LevOK A T u) : ∀ n, n < 48 → 0 ≤ u n ∧ u n < 48 := by
  have hs : stab A T (fun n => cntF (fun k => decide (u k < u n)) 48) := by
    intro n m hn hm
    have s := h.1 n m hn hm
    constructor
    · intro q
      apply cntF_le
      intro k hk hd
      have := of_decide_eq_true hd
      have := s.1 q
      exact decide_eq_true (by omega)
    · intro q
      apply cntF_lt
      · intro k hk hd
        have := of_decide_eq_true hd
        have := s.2 q
        exact decide_eq_true (by omega)
      · have := s.2 q
        exact ⟨m, hm, decide_eq_false (by omega), decide_eq_true (by omega)⟩
  intro n hn
  refine ⟨h.2.1 n hn, ?_⟩
  have h1 := h.2.2 _ hs (fun m hm => (cntF_in _ 48).1) n hn
  have h2 : cntF (fun k => decide (u k < u n)) 48 + 1 ≤ cntF (fun _ => true) 48 := cntF_lt 48 (fun _ _ _ => rfl) ⟨n, hn, decide_eq_false (by omega), rfl⟩
  have h3 : cntF (fun _ => true) 48 = 48 := by decide
  omega
/-- the levels, where there is no ring -/
noncomputable def lvG (A T : ED) : Nat → Int := @dite _ (∃ v, LevOK A T v) (Classical.propDecidable _) (fun h => Classical.choose h) (fun _ _ => 0)
noncomputable def lv (K : MI) (L : MJ) : Nat → Int := lvG (EJ K L) (ET K L)
theorem lv_ok {K : MI} {L : MJ} {v : Nat → Int} (h : LevOK (EJ K L) (ET K L) v) : LevOK (EJ K L) (ET K L) (lv K L) := by
  unfold lv lvG
  rw [dif_pos ⟨v, h⟩]
  exact Classical.choose_spec (p := fun v => LevOK (EJ K L) (ET K L) v) ⟨v, h⟩
theorem lv_eq {K : MI} {L : MJ} {v : Nat → Int} (h : LevOK (EJ K L) (ET K L) v) : ∀ k, k < 48 → v k = lv K L k := h.uniq (lv_ok h)
theorem lv_ring {K : MI} {L : MJ} (h : ¬ ringF K L) : LevOK (EJ K L) (ET K L) (lv K L) := by
  have := Classical.not_not.mp h
  obtain ⟨v, hv⟩ := lev_ex this
  exact lv_ok hv
/-! closures of what is joined and taken -/
theorem sv_self {K : MI} {L : MJ} (h : svOK K L) {p : Nat} (hp : p < 64) : tb (L 8 p) p = true := by
  have q := h p hp
  unfold svEq at q
  have hb : tb (bt p) p = true := by rw [tb_bt hp]; exact decide_eq_true rfl
  by_cases hj : 4 ≤ K 4 p ∧ K 4 p ≤ 6
  · rw [(q.1 hj).1]
    split
    · rw [tb_or, hb]; rfl
    · rw [tb_or, tb_or, hb]; rfl
  · rw [(q.2 hj).1]
    exact hb
theorem sv_8 {K : MI} {L : MJ} (h : svOK K L) {r p : Nat} (hr : r < 64) (hp : p < 64) : tb (L 8 r) p = true ↔ p = r ∨ ((4 ≤ K 4 r ∧ K 4 r ≤ 6) ∧ (tb (L 8 (K 5 r).toNat) p = true ∨ (K 4 r ≠ 6 ∧ tb (L 8 (K 6 r).toNat) p = true))) := by
  have q := h r hr
  unfold svEq at q
  by_cases hj : 4 ≤ K 4 r ∧ K 4 r ≤ 6
  · rw [(q.1 hj).1]
    split
    · rename_i h6
      rw [tb_or, tb_bt hr, Bool.or_eq_true, decide_eq_true_eq]
      simp [h6]
    · rename_i h6
      rw [tb_or, tb_or, tb_bt hr, Bool.or_eq_true, Bool.or_eq_true, decide_eq_true_eq]
      simp [h6, hj, or_assoc]
  · rw [(q.2 hj).1, tb_bt hr, decide_eq_true_eq]
    simp [hj]
theorem sv_9 {K : MI} {L : MJ} (h : svOK K L) {r p : Nat} (hr : r < 64) : tb (L 9 r) p = true ↔ (4 ≤ K 4 r ∧ K 4 r ≤ 6) ∧ (tb (L 9 (K 5 r).toNat) p = true ∨ tb (L 9 (K 6 r).toNat) p = true ∨ (K 4 r = 6 ∧ tb (L 8 (K 6 r).toNat) p = true)) := by
  have q := h r hr
  unfold svEq at q
  by_cases hj : 4 ≤ K 4 r ∧ K 4 r ≤ 6
  · rw [(q.1 hj).2]
    split
    · rename_i h6
      rw [tb_or, tb_or, Bool.or_eq_true, Bool.or_eq_true]
      simp [h6, or_assoc]
    · rename_i h6
      rw [tb_or, Bool.or_eq_true]
      simp [h6, hj]
  · rw [(q.2 hj).2, tb_0]
    simp [hj]
/-- what is asked lies below -/
theorem sv_lt {K : MI} {L : MJ} (h : svOK K L) (hl : rlOK K) : ∀ r, r < 64 → ∀ p, p < 64 → (tb (L 8 r) p = true → p ≤ r) ∧ (tb (L 9 r) p = true → p < r) := by
  intro r
  induction r using Nat.strongRecOn with
  | ind r ih =>
    intro hr p hp
    rw [sv_8 h hr hp, sv_9 h hr]
    constructor
    · intro q
      rcases q with q | ⟨q1, q2⟩
      · omega
      · have l := hl r hr q1.1 q1.2
        rcases q2 with q2 | q2
        · have := (ih _ (by omega) (by omega) p hp).1 q2
          omega
        · have := (ih _ (by omega) (by omega) p hp).1 q2.2
          omega
    · intro q
      obtain ⟨q1, q2⟩ := q
      have l := hl r hr q1.1 q1.2
      rcases q2 with q2 | q2 | q2
      · have := (ih _ (by omega) (by omega) p hp).2 q2
        omega
      · have := (ih _ (by omega) (by omega) p hp).2 q2
        omega
      · have := (ih _ (by omega) (by omega) p hp).1 q2.2
        omega
theorem sv_clo {K : MI} {L : MJ} (h : svOK K L) (hl : rlOK K) : ∀ r, r < 64 → ∀ p, p < 64 → 4 ≤ K 4 p → K 4 p ≤ 6 → (tb (L 8 r) p = true → tb (L 8 r) (K 5 p).toNat = true ∧ (K 4 p ≠ 6 → tb (L 8 r) (K 6 p).toNat = true) ∧ (K 4 p = 6 → tb (L 9 r) (K 6 p).toNat = true)) ∧ (tb (L 9 r) p = true → tb (L 9 r) (K 5 p).toNat = true ∧ tb (L 9 r) (K 6 p).toNat = true) := by
  intro r
  induction r using Nat.strongRecOn with
  | ind r ih =>
    intro hr p hp h4 h6
    have lp := hl p hp h4 h6
    have hx : (K 5 p).toNat < 64 := by omega
    have hy : (K 6 p).toNat < 64 := by omega
    constructor
    · intro q
      rw [sv_8 h hr hp] at q
      rw [sv_8 h hr hx, sv_8 h hr hy, sv_9 h hr]
      rcases q with q | ⟨q1, q2⟩
      · subst q
        refine ⟨Or.inr ⟨⟨h4, h6⟩, Or.inl (sv_self h hx)⟩, fun e => Or.inr ⟨⟨h4, h6⟩, Or.inr ⟨e, sv_self h hy⟩⟩, fun e => ⟨⟨h4, h6⟩, Or.inr (Or.inr ⟨e, sv_self h hy⟩)⟩⟩
      · have l := hl r hr q1.1 q1.2
        rcases q2 with q2 | q2
        · obtain ⟨a, b, c⟩ := (ih _ (by omega) (by omega) p hp h4 h6).1 q2
          exact ⟨Or.inr ⟨q1, Or.inl a⟩, fun e => Or.inr ⟨q1, Or.inl (b e)⟩, fun e => ⟨q1, Or.inl (c e)⟩⟩
        · obtain ⟨a, b, c⟩ := (ih _ (by omega) (by omega) p hp h4 h6).1 q2.2
          exact ⟨Or.inr ⟨q1, Or.inr ⟨q2.1, a⟩⟩, fun e => Or.inr ⟨q1, Or.inr ⟨q2.1, b e⟩⟩, fun e => ⟨q1, Or.inr (Or.inl (c e))⟩⟩
    · intro q
      rw [sv_9 h hr] at q
      rw [sv_9 h hr, sv_9 h hr]
      obtain ⟨q1, q2⟩ := q
      have l := hl r hr q1.1 q1.2
      rcases q2 with q2 | q2 | q2
      · obtain ⟨a, b⟩ := (ih _ (by omega) (by omega) p hp h4 h6).2 q2
        exact ⟨⟨q1, Or.inl a⟩, ⟨q1, Or.inl b⟩⟩
      · obtain ⟨a, b⟩ := (ih _ (by omega) (by omega) p hp h4 h6).2 q2
        exact ⟨⟨q1, Or.inr (Or.inl a)⟩, ⟨q1, Or.inr (Or.inl b)⟩⟩
      · obtain ⟨a, b, c⟩ := (ih _ (by omega) (by omega) p hp h4 h6).1 q2.2
        by_cases e : K 4 p = 6
        · exact ⟨⟨q1, Or.inr (Or.inr ⟨q2.1, a⟩)⟩, ⟨q1, Or.inr (Or.inl (c e))⟩⟩
        · exact ⟨⟨q1, Or.inr (Or.inr ⟨q2.1, a⟩)⟩, ⟨q1, Or.inr (Or.inr ⟨q2.1, b e⟩)⟩⟩
/-! what is read -/
def Rd (K : MI) (cp : Nat → Bool) (s p s' : Nat) : Prop :=
  ((K 4 p = 0 ∨ K 4 p = 1) ∧ ∃ q : Nat, (q : Int) < K 10 9 ∧ cp q = true ∧ K 17 q = s ∧ K 18 q ≠ -1 ∧ s' = (K 18 q).toNat) ∨
  (K 4 p = 2 ∧ s' = s / 8 * 8 + (K 5 p).toNat) ∨
  (K 4 p = 3 ∧ ∃ q : Nat, (q : Int) < K 10 9 ∧ cp q = true ∧ K 17 q = (s / 8 * 8 + (K 5 p).toNat : Nat) ∧ K 19 q ≠ -1 ∧ s' = (K 19 q).toNat * 8 + (K 6 p).toNat)
theorem plS_mono {K : MI} {cp : Nat → Bool} {v w : SV} {s p : Nat} {T T' : Nat → Int64} (hr : ∀ s', Rd K cp s p s' → sub (v s') (w s')) (hx : 4 ≤ K 4 p → K 4 p ≤ 6 → sub (T (K 5 p).toNat) (T' (K 5 p).toNat)) (hy : 4 ≤ K 4 p → K 4 p ≤ 5 → sub (T (K 6 p).toNat) (T' (K 6 p).toNat)) (hz : K 4 p = 6 → sub (T' (K 6 p).toNat) (T (K 6 p).toNat)) : sub (plS K cp v s T p) (plS K cp w s T' p) := by
  unfold plS
  have hm : ∀ u, (K 4 p = 0 ∨ K 4 p = 1) → sub (mkI (MemB K cp v s u)) (mkI (MemB K cp w s u)) := by
    intro u h01 i hi q
    rw [tb_mkI hi] at q ⊢
    obtain ⟨n, a, b, c, d, e, f⟩ := q
    refine ⟨n, a, b, c, d, e, ?_⟩
    rcases f with f | f
    · exact Or.inl f
    · exact Or.inr ⟨f.1, hr _ (Or.inl ⟨h01, n, a, b, c, f.1, rfl⟩) i hi f.2⟩
  by_cases c0 : K 4 p = 0
  · rw [if_pos c0, if_pos c0]; exact hm _ (Or.inl c0)
  rw [if_neg c0, if_neg c0]
  by_cases c1 : K 4 p = 1
  · rw [if_pos c1, if_pos c1]; exact hm _ (Or.inr c1)
  rw [if_neg c1, if_neg c1]
  by_cases c2 : K 4 p = 2
  · rw [if_pos c2, if_pos c2]; exact hr _ (Or.inr (Or.inl ⟨c2, rfl⟩))
  rw [if_neg c2, if_neg c2]
  by_cases c3 : K 4 p = 3
  · rw [if_pos c3, if_pos c3]
    intro i hi q
    rw [tb_mkI hi] at q ⊢
    obtain ⟨n, a, b, c, d, e⟩ := q
    exact ⟨n, a, b, c, d, hr _ (Or.inr (Or.inr ⟨c3, n, a, b, c, d, rfl⟩)) i hi e⟩
  rw [if_neg c3, if_neg c3]
  by_cases c4 : K 4 p = 4
  · rw [if_pos c4, if_pos c4]; exact sub_or (hx (by omega) (by omega)) (hy (by omega) (by omega))
  rw [if_neg c4, if_neg c4]
  by_cases c5 : K 4 p = 5
  · rw [if_pos c5, if_pos c5]; exact sub_and (hx (by omega) (by omega)) (hy (by omega) (by omega))
  rw [if_neg c5, if_neg c5]
  by_cases c6 : K 4 p = 6
  · rw [if_pos c6, if_pos c6]; exact sub_and (hx (by omega) (by omega)) (sub_not (hz c6))
  rw [if_neg c6, if_neg c6]
  exact sub.refl _
/-- the pairs are of spots, and tell clubs and things that are -/
def prOK (K : MI) : Prop := (0 ≤ K 1 1 ∧ K 1 1 ≤ 40) ∧ ∀ q : Nat, (q : Int) < K 10 9 → 0 ≤ K 17 q ∧ K 17 q < K 1 1 * 8 ∧ (K 18 q = -1 ∨ (0 ≤ K 18 q ∧ K 18 q < K 1 1 * 8)) ∧ (K 19 q = -1 ∨ (0 ≤ K 19 q ∧ K 19 q < K 1 1)) ∧ 0 ≤ K 14 q ∧ (K 18 q = -1 → K 19 q = -1 → 0 ≤ K 13 q ∧ K 13 q < 40)
theorem Rd.lt {K : MI} {cp : Nat → Bool} {s p s' : Nat} (hp : p < 64) (hr : rtOK K) (hq : prOK K) (hs : s < 320) (h : Rd K cp s p s') : s' < 320 := by
  have r := hr p hp
  have h0 := hq.1
  rcases h with ⟨-, q, a, -, -, b, rfl⟩ | ⟨e, rfl⟩ | ⟨e, q, a, -, -, b, rfl⟩
  · have := hq.2 q a
    omega
  · omega
  · have := hq.2 q a
    omega
theorem Rd.ask {K : MI} {cp : Nat → Bool} {s p s' : Nat} (hp : p < 64) (hr : rtOK K) (hq : prOK K) (hk : kdOK K) (hm : 0 ≤ K 10 9) (hs : s < 320) (h : Rd K cp s p s') : askQ K (K 10 9).toNat p (kS K s) (kS K s') := by
  have hlt := h.lt hp hr hq hs
  have r := hr p hp
  have h0 := hq.1
  have k1 := kn_in hk (s := (s : Int)) (by omega)
  have k2 := kn_in hk (s := (s' : Int)) (by omega)
  unfold askQ
  rcases h with ⟨e, q, a, -, c, b, rfl⟩ | ⟨e, rfl⟩ | ⟨e, q, a, -, c, b, rfl⟩
  · refine Or.inl ⟨e, q, by omega, b, ?_, ?_⟩
    · rw [c]; unfold kS; omega
    · have := hq.2 q a
      unfold kS
      rw [show (((K 18 q).toNat : Nat) : Int) = K 18 q by omega] at k2 ⊢
      omega
  · refine Or.inr (Or.inl ⟨e, ?_⟩)
    have e1 := r.1 e
    unfold kS
    unfold kn at k1 k2 ⊢
    have e2 : ((s / 8 * 8 + (K 5 p).toNat : Nat) : Int) / 8 = (s : Int) / 8 := by omega
    have e3 : ((s / 8 * 8 + (K 5 p).toNat : Nat) : Int) % 8 = K 5 p := by omega
    rw [e2, e3] at k2 ⊢
    omega
  · refine Or.inr (Or.inr ⟨e, ?_⟩)
    have e1 := r.2 e
    have := hq.2 q a
    have e2 : (((K 19 q).toNat * 8 + (K 6 p).toNat : Nat) : Int) / 8 = K 19 q := by omega
    have e3 : (((K 19 q).toNat * 8 + (K 6 p).toNat : Nat) : Int) % 8 = K 6 p := by omega
    have kk := hk (K 19 q).toNat (by omega)
    refine ⟨(K 2 (K 19 q).toNat).toNat, by omega, ?_⟩
    unfold kS
    unfold kn at k2 ⊢
    rw [e2, e3] at k2 ⊢
    omega
/-- all that scenes stand on -/
def ScP (K : MI) (L : MJ) : Prop := kdOK K ∧ rlOK K ∧ rtOK K ∧ prOK K ∧ 0 ≤ K 10 9 ∧ (∀ n, n < 48 → -1 ≤ K 7 n ∧ K 7 n < 64) ∧ svOK K L ∧ stab (EJ K L) (ET K L) (lv K L) ∧ nng (lv K L)
theorem tellV_mono {K : MI} {L : MJ} (h : ScP K L) {cp : Nat → Bool} {v w : SV} {s : Nat} (hs : s < 320) (hlt : ∀ s', s' < 320 → lv K L (kS K s') < lv K L (kS K s) → v s' = w s') (hle : ∀ s', s' < 320 → lv K L (kS K s') ≤ lv K L (kS K s) → sub (v s') (w s')) : sub (tellV K cp v s) (tellV K cp w s) := by
  obtain ⟨hk, hl, hr, hq, hm, h7, hsv, hst, -⟩ := h
  have hks := kS_lt hk hs
  unfold tellV
  by_cases e : K 7 (kS K s) = -1
  · rw [if_pos e, if_pos e]; exact sub.refl _
  rw [if_neg e, if_neg e]
  obtain ⟨r, er⟩ : ∃ r : Nat, K 7 (kS K s) = r := ⟨(K 7 (kS K s)).toNat, by have := h7 _ hks; omega⟩
  have hr64 : r < 64 := by have := h7 _ hks; omega
  rw [er]
  show sub (pl K cp v s r) (pl K cp w s r)
  have rd : ∀ p, p < 64 → p ≤ r → ∀ s', Rd K cp s p s' → (tb (L 8 r) p = true → sub (v s') (w s')) ∧ (tb (L 9 r) p = true → v s' = w s') := by
    intro p hp hpr s' q
    have a := q.ask hp hr hq hk hm hs
    have b := q.lt hp hr hq hs
    have c := hst (kS K s) (kS K s') hks (kS_lt hk b)
    constructor
    · intro t
      refine hle s' b (c.1 ⟨p, by omega, ?_, a⟩)
      rw [er]; exact t
    · intro t
      have := c.2 ⟨p, by omega, by rw [er]; exact t, a⟩
      exact hlt s' b (by omega)
  have key : ∀ p, p < 64 → p ≤ r → (tb (L 9 r) p = true → pl K cp v s p = pl K cp w s p) ∧ (tb (L 8 r) p = true → sub (pl K cp v s p) (pl K cp w s p)) := by
    intro p
    induction p using Nat.strongRecOn with
    | ind p ih =>
      intro hp hpr
      have ll := fun a b => hl p hp a b
      have cl := sv_clo hsv hl r hr64 p hp
      constructor
      · intro t
        apply sub.anti
        · rw [pl_eq hl hp, pl_eq hl hp]
          refine plS_mono (fun s' q => by rw [(rd p hp hpr s' q).2 t]; exact sub.refl _) (fun a b => ?_) (fun a b => ?_) (fun a => ?_)
          · have := ll a b
            rw [(ih _ (by omega) (by omega) (by omega)).1 ((cl a b).2 t).1]; exact sub.refl _
          · have := ll a (by omega)
            rw [(ih _ (by omega) (by omega) (by omega)).1 ((cl a (by omega)).2 t).2]; exact sub.refl _
          · have := ll (by omega) (by omega)
            rw [(ih _ (by omega) (by omega) (by omega)).1 ((cl (by omega) (by omega)).2 t).2]; exact sub.refl _
        · rw [pl_eq hl hp, pl_eq hl hp]
          refine plS_mono (fun s' q => by rw [(rd p hp hpr s' q).2 t]; exact sub.refl _) (fun a b => ?_) (fun a b => ?_) (fun a => ?_)
          · have := ll a b
            rw [(ih _ (by omega) (by omega) (by omega)).1 ((cl a b).2 t).1]; exact sub.refl _
          · have := ll a (by omega)
            rw [(ih _ (by omega) (by omega) (by omega)).1 ((cl a (by omega)).2 t).2]; exact sub.refl _
          · have := ll (by omega) (by omega)
            rw [(ih _ (by omega) (by omega) (by omega)).1 ((cl (by omega) (by omega)).2 t).2]; exact sub.refl _
      · intro t
        rw [pl_eq hl hp, pl_eq hl hp]
        refine plS_mono (fun s' q => (rd p hp hpr s' q).1 t) (fun a b => ?_) (fun a b => ?_) (fun a => ?_)
        · have := ll a b
          exact (ih _ (by omega) (by omega) (by omega)).2 ((cl a b).1 t).1
        · have := ll a (by omega)
          exact (ih _ (by omega) (by omega) (by omega)).2 (((cl a (by omega)).1 t).2.1 (by omega))
        · have := ll (by omega) (by omega)
          rw [(ih _ (by omega) (by omega) (by omega)).1 (((cl (by omega) (by omega)).1 t).2.2 a)]; exact sub.refl _
  exact (key r hr64 (Nat.le_refl _)).2 (sv_self hsv hr64)
/-! sweeps only add -/
/-- every spot of level l has no more than it is told -/
def Qs (K : MI) (L : MJ) (cp : Nat → Bool) (l : Int) (v : SV) : Prop := ∀ s, s < 320 → lv K L (kS K s) = l → sub (v s) (tellV K cp v s)
theorem Qs.put {K : MI} {L : MJ} (h : ScP K L) {cp : Nat → Bool} {l : Int} {v : SV} (q : Qs K L cp l v) {s : Nat} (hs : s < 320) (hl : lv K L (kS K s) = l) : Qs K L cp l (ma v s (tellV K cp v s)) ∧ ∀ s', sub (v s') (ma v s (tellV K cp v s) s') := by
  have up : ∀ s', sub (v s') (ma v s (tellV K cp v s) s') := by
    intro s'
    by_cases e : s' = s
    · subst e; rw [ma_self]; exact q s' hs hl
    · rw [ma_ne _ _ e]; exact sub.refl _
  refine ⟨fun s' h' hl' => ?_, up⟩
  have t : sub (tellV K cp v s') (tellV K cp (ma v s (tellV K cp v s)) s') := by
    refine tellV_mono h h' (fun s2 h2 lt => ?_) (fun s2 h2 _ => up s2)
    rw [ma_ne]
    intro e
    subst e
    omega
  by_cases e : s' = s
  · subst e; rw [ma_self]; exact t
  · rw [ma_ne _ _ e]; exact (q s' h' hl').trans t
theorem swF_up {K : MI} {L : MJ} (h : ScP K L) {cp : Nat → Bool} {l : Int} {v : SV} (q : Qs K L cp l v) : ∀ n, n ≤ 320 → Qs K L cp l (swF K cp (lv K L) l n v) ∧ ∀ s', sub (v s') (swF K cp (lv K L) l n v s')
  | 0, _ => ⟨q, fun _ => sub.refl _⟩
  | n + 1, hn => by
    obtain ⟨a, b⟩ := swF_up h q n (by omega)
    unfold swF
    split
    · rename_i e
      obtain ⟨c, d⟩ := a.put h (by omega) e
      exact ⟨c, fun s' => (b s').trans (d s')⟩
    · exact ⟨a, b⟩
theorem swF_out {K : MI} {cp : Nat → Bool} {lev : Nat → Int} {l : Int} {v : SV} : ∀ n s, (n ≤ s ∨ lev (kS K s) ≠ l) → swF K cp lev l n v s = v s
  | 0, _, _ => rfl
  | n + 1, s, h => by
    unfold swF
    split
    · rename_i e
      have hne : s ≠ n := by
        intro e2
        subst e2
        rcases h with h | h
        · omega
        · exact h e
      rw [ma_ne _ _ hne]
      exact swF_out n s (h.imp (fun q => by omega) id)
    · exact swF_out n s (h.imp (fun q => by omega) id)
/-- nobody beyond the persons -/
def P40 (v : SV) : Prop := ∀ s, s < 320 → ∀ i, i < 64 → tb (v s) i = true → i < 40
theorem pl_40 {K : MI} {L : MJ} (h : ScP K L) {cp : Nat → Bool} {v : SV} (hv : P40 v) {s : Nat} (hs : s < 320) : ∀ p, p < 64 → ∀ i, i < 64 → tb (pl K cp v s p) i = true → i < 40 := by
  obtain ⟨hk, hl, hr, hq, hm, h7, hsv, hst, -⟩ := h
  intro p
  induction p using Nat.strongRecOn with
  | ind p ih =>
    intro hp i hi t
    have ll := fun a b => hl p hp a b
    have rr := hr p hp
    rw [pl_eq hl hp] at t
    unfold plS at t
    have hm : ∀ u, tb (mkI (MemB K cp v s u)) i = true → i < 40 := by
      intro u t
      rw [tb_mkI hi] at t
      obtain ⟨q, a, b, c, d, e, f⟩ := t
      have w := hq.2 q a
      have w0 := hq.1
      rcases f with f | f
      · have := w.2.2.2.2.2 f.1 e
        omega
      · exact hv _ (by omega) i hi f.2
    by_cases c0 : K 4 p = 0
    · rw [if_pos c0] at t; exact hm _ t
    rw [if_neg c0] at t
    by_cases c1 : K 4 p = 1
    · rw [if_pos c1] at t; exact hm _ t
    rw [if_neg c1] at t
    by_cases c2 : K 4 p = 2
    · rw [if_pos c2] at t; exact hv _ (by omega) i hi t
    rw [if_neg c2] at t
    by_cases c3 : K 4 p = 3
    · rw [if_pos c3, tb_mkI hi] at t
      obtain ⟨q, a, b, c, d, e⟩ := t
      have w := hq.2 q a
      have := hq.1
      exact hv _ (by omega) i hi e
    rw [if_neg c3] at t
    by_cases c4 : K 4 p = 4
    · rw [if_pos c4, tb_or, Bool.or_eq_true] at t
      have := ll (by omega) (by omega)
      rcases t with t | t
      · exact ih _ (by omega) (by omega) i hi t
      · exact ih _ (by omega) (by omega) i hi t
    rw [if_neg c4] at t
    by_cases c5 : K 4 p = 5
    · rw [if_pos c5, tb_and, Bool.and_eq_true] at t
      have := ll (by omega) (by omega)
      exact ih _ (by omega) (by omega) i hi t.1
    rw [if_neg c5] at t
    by_cases c6 : K 4 p = 6
    · rw [if_pos c6, tb_and, Bool.and_eq_true] at t
      have := ll (by omega) (by omega)
      exact ih _ (by omega) (by omega) i hi t.1
    rw [if_neg c6, tb_0] at t
    cases t
theorem tellV_40 {K : MI} {L : MJ} (h : ScP K L) {cp : Nat → Bool} {v : SV} (hv : P40 v) {s : Nat} (hs : s < 320) : ∀ i, i < 64 → tb (tellV K cp v s) i = true → i < 40 := by
  intro i hi t
  unfold tellV at t
  split at t
  · rw [tb_0] at t; cases t
  · rename_i e
    have := h.2.2.2.2.2.1 _ (kS_lt h.1 hs)
    exact pl_40 h hv hs _ (by omega) i hi t
theorem P40.put {K : MI} {L : MJ} (h : ScP K L) {cp : Nat → Bool} {v : SV} (hv : P40 v) {s : Nat} (hs : s < 320) : P40 (ma v s (tellV K cp v s)) := by
  intro s' h' i hi t
  by_cases e : s' = s
  · subst e; rw [ma_self] at t; exact tellV_40 h hv hs i hi t
  · rw [ma_ne _ _ e] at t; exact hv s' h' i hi t
theorem swF_40 {K : MI} {L : MJ} (h : ScP K L) {cp : Nat → Bool} {lev : Nat → Int} {l : Int} {v : SV} (hv : P40 v) : ∀ n, n ≤ 320 → P40 (swF K cp lev l n v)
  | 0, _ => hv
  | n + 1, hn => by
    have := swF_40 h (cp := cp) (lev := lev) (l := l) hv n (by omega)
    unfold swF
    split
    · exact this.put h (by omega)
    · exact this
/-- how many are in, over all spots -/
def bc (v : SV) : Int := cntF (fun k => tb (v (k / 40)) (k % 40)) 12800
theorem bc_in (v : SV) : 0 ≤ bc v ∧ bc v ≤ 12800 := cntF_in _ 12800
theorem bc_lt {v w : SV} (hv : ∀ s, sub (v s) (w s)) (hw : P40 w) (hne : ∃ s, s < 320 ∧ v s ≠ w s) : bc v + 1 ≤ bc w := by
  unfold bc
  apply cntF_lt
  · intro k hk t
    exact hv _ _ (by omega) t
  · obtain ⟨s, hs, ne⟩ := hne
    obtain ⟨i, hi, h1, h2⟩ : ∃ i, i < 64 ∧ tb (v s) i = false ∧ tb (w s) i = true := by
      apply Classical.byContradiction
      intro q
      apply ne
      apply sub.anti (hv s)
      intro i hi t
      cases hb : tb (v s) i with
      | true => rfl
      | false => exact absurd ⟨i, hi, hb, t⟩ q
    have h40 := hw s hs i hi h2
    refine ⟨s * 40 + i, by omega, ?_, ?_⟩
    · rw [show (s * 40 + i) / 40 = s by omega, show (s * 40 + i) % 40 = i by omega]
      exact h1
    · rw [show (s * 40 + i) / 40 = s by omega, show (s * 40 + i) % 40 = i by omega]
      exact h2
/-- what holds behind r sweeps of a level -/
def Sw (K : MI) (L : MJ) (cp : Nat → Bool) (l : Int) (r : Nat) (v : SV) : Prop := Qs K L cp l v ∧ P40 v ∧ (r : Int) ≤ bc v
theorem Sw.step {K : MI} {L : MJ} (h : ScP K L) {cp : Nat → Bool} {l : Int} {r : Nat} {v : SV} (q : Sw K L cp l r v) (hne : swp K cp (lv K L) l v ≠ v) : Sw K L cp l (r + 1) (swp K cp (lv K L) l v) := by
  have hn : (K 1 1 * 8).toNat ≤ 320 := by have := h.2.2.2.1.1; omega
  obtain ⟨a, b⟩ := swF_up h q.1 _ hn
  have c := swF_40 h (cp := cp) (lev := lv K L) (l := l) q.2.1 _ hn
  refine ⟨a, c, ?_⟩
  have : bc v + 1 ≤ bc (swp K cp (lv K L) l v) := by
    refine bc_lt b c ?_
    apply Classical.byContradiction
    intro w
    apply hne
    funext s
    by_cases e : s < 320
    · exact Classical.byContradiction fun e2 => w ⟨s, e, fun e3 => e2 e3.symm⟩
    · exact swF_out _ _ (Or.inl (by omega))
  have := q.2.2
  omega
theorem Sw.few {K : MI} {L : MJ} {cp : Nat → Bool} {l : Int} {r : Nat} {v : SV} (q : Sw K L cp l r v) : r ≤ 12800 := by
  have := q.2.2
  have := bc_in v
  omega
/-- what holds between levels -/
def Bt (K : MI) (L : MJ) (cp : Nat → Bool) (l : Int) (v : SV) : Prop := P40 v ∧ ∀ s, s < 320 → l ≤ lv K L (kS K s) → v s = Int64.ofInt 0
theorem Bt.zero {K : MI} {L : MJ} {cp : Nat → Bool} : Bt K L cp 0 v0 := ⟨(fun s _ i _ t => by unfold v0 at t; rw [tb_0] at t; cases t), fun _ _ _ => rfl⟩
theorem Bt.sw {K : MI} {L : MJ} {cp : Nat → Bool} {l : Int} {v : SV} (h : Bt K L cp l v) : Sw K L cp l 0 v := ⟨fun s hs e => by rw [h.2 s hs (by omega)]; exact sub_0 _, h.1, (bc_in v).1⟩
theorem itr_out {K : MI} {cp : Nat → Bool} {lev : Nat → Int} {l : Int} {v : SV} {s : Nat} (h : lev (kS K s) ≠ l) : ∀ k, itr K cp lev l k v s = v s
  | 0 => rfl
  | k + 1 => by
    show swp K cp lev l (itr K cp lev l k v) s = _
    unfold swp
    rw [swF_out _ _ (Or.inr h), itr_out h k]
theorem Bt.next {K : MI} {L : MJ} {cp : Nat → Bool} {l : Int} {v : SV} (h : Bt K L cp l v) {k : Nat} (h4 : P40 (itr K cp (lv K L) l k v)) : Bt K L cp (l + 1) (itr K cp (lv K L) l k v) :=
  ⟨h4, fun s hs e => by rw [itr_out (by omega)]; exact h.2 s hs (by omega)⟩
