/-! ===== the class: turns that are made ===== -/
/-- like CE, but for what lies behind the pairs and changes, and failing -/
def ER (K I : MI) : Prop := (∀ i, core i = true → (i < 10 ∨ 21 < i) → i ≠ 0 → I i = K i) ∧ (∀ k, k ≠ 12 → I 0 k = K 0 k) ∧ (∀ k, 5 ≤ k → k ≤ 8 → I 44 k = K 44 k) ∧ (∀ i, 52 ≤ i → I i = K i) ∧
  (∀ k, k ≠ 11 → I 10 k = K 10 k) ∧ (∀ i, 11 ≤ i → i ≤ 19 → ∀ p : Nat, (p : Int) < K 10 9 → I i p = K i p) ∧ (∀ c : Nat, (c : Int) < K 10 11 → I 20 c = K 20 c) ∧ ∀ t : Nat, (t : Int) ≤ K 10 13 → I 21 t = K 21 t
def ERx (K I : MI) : Prop := ER K I ∧ I 10 11 = K 10 11
theorem CE.er {K I : MI} (h : CE K I) : ERx K I := by
  have c : ∀ i, 10 ≤ i → i ≤ 21 → I i = K i := fun i a b => h.1 i (by rcases (show i = 10 ∨ i = 11 ∨ i = 12 ∨ i = 13 ∨ i = 14 ∨ i = 15 ∨ i = 16 ∨ i = 17 ∨ i = 18 ∨ i = 19 ∨ i = 20 ∨ i = 21 by omega) with e | e | e | e | e | e | e | e | e | e | e | e <;> (subst e; rfl))
  refine ⟨⟨fun i a _ _ => h.1 i a, fun k _ => by rw [h.1 0 rfl], h.2.1, h.2.2, fun k _ => by rw [c 10 (by omega) (by omega)], fun i a b p _ => by rw [c i (by omega) (by omega)], fun q _ => by rw [c 20 (by omega) (by omega)], fun t _ => by rw [c 21 (by omega) (by omega)]⟩, by rw [c 10 (by omega) (by omega)]⟩
theorem ERx.refl (K : MI) : ERx K K := (CE.refl K).er
theorem ERx.trans {K I I' : MI} (h : ERx K I) (g : ERx I I') : ERx K I' := by
  obtain ⟨⟨a, b, c, d, e, f, j, k⟩, l⟩ := h
  obtain ⟨⟨a', b', c', d', e', f', j', k'⟩, l'⟩ := g
  have e9 := e 9 (by decide)
  have e13 := e 13 (by decide)
  refine ⟨⟨fun i x y z => (a' i x y z).trans (a i x y z), fun i x => (b' i x).trans (b i x), fun i x y => (c' i x y).trans (c i x y), fun i x => (d' i x).trans (d i x), fun i x => (e' i x).trans (e i x), fun i x y p hp => (f' i x y p (by omega)).trans (f i x y p hp), fun i x => (j' i (by omega)).trans (j i x), fun i x => (k' i (by omega)).trans (k i x)⟩, l'.trans l⟩
theorem ER.ma {K I : MI} {i k : Nat} {v : Int} (h : ER K I) (hc : core i = true) (hi : i < 10 ∨ 21 < i) : ER (ma K i (ma (K i) k v)) (ma I i (ma (I i) k v)) := by
  obtain ⟨a, b, c, d, e, f, j, l⟩ := h
  have cn := core_ne hc
  refine ⟨fun i' x y z => ?_, fun k' x => ?_, fun k' x y => ?_, fun i' x => ?_, fun k' x => ?_, fun i' x y p hp => ?_, fun c' hc' => ?_, fun t ht => ?_⟩
  · by_cases q : i' = i
    · subst q; rw [ma_self, ma_self, a i' x y z]
    · rw [ma_ne _ _ q, ma_ne _ _ q]; exact a i' x y z
  · by_cases q : 0 = i
    · subst q; rw [ma_self, ma_self]
      by_cases q2 : k' = k
      · subst q2; rw [ma_self, ma_self]
      · rw [ma_ne _ _ q2, ma_ne _ _ q2]; exact b k' x
    · rw [ma_ne _ _ q, ma_ne _ _ q]; exact b k' x
  · rw [ma_ne _ _ (show 44 ≠ i by omega), ma_ne _ _ (show 44 ≠ i by omega)]; exact c k' x y
  · rw [ma_ne _ _ (show i' ≠ i by omega), ma_ne _ _ (show i' ≠ i by omega)]; exact d i' x
  · rw [ma_ne _ _ (show 10 ≠ i by omega), ma_ne _ _ (show 10 ≠ i by omega)]; exact e k' x
  · rw [ma_ne _ _ (show 10 ≠ i by omega)] at hp
    rw [ma_ne _ _ (show i' ≠ i by omega), ma_ne _ _ (show i' ≠ i by omega)]; exact f i' x y p hp
  · rw [ma_ne _ _ (show 10 ≠ i by omega)] at hc'
    rw [ma_ne _ _ (show 20 ≠ i by omega), ma_ne _ _ (show 20 ≠ i by omega)]; exact j c' hc'
  · rw [ma_ne _ _ (show 10 ≠ i by omega)] at ht
    rw [ma_ne _ _ (show 21 ≠ i by omega), ma_ne _ _ (show 21 ≠ i by omega)]; exact l t ht
theorem ERx.ma {K I : MI} {i k : Nat} {v : Int} (h : ERx K I) (hc : core i = true) (hi : i < 10 ∨ 21 < i) : ERx (ma K i (ma (K i) k v)) (ma I i (ma (I i) k v)) :=
  ⟨h.1.ma hc hi, by rw [ma_ne _ _ (show 10 ≠ i by omega), ma_ne _ _ (show 10 ≠ i by omega)]; exact h.2⟩
theorem ERx.rf {K I : MI} (h : ERx K I) (z : Int) : ERx (rfU K z) (rfU I z) := by
  have := h.ma (i := 51) (k := (-2 - z).toNat) (v := K 51 (-2 - z).toNat + 1) rfl (by omega)
  unfold rfU
  rw [h.1.1 51 rfl (by omega) (by omega)] at this ⊢
  exact this
theorem er_f12 {K I : MI} {v : Int} (h : ER K I) : ER K (ma I 0 (ma (I 0) 12 v)) := by
  obtain ⟨a, b, c, d, e, f, j, l⟩ := h
  refine ⟨fun i' x y z => ?_, fun k' x => ?_, fun k' x y => ?_, fun i' x => ?_, fun k' x => ?_, fun i' x y p hp => ?_, fun c' hc' => ?_, fun t ht => ?_⟩
  · rw [ma_ne _ _ z]; exact a i' x y z
  · rw [ma_self, ma_ne _ _ x]; exact b k' x
  · rw [ma_ne _ _ (show 44 ≠ 0 by omega)]; exact c k' x y
  · rw [ma_ne _ _ (show i' ≠ 0 by omega)]; exact d i' x
  · rw [ma_ne _ _ (show 10 ≠ 0 by omega)]; exact e k' x
  · rw [ma_ne _ _ (show i' ≠ 0 by omega)]; exact f i' x y p hp
  · rw [ma_ne _ _ (show 20 ≠ 0 by omega)]; exact j c' hc'
  · rw [ma_ne _ _ (show 21 ≠ 0 by omega)]; exact l t ht
theorem aoU_ch (K : MI) (a : Nat) : aoU K a 10 11 = K 10 11 + 1 := by
  unfold aoU
  split
  · exact (remU_v K _).2.2.2.1
  · exact (addU_v K _ _ _ _).2.2.2.2.2.2.2.2.2.2.2.2.1
theorem runU_ch (K : MI) : ∀ a : Nat, runU K a 10 11 = K 10 11 + a
  | 0 => by show K 10 11 = K 10 11 + (0 : Int); omega
  | a + 1 => by
    show aoU (runU K a) a 10 11 = _
    rw [aoU_ch, runU_ch K a]
    push_cast
    omega
/-- taking one change back -/
theorem undo_step {K I : MI} {a : Nat} (hO : WOp K) (hb : aoB K a = true) (h : ER (aoU K a) I) : ∃ c : Nat, K 10 11 = c ∧ ((I 20 c % 2 = 1 ∧ 0 ≤ I 20 c / 2 ∧ I 20 c / 2 < 400 ∧ ER K (ma I 16 (ma (I 16) (I 20 c / 2).toNat (-1)))) ∨ (I 20 c % 2 = 0 ∧ ER K (ma I 10 (ma (I 10) 9 (I 10 9 - 1))))) ∧ 0 ≤ I 20 c := by
  have hs := cS_in K (K 10 9).toNat
  obtain ⟨c, hc⟩ : ∃ c : Nat, K 10 11 = c := ⟨(K 10 11).toNat, by have := hO.1; have := hO.2.2.1; omega⟩
  refine ⟨c, hc, ?_⟩
  have hO1 := hO.1
  unfold aoB at hb
  unfold aoU at h
  split at hb
  · rename_i e26
    rw [if_pos e26] at h
    have b1 := of_decide_eq_true hb
    rcases stF_in (K := K) (th := K 23 a) (rl := K 24 a) (u := K 25 a) hO1.1 with q | ⟨q1, q2, q3⟩
    · exact absurd q b1
    obtain ⟨p, hp⟩ : ∃ p : Nat, stF K (K 23 a) (K 24 a) (K 25 a) = p := ⟨(stF K (K 23 a) (K 24 a) (K 25 a)).toNat, by omega⟩
    rw [hp] at h q1 q2 q3
    have q4 := (of_decide_eq_true q3).1
    rw [show ((p : Int)).toNat = p from rfl] at q4
    obtain ⟨v0, v16, v20, w11, w⟩ := remU_v K (p : Int)
    obtain ⟨x1, x2, x3, x4, x5, x6, x7, x8⟩ := h
    have n20 : I 20 c = 2 * p + 1 := by
      rw [x7 c (by rw [w11]; omega), v20, hc]
      exact ma_self _ _ _
    have ep : I 20 c / 2 = p := by omega
    refine ⟨Or.inl ⟨by omega, by omega, by omega, ?_⟩, by omega⟩
    rw [ep, show ((p : Int)).toNat = p from rfl]
    have w9 := w 9 (by decide)
    have w13 := w 13 (by decide)
    refine ⟨fun i y z t => ?_, fun k y => ?_, fun k y z => ?_, fun i y => ?_, fun k y => ?_, fun i y z r hr => ?_, fun d hd => ?_, fun t ht => ?_⟩
    · rw [ma_ne _ _ (show i ≠ 16 by omega), x1 i y z t, v0 i (by omega) (by omega) (by omega)]
    · rw [ma_ne _ _ (show 0 ≠ 16 by decide), x2 k y, v0 0 (by omega) (by omega) (by omega)]
    · rw [ma_ne _ _ (show 44 ≠ 16 by decide), x3 k y z, v0 44 (by omega) (by omega) (by omega)]
    · rw [ma_ne _ _ (show i ≠ 16 by omega), x4 i y, v0 i (by omega) (by omega) (by omega)]
    · rw [ma_ne _ _ (show 10 ≠ 16 by decide), x5 k y, w k y]
    · by_cases e : i = 16
      · subst e
        rw [ma_self]
        by_cases e2 : r = p
        · subst e2; rw [ma_self, q4]
        · rw [ma_ne _ _ e2, x6 16 y z r (by rw [w9]; exact hr), v16, show ((p : Int)).toNat = p from rfl, ma_ne _ _ e2]
      · rw [ma_ne _ _ e, x6 i y z r (by rw [w9]; exact hr), v0 i (by omega) e (by omega)]
    · rw [ma_ne _ _ (show 20 ≠ 16 by decide), x7 d (by rw [w11]; omega), v20, hc, show ((c : Int)).toNat = c from rfl, ma_ne _ _ (show d ≠ c by omega)]
    · rw [ma_ne _ _ (show 21 ≠ 16 by decide), x8 t (by rw [w13]; exact ht), v0 21 (by omega) (by omega) (by omega)]
  · rename_i e26
    rw [if_neg e26] at h
    obtain ⟨v0, v11, v12, v13, v14, v15, v16, v17, v18, v19, v20, w9, w11, w⟩ := addU_v K (K 23 a) (K 24 a) (K 25 a) (K 26 a)
    obtain ⟨x1, x2, x3, x4, x5, x6, x7, x8⟩ := h
    have n20 : I 20 c = 2 * K 10 9 := by
      rw [x7 c (by rw [w11]; omega), v20, hc]
      exact ma_self _ _ _
    obtain ⟨m, hm⟩ : ∃ m : Nat, K 10 9 = m := ⟨(K 10 9).toNat, by omega⟩
    have w13 := w 13 (by decide) (by decide)
    refine ⟨Or.inr ⟨by omega, ?_⟩, by omega⟩
    refine ⟨fun i y z t => ?_, fun k y => ?_, fun k y z => ?_, fun i y => ?_, fun k y => ?_, fun i y z r hr => ?_, fun d hd => ?_, fun t ht => ?_⟩
    · rw [ma_ne _ _ (show i ≠ 10 by omega), x1 i y z t, v0 i (by omega) (by omega) (by omega) (by omega) (by omega) (by omega) (by omega) (by omega) (by omega) (by omega) (by omega)]
    · rw [ma_ne _ _ (show 0 ≠ 10 by decide), x2 k y, v0 0 (by omega) (by omega) (by omega) (by omega) (by omega) (by omega) (by omega) (by omega) (by omega) (by omega) (by omega)]
    · rw [ma_ne _ _ (show 44 ≠ 10 by decide), x3 k y z, v0 44 (by omega) (by omega) (by omega) (by omega) (by omega) (by omega) (by omega) (by omega) (by omega) (by omega) (by omega)]
    · rw [ma_ne _ _ (show i ≠ 10 by omega), x4 i y, v0 i (by omega) (by omega) (by omega) (by omega) (by omega) (by omega) (by omega) (by omega) (by omega) (by omega) (by omega)]
    · rw [ma_self]
      by_cases e : k = 9
      · subst e; rw [ma_self, x5 9 (by decide), w9]; omega
      · rw [ma_ne _ _ e, x5 k y, w k e y]
    · rw [ma_ne _ _ (show i ≠ 10 by omega), x6 i y z r (by rw [w9]; omega)]
      have hrm : r ≠ (K 10 9).toNat := by omega
      rcases (show i = 11 ∨ i = 12 ∨ i = 13 ∨ i = 14 ∨ i = 15 ∨ i = 16 ∨ i = 17 ∨ i = 18 ∨ i = 19 by omega) with q | q | q | q | q | q | q | q | q
      · subst q; rw [v11, ma_ne _ _ hrm]
      · subst q; rw [v12, ma_ne _ _ hrm]
      · subst q; rw [v13, ma_ne _ _ hrm]
      · subst q; rw [v14, ma_ne _ _ hrm]
      · subst q; rw [v15, ma_ne _ _ hrm]
      · subst q; rw [v16, ma_ne _ _ hrm]
      · subst q; rw [v17, ma_ne _ _ hrm]
      · subst q; rw [v18, ma_ne _ _ hrm]
      · subst q; rw [v19, ma_ne _ _ hrm]
    · rw [ma_ne _ _ (show 20 ≠ 10 by decide), x7 d (by rw [w11]; omega), v20, hc, show ((c : Int)).toNat = c from rfl, ma_ne _ _ (show d ≠ c by omega)]
    · rw [ma_ne _ _ (show 21 ≠ 10 by decide), x8 t (by rw [w13]; exact ht), v0 21 (by omega) (by omega) (by omega) (by omega) (by omega) (by omega) (by omega) (by omega) (by omega) (by omega) (by omega)]
theorem l_drop {N : Nat} {J : MJ} {K : MI} {n : Nat} {c0 t0 : Nat} (hc0 : K 10 11 = c0) (ht0 : K 10 13 = t0) (ht2 : t0 ≤ 199) (hu : K 21 t0 = c0) (hO : ∀ b, b ≤ n → WOp (runU K b)) (hB : ∀ b, b < n → aoB (runU K b) b = true) : ∀ (b : Nat) (I' : MI), b ≤ n → ER (runU K b) I' → V 32 (7, [some (aR 10), some (aI (((c0 + b : Nat) : Int) - 1))], [], MM N I' J) (fun r M' => r = none ∧ ∃ I9, M' = MM N I9 J ∧ ERx K I9 ∧ I9 0 = I' 0) := by
  intro b
  induction b with
  | zero =>
    intro I' hb h
    have h13 : I' 10 13 = t0 := by rw [h.2.2.2.2.1 13 (by decide)]; exact ht0
    have h21 : I' 21 t0 = c0 := by rw [h.2.2.2.2.2.2.2 t0 (by show (t0 : Int) ≤ K 10 13; omega)]; exact hu
    have h21b : I' 21 (I' 10 13).toNat = c0 := by rw [h13]; exact h21
    have hc8 : c0 ≤ 800 := by
      have a := hO 0 (by omega)
      have b := cS_in K (K 10 9).toNat
      have c : K 10 11 = K 10 9 + cS K (K 10 9).toNat := a.2.2.1
      have d : 0 ≤ K 10 9 ∧ K 10 9 ≤ 400 := a.1
      omega
    show V 32 (7, [some (aR 10), some (aI ((c0 : Int) - 1))], [], MM N I' J) (fun r M' => r = none ∧ ∃ I9, M' = MM N I9 J ∧ ERx K I9 ∧ I9 0 = I' 0)
    refine V.blk [(7, .iload 1, 1), (8, .aload 0, 1), (9, .getfield 3012, 3), (12, .aload 0, 1), (13, .getfield 3013, 3), (16, .iaload, 1), (17, .if_icmp .lt 65, 3)] (ps := [0 ≤ (I' 10 13) ∧ (I' 10 13) < 201]) (z' := (brc .lt ((c0 : Int) - 1) (I' 21 ((I' 10 13).toNat)) 65 20, [some (aR 10), some (aI ((c0 : Int) - 1))], [], MM N I' J)) (by decide +kernel) rfl (show (0 ≤ (I' 10 13) ∧ (I' 10 13) < 201) from (by omega)) ?_
    refine V.lt (fun bh1 => ?_) (fun bh2 => ?_)
    · skip
      refine V.blk [(65, .aload 0, 1), (66, .aload 0, 1), (67, .getfield 3012, 3), (70, .aload 0, 1), (71, .getfield 3013, 3), (74, .iaload, 1), (75, .putfield 3011, 3)] (ps := [0 ≤ (I' 10 13) ∧ (I' 10 13) < 201]) (z' := (78, [some (aR 10), some (aI ((c0 : Int) - 1))], [], MM N (ma I' 10 (ma (I' 10) 11 (I' 21 ((I' 10 13).toNat)))) J)) (by decide +kernel) rfl (show (0 ≤ (I' 10 13) ∧ (I' 10 13) < 201) from (by omega)) ?_
      refine V.nI (fun I3 eI3 => ?_)
      refine V.rv (by decide +kernel) ?_
      refine ⟨rfl, _, rfl, ⟨?_, ?_⟩, by subst eI3; exact ma_ne _ _ (by decide)⟩
      · subst eI3
        obtain ⟨x1, x2, x3, x4, x5, x6, x7, x8⟩ := h
        refine ⟨fun i y z t => ?_, fun k y => ?_, fun k y z => ?_, fun i y => ?_, fun k y => ?_, fun i y z r hr => ?_, fun d hd => ?_, fun t ht => ?_⟩
        · rw [ma_ne _ _ (show i ≠ 10 by omega)]; exact x1 i y z t
        · rw [ma_ne _ _ (show 0 ≠ 10 by decide)]; exact x2 k y
        · rw [ma_ne _ _ (show 44 ≠ 10 by decide)]; exact x3 k y z
        · rw [ma_ne _ _ (show i ≠ 10 by omega)]; exact x4 i y
        · rw [ma_self, ma_ne _ _ y]; exact x5 k y
        · rw [ma_ne _ _ (show i ≠ 10 by omega)]; exact x6 i y z r hr
        · rw [ma_ne _ _ (show 20 ≠ 10 by decide)]; exact x7 d hd
        · rw [ma_ne _ _ (show 21 ≠ 10 by decide)]; exact x8 t ht
      · subst eI3
        rw [ma_self, ma_self, h21b, hc0]
    · skip
      exfalso; omega
  | succ b ih =>
    intro I' hb h
    have h13 : I' 10 13 = t0 := by rw [h.2.2.2.2.1 13 (by decide), runU_10 K (by decide) (by decide)]; exact ht0
    have h13b : runU K (b + 1) 10 13 = t0 := by rw [runU_10 K (by decide) (by decide)]; exact ht0
    have h21 : I' 21 t0 = c0 := by rw [h.2.2.2.2.2.2.2 t0 (by omega), runU_ne K (by omega)]; exact hu
    have h21b : I' 21 (I' 10 13).toNat = c0 := by rw [h13]; exact h21
    obtain ⟨c, hc, hu, hnn⟩ := undo_step (hO b (by omega)) (hB b (by omega)) h
    have hch := runU_ch K b
    have ec : c = c0 + b := by omega
    subst ec
    have hm9 : 0 ≤ I' 10 9 ∧ I' 10 9 ≤ 400 := by
      have := (hO (b + 1) hb).1
      rw [h.2.2.2.2.1 9 (by decide)]
      exact this
    have hc8 : c0 + b < 800 := by
      have a := hO (b + 1) hb
      have b1 := cS_in (runU K (b + 1)) (runU K (b + 1) 10 9).toNat
      have c1 := a.2.2.1
      have d1 := a.1
      have e1 := runU_ch K (b + 1)
      push_cast at e1
      omega
    rw [show ((c0 + (b + 1) : Nat) : Int) - 1 = ((c0 + b : Nat) : Int) by omega]
    have ih2 : ∀ I2, ER (runU K b) I2 → V 32 (7, [some (aR 10), some (aI (((c0 + b : Nat) : Int) + (-1)))], [], MM N I2 J) (fun r M' => r = none ∧ ∃ I9, M' = MM N I9 J ∧ ERx K I9 ∧ I9 0 = I2 0) := fun I2 g => ih I2 (by omega) g
    refine V.blk [(7, .iload 1, 1), (8, .aload 0, 1), (9, .getfield 3012, 3), (12, .aload 0, 1), (13, .getfield 3013, 3), (16, .iaload, 1), (17, .if_icmp .lt 65, 3)] (ps := [0 ≤ (I' 10 13) ∧ (I' 10 13) < 201]) (z' := (brc .lt ((c0 + b : Nat) : Int) (I' 21 ((I' 10 13).toNat)) 65 20, [some (aR 10), some (aI ((c0 + b : Nat) : Int))], [], MM N I' J)) (by decide +kernel) rfl (show (0 ≤ (I' 10 13) ∧ (I' 10 13) < 201) from (by first | omega | (rcases hu with hu | hu <;> omega))) ?_
    refine V.lt (fun bh1 => ?_) (fun bh2 => ?_)
    · skip
      exfalso; omega
    · skip
      refine V.blk [(20, .aload 0, 1), (21, .getfield 3010, 3), (24, .iload 1, 1), (25, .iaload, 1), (26, .bipush 1, 1), (27, .iand, 1), (28, .bipush 1, 1), (29, .if_icmp .ne 49, 3)] (ps := [0 ≤ ((c0 + b : Nat) : Int) ∧ ((c0 + b : Nat) : Int) < 800, 1 = 1 ∨ 1 = 63 ∨ 1 = 127]) (z' := (brc .ne ((I' 20 (c0 + b)) % (1 + 1)) 1 49 32, [some (aR 10), some (aI ((c0 + b : Nat) : Int))], [], MM N I' J)) (by decide +kernel) rfl (show (0 ≤ ((c0 + b : Nat) : Int) ∧ ((c0 + b : Nat) : Int) < 800) ∧ (1 = 1 ∨ 1 = 63 ∨ 1 = 127) from ⟨(by first | omega | (rcases hu with hu | hu <;> omega)), (by first | omega | (rcases hu with hu | hu <;> omega))⟩) ?_
      refine V.ne (fun bh3 => ?_) (fun bh4 => ?_)
      · skip
        refine V.blk [(49, .aload 0, 1), (50, .dup, 1), (51, .getfield 3009, 3), (54, .bipush 1, 1), (55, .isub, 1), (56, .putfield 3009, 3), (59, .iinc 1 (-1), 3), (62, .goto 7, 3)] (ps := [inR ((I' 10 9) - 1), inR (((c0 + b : Nat) : Int) + (-1))]) (z' := (7, [some (aR 10), some (aI (((c0 + b : Nat) : Int) + (-1)))], [], MM N (ma I' 10 (ma (I' 10) 9 ((I' 10 9) - 1))) J)) (by decide +kernel) rfl (show (inR ((I' 10 9) - 1)) ∧ (inR (((c0 + b : Nat) : Int) + (-1))) from ⟨(by unfold inR; first | omega | (rcases hu with hu | hu <;> omega)), (by unfold inR; first | omega | (rcases hu with hu | hu <;> omega))⟩) ?_
        refine V.nI (fun I5 eI5 => ?_)
        have hz : I5 0 = I' 0 := by subst eI5; exact ma_ne _ _ (by decide)
        rw [← hz]
        refine ih2 _ ?_
        subst eI5
        rcases hu with hu | hu
        · first
            | exact hu.2.2.2
            | (exfalso; omega)
        · first
            | exact hu.2
            | (exfalso; omega)
      · skip
        refine V.blk [(32, .aload 0, 1), (33, .getfield 3005, 3), (36, .aload 0, 1), (37, .getfield 3010, 3), (40, .iload 1, 1), (41, .iaload, 1), (42, .bipush 1, 1), (43, .ishr, 1), (44, .bipush (-1), 1), (45, .iastore, 1), (46, .goto 59, 3), (59, .iinc 1 (-1), 3), (62, .goto 7, 3)] (ps := [0 ≤ ((c0 + b : Nat) : Int) ∧ ((c0 + b : Nat) : Int) < 800, 1 = 1, 0 ≤ ((I' 20 (c0 + b)) / 2) ∧ ((I' 20 (c0 + b)) / 2) < 400, inR (((c0 + b : Nat) : Int) + (-1))]) (z' := (7, [some (aR 10), some (aI (((c0 + b : Nat) : Int) + (-1)))], [], MM N (ma I' 16 (ma (I' 16) (((I' 20 (c0 + b)) / 2).toNat) (-1))) J)) (by decide +kernel) rfl (show (0 ≤ ((c0 + b : Nat) : Int) ∧ ((c0 + b : Nat) : Int) < 800) ∧ (1 = 1) ∧ (0 ≤ ((I' 20 (c0 + b)) / 2) ∧ ((I' 20 (c0 + b)) / 2) < 400) ∧ (inR (((c0 + b : Nat) : Int) + (-1))) from ⟨(by first | omega | (rcases hu with hu | hu <;> omega)), (by first | omega | (rcases hu with hu | hu <;> omega)), (by first | omega | (rcases hu with hu | hu <;> omega)), (by unfold inR; first | omega | (rcases hu with hu | hu <;> omega))⟩) ?_
        refine V.nI (fun I6 eI6 => ?_)
        have hz : I6 0 = I' 0 := by subst eI6; exact ma_ne _ _ (by decide)
        rw [← hz]
        refine ih2 _ ?_
        subst eI6
        rcases hu with hu | hu
        · first
            | exact hu.2.2.2
            | (exfalso; omega)
        · first
            | exact hu.2
            | (exfalso; omega)
theorem c_drop {N : Nat} {J : MJ} {K : MI} {n : Nat} {c0 t0 : Nat} (hc0 : K 10 11 = c0) (ht0 : K 10 13 = t0) (ht2 : t0 ≤ 199) (hu : K 21 t0 = c0) (hO : ∀ b, b ≤ n → WOp (runU K b)) (hB : ∀ b, b < n → aoB (runU K b) b = true) {I' : MI} (h : ER (runU K n) I') (hcn : I' 10 11 = runU K n 10 11) : CT 32 [aR 10] (MM N I' J) (fun r M' => r = none ∧ ∃ I9, M' = MM N I9 J ∧ ERx K I9 ∧ I9 0 = I' 0) := by
  have hch := runU_ch K n
  have hc8 : c0 + n ≤ 800 := by
    have a := hO n (Nat.le_refl _)
    have b1 := cS_in (runU K n) (runU K n 10 9).toNat
    have c1 := a.2.2.1
    have d1 := a.1
    omega
  refine CT.ofV (n := 2) (ls := [some (aR 10), none]) rfl rfl rfl ?_
  refine V.blk [(0, .aload 0, 1), (1, .getfield 3011, 3), (4, .bipush 1, 1), (5, .isub, 1), (6, .istore 1, 1)] (ps := [inR ((I' 10 11) - 1)]) (z' := (7, [some (aR 10), some (aI ((I' 10 11) - 1))], [], MM N I' J)) (by decide +kernel) rfl (show (inR ((I' 10 11) - 1)) from (by unfold inR; omega)) ?_
  rw [show I' 10 11 - 1 = ((c0 + n : Nat) : Int) - 1 by omega]
  exact l_drop hc0 ht0 ht2 hu hO hB n I' (Nat.le_refl _) h
def cdB (K : MI) (c : Nat) : Bool := decide (stF K (K 27 c) (K 28 c) (K 29 c) ≠ -1) != decide (K 30 c = 1)
def cdF (K : MI) : Int := fndF (cdB K) (K 22 9).toNat
def acF (K : MI) : Int := fndF (fun a => !aoB (runU K a) a) (K 22 4).toNat
/-- what perform answers -/
def perfA (K : MI) : Int := if cdF K ≠ -1 then cdF K else if acF K ≠ -1 then 100 + acF K else -1
/-- how many acts are done -/
def perfN (K : MI) : Nat := if cdF K ≠ -1 then 0 else if acF K ≠ -1 then (acF K).toNat else (K 22 4).toNat
theorem perf_ok {K : MI} (hd : 0 ≤ K 22 4) : (∀ b, b < perfN K → aoB (runU K b) b = true) ∧ (perfN K : Int) ≤ K 22 4 ∧ (perfA K = -1 → perfN K = (K 22 4).toNat) := by
  unfold perfN perfA
  split
  · rename_i h
    rcases fndF_cases (cdB K) (K 22 9).toNat with ⟨a, -⟩ | ⟨k, a, b, -⟩
    · exact absurd a h
    · exact ⟨fun b hb => by omega, by omega, fun w => absurd w h⟩
  · have hh := fndF_cases (fun a => !aoB (runU K a) a) (K 22 4).toNat
    rw [show fndF (fun a => !aoB (runU K a) a) (K 22 4).toNat = acF K from rfl] at hh
    rcases hh with ⟨a, b⟩ | ⟨k, a, b, c, d⟩
    · rw [if_neg (by omega), if_neg (by omega)]
      exact ⟨fun j hj => by have := b j hj; simpa using this, by omega, fun _ => rfl⟩
    · rw [if_pos (by omega), if_pos (by omega), b]
      exact ⟨fun j hj => by have := d j (by omega); simpa using this, by omega, fun w => by omega⟩
theorem l_perf2 {N : Nat} {I : MI} {J : MJ} (hO : WOp I) (hD : WDr I) (h40 : I 1 1 ≤ 40) (hcd : cdF I = -1) : ∀ (k a : Nat) (w : Option AV) (I' : MI), I 22 4 + 1 ≤ k + a → (a : Int) ≤ I 22 4 → (∀ b, b < a → aoB (runU I b) b = true) → I' = runU I a → V 13 (62, [some (aR 22), some (aR 10), some (aI (a : Int)), w], [], MM N I' J) (fun r M' => r = some (aI (perfA I)) ∧ M' = MM N (runU I (perfN I)) J) := by
  intro k
  induction k with
  | zero => intro a w I' q1 q2; exfalso; omega
  | succ k ih =>
    intro a w I' q1 q2 hb eI
    have e22 : I' 22 4 = I 22 4 := by rw [eI, runU_ne I (by omega)]
    have d1 := hD.1
    have d2 := hD.2.1
    have hO2 : WOp I' := by rw [eI]; exact hO.run a (fun b q => hD.2.2.2.2.1 b (by omega)) hb
    have hab2 : aoB I' a = aoB (runU I a) a := by rw [eI]
    have hn : ∀ j, j < a → (fun a => !aoB (runU I a) a) j = false := fun j hj => by
      show (!aoB (runU I j) j) = false
      rw [hb j hj]
      rfl
    refine V.blk [(62, .iload 2, 1), (63, .aload 0, 1), (64, .getfield 1004, 3), (67, .if_icmp .ge 90, 3)] (ps := []) (z' := (brc .ge (a : Int) (I' 22 4) 90 70, [some (aR 22), some (aR 10), some (aI (a : Int)), w], [], MM N I' J)) (by decide +kernel) rfl trivial ?_
    refine V.ge (fun bh1 => ?_) (fun bh2 => ?_)
    · skip
      try simp only [b2_cast, b2_ncast, Classical.not_not, lcm_lt, lcm_ge, lcm_gt, lcm_le, lcm_eq, b2_0, b2_n0, Bool.not_eq_false, Bool.not_eq_true, decide_eq_true_eq, decide_eq_false_iff_not] at bh1
      refine V.blk [(90, .bipush (-1), 1)] (ps := []) (z' := (91, [some (aR 22), some (aR 10), some (aI (a : Int)), w], [aI (-1)], MM N I' J)) (by decide +kernel) rfl trivial ?_
      refine V.ri (by decide +kernel) ?_
      have ea : (I 22 4).toNat = a := by omega
      have ha : acF I = -1 := by
        unfold acF
        rw [ea]
        exact fndF_no _ hn
      refine ⟨congrArg (fun w => some (aI w)) ?_, ?_⟩
      · unfold perfA
        rw [if_neg (by omega), if_neg (by omega)]
      · have en : perfN I = a := by
          unfold perfN
          rw [if_neg (by omega), if_neg (by omega), ea]
        rw [en]
        subst_vars
        rfl
    · skip
      try simp only [b2_cast, b2_ncast, Classical.not_not, lcm_lt, lcm_ge, lcm_gt, lcm_le, lcm_eq, b2_0, b2_n0, Bool.not_eq_false, Bool.not_eq_true, decide_eq_true_eq, decide_eq_false_iff_not] at bh2
      refine V.blk [(70, .aload 0, 1), (71, .aload 1, 1), (72, .iload 2, 1)] (ps := []) (z' := (73, [some (aR 22), some (aR 10), some (aI (a : Int)), w], [aI (a : Int), aR 10, aR 22], MM N I' J)) (by decide +kernel) rfl trivial ?_
      refine V.cv (c := 14) (na := 3) (o := 1) (a := 22) [aI (a : Int), aR 10] [] (by decide +kernel) rfl rfl rfl rfl rfl ((c_perfAct (by omega) hO2 (WAct_congr (hD.2.2.2.2.1 a (by omega)) (fun i hi => by rw [eI]; exact runU_ne I hi a)) (by rw [eI, runU_ne I (by omega)]; exact h40)).mono (fun rv M1 q => ?_))
      obtain ⟨rfl, rfl⟩ := q
      show V 13 (76, [some (aR 22), some (aR 10), some (aI (a : Int)), w], [aI (b2 (aoB I' a))], MM N ((if aoB I' a = true then aoU I' a else I')) J) _
      refine V.blk [(76, .ifCond .ne 84, 3)] (ps := []) (z' := (brc .ne (b2 (aoB I' a)) 0 84 79, [some (aR 22), some (aR 10), some (aI (a : Int)), w], [], MM N ((if aoB I' a = true then aoU I' a else I')) J)) (by decide +kernel) rfl trivial ?_
      refine V.nI (fun I3 eI3 => ?_)
      refine V.ne (fun bh4 => ?_) (fun bh5 => ?_)
      · skip
        try simp only [b2_cast, b2_ncast, Classical.not_not, lcm_lt, lcm_ge, lcm_gt, lcm_le, lcm_eq, b2_0, b2_n0, Bool.not_eq_false, Bool.not_eq_true, decide_eq_true_eq, decide_eq_false_iff_not] at bh4
        refine V.blk [(84, .iinc 2 1, 3), (87, .goto 62, 3)] (ps := [inR ((a : Int) + 1)]) (z' := (62, [some (aR 22), some (aR 10), some (aI ((a + 1 : Nat) : Int)), w], [], MM N I3 J)) (by decide +kernel) rfl (show (inR ((a : Int) + 1)) from (by unfold inR; omega)) ?_
        have hab : aoB I' a = true := by assumption
        refine ih (a + 1) w _ (by omega) (by omega) (fun b q => ?_) ?_
        · by_cases e : b = a
          · subst e; rw [← hab2]; exact hab
          · exact hb b (by omega)
        · rw [eI3, if_pos hab, eI]
          rfl
      · skip
        try simp only [b2_cast, b2_ncast, Classical.not_not, lcm_lt, lcm_ge, lcm_gt, lcm_le, lcm_eq, b2_0, b2_n0, Bool.not_eq_false, Bool.not_eq_true, decide_eq_true_eq, decide_eq_false_iff_not] at bh5
        refine V.blk [(79, .bipush 100, 2), (81, .iload 2, 1), (82, .iadd, 1)] (ps := [inR (100 + (a : Int))]) (z' := (83, [some (aR 22), some (aR 10), some (aI (a : Int)), w], [aI ((100 + a : Nat) : Int)], MM N I3 J)) (by decide +kernel) rfl (show (inR (100 + (a : Int))) from (by unfold inR; omega)) ?_
        refine V.ri (by decide +kernel) ?_
        have hab0 : aoB I' a = false := by assumption
        have hab : aoB (runU I a) a = false := by rw [← hab2]; exact hab0
        have ha : acF I = a := fndF_at hn (by show (!aoB (runU I a) a) = true; rw [hab]; rfl) _ (by omega)
        refine ⟨congrArg (fun w => some (aI w)) ?_, ?_⟩
        · unfold perfA
          rw [if_neg (by omega), if_pos (by omega)]
          omega
        · have en : perfN I = a := by
            unfold perfN
            rw [if_neg (by omega), if_pos (by omega), ha]
            rfl
          rw [en]
          subst_vars
          rw [hab]
          rfl
theorem l_perf1 {N : Nat} {I : MI} {J : MJ} (hO : WOp I) (hD : WDr I) (h40 : I 1 1 ≤ 40) : ∀ (k c : Nat) (w : Option AV), I 22 9 + 1 ≤ k + c → (c : Int) ≤ I 22 9 → (∀ b, b < c → cdB I b = false) → V 13 (2, [some (aR 22), some (aR 10), some (aI (c : Int)), w], [], MM N I J) (fun r M' => r = some (aI (perfA I)) ∧ M' = MM N (runU I (perfN I)) J) := by
  intro k
  induction k with
  | zero => intro c w q1 q2; exfalso; omega
  | succ k ih =>
    intro c w q1 q2 hb
    have d1 := hD.2.2.1
    have d2 := hD.2.2.2.1
    have hm := hO.1
    refine V.blk [(2, .iload 2, 1), (3, .aload 0, 1), (4, .getfield 1009, 3), (7, .if_icmp .ge 60, 3)] (ps := []) (z' := (brc .ge (c : Int) (I 22 9) 60 10, [some (aR 22), some (aR 10), some (aI (c : Int)), w], [], MM N I J)) (by decide +kernel) rfl trivial ?_
    refine V.ge (fun bh1 => ?_) (fun bh2 => ?_)
    · skip
      try simp only [b2_cast, b2_ncast, Classical.not_not, lcm_lt, lcm_ge, lcm_gt, lcm_le, lcm_eq, b2_0, b2_n0, Bool.not_eq_false, Bool.not_eq_true, decide_eq_true_eq, decide_eq_false_iff_not] at bh1
      refine V.blk [(60, .bipush 0, 1), (61, .istore 2, 1)] (ps := []) (z' := (62, [some (aR 22), some (aR 10), some (aI 0), w], [], MM N I J)) (by decide +kernel) rfl trivial ?_
      have ec : (I 22 9).toNat = c := by omega
      have hcd : cdF I = -1 := by
        unfold cdF
        rw [ec]
        exact fndF_no _ hb
      have e0 := hD.1
      exact l_perf2 hO hD h40 hcd ((I 22 4).toNat + 1) 0 _ I (by omega) (by omega) (fun b q => by omega) rfl
    · skip
      try simp only [b2_cast, b2_ncast, Classical.not_not, lcm_lt, lcm_ge, lcm_gt, lcm_le, lcm_eq, b2_0, b2_n0, Bool.not_eq_false, Bool.not_eq_true, decide_eq_true_eq, decide_eq_false_iff_not] at bh2
      refine V.blk [(10, .aload 1, 1), (11, .aload 0, 1), (12, .getfield 1005, 3), (15, .iload 2, 1), (16, .iaload, 1), (17, .aload 0, 1), (18, .getfield 1006, 3), (21, .iload 2, 1), (22, .iaload, 1), (23, .aload 0, 1), (24, .getfield 1007, 3), (27, .iload 2, 1), (28, .iaload, 1)] (ps := [0 ≤ (c : Int) ∧ (c : Int) < 10, 0 ≤ (c : Int) ∧ (c : Int) < 10, 0 ≤ (c : Int) ∧ (c : Int) < 10]) (z' := (29, [some (aR 22), some (aR 10), some (aI (c : Int)), w], [aI (I 29 c), aI (I 28 c), aI (I 27 c), aR 10], MM N I J)) (by decide +kernel) rfl (show (0 ≤ (c : Int) ∧ (c : Int) < 10) ∧ (0 ≤ (c : Int) ∧ (c : Int) < 10) ∧ (0 ≤ (c : Int) ∧ (c : Int) < 10) from ⟨(by omega), (by omega), (by omega)⟩) ?_
      refine V.cv (c := 27) (na := 4) (o := 3) (a := 10) [aI (I 29 c), aI (I 28 c), aI (I 27 c)] [] (by decide +kernel) rfl rfl rfl rfl rfl (V.pr (c_stand (by omega)) ?_)
      show V 13 (32, [some (aR 22), some (aR 10), some (aI (c : Int)), w], [aI (stF I (I 27 c) (I 28 c) (I 29 c))], MM N I J) _
      refine V.blk [(32, .bipush (-1), 1), (33, .if_icmp .eq 40, 3)] (ps := []) (z' := (brc .eq (stF I (I 27 c) (I 28 c) (I 29 c)) (-1) 40 36, [some (aR 22), some (aR 10), some (aI (c : Int)), w], [], MM N I J)) (by decide +kernel) rfl trivial ?_
      refine V.eq (fun bh3 => ?_) (fun bh4 => ?_)
      · skip
        try simp only [b2_cast, b2_ncast, Classical.not_not, lcm_lt, lcm_ge, lcm_gt, lcm_le, lcm_eq, b2_0, b2_n0, Bool.not_eq_false, Bool.not_eq_true, decide_eq_true_eq, decide_eq_false_iff_not] at bh3
        refine V.blk [(40, .bipush 0, 1), (41, .istore 3, 1), (42, .iload 3, 1), (43, .aload 0, 1), (44, .getfield 1008, 3), (47, .iload 2, 1), (48, .baload, 1), (49, .if_icmp .eq 54, 3)] (ps := [0 ≤ (c : Int) ∧ (c : Int) < 10]) (z' := (brc .eq 0 (I 30 c) 54 52, [some (aR 22), some (aR 10), some (aI (c : Int)), some (aI 0)], [], MM N I J)) (by decide +kernel) rfl (show (0 ≤ (c : Int) ∧ (c : Int) < 10) from (by omega)) ?_
        refine V.eq (fun bh5 => ?_) (fun bh6 => ?_)
        · skip
          try simp only [b2_cast, b2_ncast, Classical.not_not, lcm_lt, lcm_ge, lcm_gt, lcm_le, lcm_eq, b2_0, b2_n0, Bool.not_eq_false, Bool.not_eq_true, decide_eq_true_eq, decide_eq_false_iff_not] at bh5
          refine V.blk [(54, .iinc 2 1, 3), (57, .goto 2, 3)] (ps := [inR ((c : Int) + 1)]) (z' := (2, [some (aR 22), some (aR 10), some (aI ((c + 1 : Nat) : Int)), some (aI 0)], [], MM N I J)) (by decide +kernel) rfl (show (inR ((c : Int) + 1)) from (by unfold inR; omega)) ?_
          refine ih (c + 1) _ (by omega) (by omega) (fun b q => ?_)
          by_cases e : b = c
          · subst e
            have hW := hD.2.2.2.2.2 b (by omega)
            have h30 : 0 ≤ I 30 b ∧ I 30 b ≤ 1 := hW.2.2.2.2.2
            unfold cdB
            first
              | (rw [decide_eq_true (show stF I (I 27 b) (I 28 b) (I 29 b) ≠ -1 by assumption), decide_eq_true (show I 30 b = 1 by omega)]; rfl)
              | (rw [decide_eq_false (show ¬ stF I (I 27 b) (I 28 b) (I 29 b) ≠ -1 by omega), decide_eq_false (show ¬ I 30 b = 1 by omega)]; rfl)
          · exact hb b (by omega)
        · skip
          try simp only [b2_cast, b2_ncast, Classical.not_not, lcm_lt, lcm_ge, lcm_gt, lcm_le, lcm_eq, b2_0, b2_n0, Bool.not_eq_false, Bool.not_eq_true, decide_eq_true_eq, decide_eq_false_iff_not] at bh6
          refine V.blk [(52, .iload 2, 1)] (ps := []) (z' := (53, [some (aR 22), some (aR 10), some (aI (c : Int)), some (aI 0)], [aI (c : Int)], MM N I J)) (by decide +kernel) rfl trivial ?_
          refine V.ri (by decide +kernel) ?_
          have hW := hD.2.2.2.2.2 c (by omega)
          have h30 : 0 ≤ I 30 c ∧ I 30 c ≤ 1 := hW.2.2.2.2.2
          have hc : cdB I c = true := by
            unfold cdB
            skip
            first
              | (rw [decide_eq_true (show stF I (I 27 c) (I 28 c) (I 29 c) ≠ -1 by assumption), decide_eq_false (show ¬ I 30 c = 1 by omega)]; rfl)
              | (rw [decide_eq_false (show ¬ stF I (I 27 c) (I 28 c) (I 29 c) ≠ -1 by omega), decide_eq_true (show I 30 c = 1 by omega)]; rfl)
          have ha : cdF I = c := fndF_at hb hc _ (by omega)
          refine ⟨congrArg (fun w => some (aI w)) ?_, ?_⟩
          · unfold perfA
            rw [if_pos (by omega), ha]
          · have en : perfN I = 0 := by
              unfold perfN
              rw [if_pos (by omega)]
            rw [en]
            rfl
      · skip
        try simp only [b2_cast, b2_ncast, Classical.not_not, lcm_lt, lcm_ge, lcm_gt, lcm_le, lcm_eq, b2_0, b2_n0, Bool.not_eq_false, Bool.not_eq_true, decide_eq_true_eq, decide_eq_false_iff_not] at bh4
        refine V.blk [(36, .bipush 1, 1), (37, .goto 41, 3), (41, .istore 3, 1), (42, .iload 3, 1), (43, .aload 0, 1), (44, .getfield 1008, 3), (47, .iload 2, 1), (48, .baload, 1), (49, .if_icmp .eq 54, 3)] (ps := [0 ≤ (c : Int) ∧ (c : Int) < 10]) (z' := (brc .eq 1 (I 30 c) 54 52, [some (aR 22), some (aR 10), some (aI (c : Int)), some (aI 1)], [], MM N I J)) (by decide +kernel) rfl (show (0 ≤ (c : Int) ∧ (c : Int) < 10) from (by omega)) ?_
        refine V.eq (fun bh7 => ?_) (fun bh8 => ?_)
        · skip
          try simp only [b2_cast, b2_ncast, Classical.not_not, lcm_lt, lcm_ge, lcm_gt, lcm_le, lcm_eq, b2_0, b2_n0, Bool.not_eq_false, Bool.not_eq_true, decide_eq_true_eq, decide_eq_false_iff_not] at bh7
          refine V.blk [(54, .iinc 2 1, 3), (57, .goto 2, 3)] (ps := [inR ((c : Int) + 1)]) (z' := (2, [some (aR 22), some (aR 10), some (aI ((c + 1 : Nat) : Int)), some (aI 1)], [], MM N I J)) (by decide +kernel) rfl (show (inR ((c : Int) + 1)) from (by unfold inR; omega)) ?_
          refine ih (c + 1) _ (by omega) (by omega) (fun b q => ?_)
          by_cases e : b = c
          · subst e
            have hW := hD.2.2.2.2.2 b (by omega)
            have h30 : 0 ≤ I 30 b ∧ I 30 b ≤ 1 := hW.2.2.2.2.2
            unfold cdB
            first
              | (rw [decide_eq_true (show stF I (I 27 b) (I 28 b) (I 29 b) ≠ -1 by assumption), decide_eq_true (show I 30 b = 1 by omega)]; rfl)
              | (rw [decide_eq_false (show ¬ stF I (I 27 b) (I 28 b) (I 29 b) ≠ -1 by omega), decide_eq_false (show ¬ I 30 b = 1 by omega)]; rfl)
          · exact hb b (by omega)
        · skip
          try simp only [b2_cast, b2_ncast, Classical.not_not, lcm_lt, lcm_ge, lcm_gt, lcm_le, lcm_eq, b2_0, b2_n0, Bool.not_eq_false, Bool.not_eq_true, decide_eq_true_eq, decide_eq_false_iff_not] at bh8
          refine V.blk [(52, .iload 2, 1)] (ps := []) (z' := (53, [some (aR 22), some (aR 10), some (aI (c : Int)), some (aI 1)], [aI (c : Int)], MM N I J)) (by decide +kernel) rfl trivial ?_
          refine V.ri (by decide +kernel) ?_
          have hW := hD.2.2.2.2.2 c (by omega)
          have h30 : 0 ≤ I 30 c ∧ I 30 c ≤ 1 := hW.2.2.2.2.2
          have hc : cdB I c = true := by
            unfold cdB
            skip
            first
              | (rw [decide_eq_true (show stF I (I 27 c) (I 28 c) (I 29 c) ≠ -1 by assumption), decide_eq_false (show ¬ I 30 c = 1 by omega)]; rfl)
              | (rw [decide_eq_false (show ¬ stF I (I 27 c) (I 28 c) (I 29 c) ≠ -1 by omega), decide_eq_true (show I 30 c = 1 by omega)]; rfl)
          have ha : cdF I = c := fndF_at hb hc _ (by omega)
          refine ⟨congrArg (fun w => some (aI w)) ?_, ?_⟩
          · unfold perfA
            rw [if_pos (by omega), ha]
          · have en : perfN I = 0 := by
              unfold perfN
              rw [if_pos (by omega)]
            rw [en]
            rfl
theorem c_perform {N : Nat} {I : MI} {J : MJ} (hO : WOp I) (hD : WDr I) (h40 : I 1 1 ≤ 40) : CT 13 [aR 22, aR 10] (MM N I J) (fun r M' => r = some (aI (perfA I)) ∧ M' = MM N (runU I (perfN I)) J) := by
  have e0 := hD.2.2.1
  refine CT.ofV (n := 4) (ls := [some (aR 22), some (aR 10), none, none]) rfl rfl rfl ?_
  refine V.blk [(0, .bipush 0, 1), (1, .istore 2, 1)] (ps := []) (z' := (2, [some (aR 22), some (aR 10), some (aI 0), none], [], MM N I J)) (by decide +kernel) rfl trivial ?_
  exact l_perf1 hO hD h40 ((I 22 9).toNat + 1) 0 _ (by omega) (by omega) (fun b q => by omega)
def roomP (K : MI) : Prop := K 10 13 < 200 ∧ K 10 9 + cntF (wrB K) (K 22 4).toNat ≤ 400
def finU (K : MI) : MI := runU K (K 22 4).toNat
def AtR (K : MI) (L : MJ) (z : Int) (I : MI) : Prop :=
  (¬ roomP K → z = -9 ∧ ERx K I) ∧ (roomP K → (perfA K ≠ -1 → z = -8 ∧ I 0 12 = perfA K ∧ ERx K I) ∧ (perfA K = -1 → (ringF (finU K) L → z = -7 ∧ ERx K I) ∧ (¬ ringF (finU K) L → z = 0 ∧ ERx (closeU (finU K)) I)))
theorem WOp.setP {K : MI} (h : WOp K) (ht : WTh K) (hr : WRu K) : SetP K := by
  refine ⟨h.1, ht.2.2, fun p hp => ?_, hr.rt.1, hr.rt.2.2⟩
  obtain ⟨w, -⟩ := h.2.2.2.1 p (by have := h.1; omega)
  obtain ⟨w1, w2, w3, w4, w5, w6, w7, w8, w9, w10⟩ := w
  have := club_in ht.2.1 w5
  rw [w8, w9]
  have := ht.2.1
  omega
theorem WTh_congr {K K' : MI} (h : WTh K) (e1 : K' 1 = K 1) (e2 : K' 2 = K 2) : WTh K' := by
  unfold WTh
  rw [e1, e2]
  exact h
theorem WRu_congr {K K' : MI} (h : WRu K) (e4 : K' 4 = K 4) (e5 : K' 5 = K 5) (e6 : K' 6 = K 6) (e7 : K' 7 = K 7) : WRu K' := by
  unfold WRu
  rw [e4, e5, e6, e7]
  exact h
theorem ER.close {K I : MI} (h : ERx K I) : ERx (closeU K) (closeU I) := by
  obtain ⟨⟨a, b, c, d, e, f, j, l⟩, g⟩ := h
  have e13 := e 13 (by decide)
  unfold closeU
  refine ⟨⟨fun i x y z => ?_, fun k' x => ?_, fun k' x y => ?_, fun i x => ?_, fun k' x => ?_, fun i x y p hp => ?_, fun c' hc' => ?_, fun t ht => ?_⟩, ?_⟩
  · rw [ma_ne _ _ (show i ≠ 21 by omega), ma_ne _ _ (show i ≠ 21 by omega), ma_ne _ _ (show i ≠ 10 by omega), ma_ne _ _ (show i ≠ 10 by omega)]; exact a i x y z
  · rw [ma_ne _ _ (show 0 ≠ 21 by omega), ma_ne _ _ (show 0 ≠ 21 by omega), ma_ne _ _ (show 0 ≠ 10 by omega), ma_ne _ _ (show 0 ≠ 10 by omega)]; exact b k' x
  · rw [ma_ne _ _ (show 44 ≠ 21 by omega), ma_ne _ _ (show 44 ≠ 21 by omega), ma_ne _ _ (show 44 ≠ 10 by omega), ma_ne _ _ (show 44 ≠ 10 by omega)]; exact c k' x y
  · rw [ma_ne _ _ (show i ≠ 21 by omega), ma_ne _ _ (show i ≠ 21 by omega), ma_ne _ _ (show i ≠ 10 by omega), ma_ne _ _ (show i ≠ 10 by omega)]; exact d i x
  · rw [ma_ne _ _ (show 10 ≠ 21 by omega), ma_ne _ _ (show 10 ≠ 21 by omega), ma_self, ma_self, e13]
    by_cases q : k' = 13
    · subst q; rw [ma_self, ma_self]
    · rw [ma_ne _ _ q, ma_ne _ _ q]; exact e k' x
  · rw [ma_ne _ _ (show 10 ≠ 21 by omega), ma_self, ma_ne _ _ (show 9 ≠ 13 by omega)] at hp
    rw [ma_ne _ _ (show i ≠ 21 by omega), ma_ne _ _ (show i ≠ 21 by omega), ma_ne _ _ (show i ≠ 10 by omega), ma_ne _ _ (show i ≠ 10 by omega)]; exact f i x y p hp
  · rw [ma_ne _ _ (show 10 ≠ 21 by omega), ma_self, ma_ne _ _ (show 11 ≠ 13 by omega)] at hc'
    rw [ma_ne _ _ (show 20 ≠ 21 by omega), ma_ne _ _ (show 20 ≠ 21 by omega), ma_ne _ _ (show 20 ≠ 10 by omega), ma_ne _ _ (show 20 ≠ 10 by omega)]; exact j c' hc'
  · rw [ma_ne _ _ (show 10 ≠ 21 by omega), ma_self, ma_self] at ht
    rw [ma_self, ma_self, e13, g]
    by_cases q : t = (K 10 13 + 1).toNat
    · subst q; rw [ma_self, ma_self]
    · rw [ma_ne _ _ q, ma_ne _ _ q]; exact l t (by omega)
  · rw [ma_ne _ _ (show 10 ≠ 21 by omega), ma_ne _ _ (show 10 ≠ 21 by omega), ma_self, ma_self, ma_ne _ _ (show 11 ≠ 13 by omega), ma_ne _ _ (show 11 ≠ 13 by omega)]; exact g
/-- of a turn that is opened upon K -/
theorem drop_of {K : MI} {L : MJ} (hX : WX K L) (hl : K 10 13 < 200) : WOp K ∧ K 10 11 = ((K 10 11).toNat : Nat) ∧ K 10 13 = ((K 10 13).toNat : Nat) ∧ (K 10 13).toNat ≤ 199 ∧ K 21 (K 10 13).toNat = ((K 10 11).toNat : Nat) ∧ (∀ b, b ≤ perfN K → WOp (runU K b)) ∧ ∀ b, b < perfN K → aoB (runU K b) b = true := by
  have hO := hX.2.2.1.op hl
  obtain ⟨a, b, c, d, -⟩ := hX
  have hs := cS_in K (K 10 9).toNat
  have p := perf_ok (K := K) d.1
  have c1 := c.1
  have c3 := c.2.2.1
  have c5 := c.2.2.2.2.1
  have c7 := c.2.2.2.2.2.2.2.2.1
  refine ⟨hO, by omega, by omega, by omega, by rw [c7]; omega, fun b hb => hO.run b (fun j hj => d.2.2.2.2.1 j (by omega)) (fun j hj => p.1 j (by omega)), p.1⟩
theorem c_attempt {N : Nat} {I : MI} {J : MJ} (hX : WX I J) : CT 99 [aR 0] (MM N I J) (fun r M' => ∃ z I' J', r = some (aI z) ∧ M' = MM N I' J' ∧ AtR I J z I' ∧ J' 8 = J 8 ∧ J' 9 = J 9) := by
  have hd0 := hX.2.2.2.1.1
  have hd00 := hX.2.2.2.1.2.1
  have hm0 := hX.2.2.1.1
  have hm00 := hX.2.2.1.2.1
  have hl0 := hX.2.2.1.2.2.1
  have hcw := cntF_in (wrB I) (I 22 4).toNat
  refine CT.ofV (n := 1) (ls := [some (aR 0)]) rfl rfl rfl ?_
  refine V.blk [(0, .aload 0, 1), (1, .getfield 9002, 3), (4, .aload 0, 1), (5, .getfield 9003, 3)] (ps := []) (z' := (8, [some (aR 0)], [aR 22, aR 10], MM N I J)) (by decide +kernel) rfl trivial ?_
  refine V.cv (c := 12) (na := 1) (o := 1) (a := 22) [] [aR 10] (by decide +kernel) rfl rfl rfl rfl rfl (V.pr (c_writes (m := (I 22 4).toNat) (by omega) (by omega)) ?_)
  show V 99 (11, [some (aR 0)], [aI (cntF (wrB I) (I 22 4).toNat), aR 10], MM N I J) _
  refine V.cv (c := 24) (na := 2) (o := 3) (a := 10) [aI (cntF (wrB I) (I 22 4).toNat)] [] (by decide +kernel) rfl rfl rfl rfl rfl (V.pr (c_X3_hasRoom (by omega)) ?_)
  show V 99 (14, [some (aR 0)], [aI (b2 (decide (I 10 13 < 200 ∧ I 10 9 + (cntF (wrB I) (I 22 4).toNat) ≤ 400)))], MM N I J) _
  refine V.blk [(14, .ifCond .ne 20, 3)] (ps := []) (z' := (brc .ne (b2 (decide (I 10 13 < 200 ∧ I 10 9 + (cntF (wrB I) (I 22 4).toNat) ≤ 400))) 0 20 17, [some (aR 0)], [], MM N I J)) (by decide +kernel) rfl trivial ?_
  refine V.ne (fun bh1 => ?_) (fun bh2 => ?_)
  · skip
    try simp only [b2_cast, b2_ncast, Classical.not_not, lcm_lt, lcm_ge, lcm_gt, lcm_le, lcm_eq, b2_0, b2_n0, Bool.not_eq_false, Bool.not_eq_true, decide_eq_true_eq, decide_eq_false_iff_not] at bh1
    obtain ⟨hO, hd1, hd2, hd3, hd4, hd5, hd6⟩ := drop_of hX (by omega)
    have hroom : roomP I := by assumption
    refine V.blk [(20, .aload 0, 1), (21, .aload 0, 1), (22, .getfield 9003, 3), (25, .aload 0, 1), (26, .getfield 9002, 3)] (ps := []) (z' := (29, [some (aR 0)], [aR 10, aR 22, aR 0], MM N I J)) (by decide +kernel) rfl trivial ?_
    refine V.cv (c := 13) (na := 2) (o := 1) (a := 22) [aR 10] [aR 0] (by decide +kernel) rfl rfl rfl rfl rfl ((c_perform hO hX.2.2.2.1 hX.1.2.1).mono (fun rv M1 q => ?_))
    obtain ⟨rfl, rfl⟩ := q
    show V 99 (32, [some (aR 0)], [aI (perfA I), aR 0], MM N ((runU I (perfN I))) J) _
    refine V.blk [(32, .putfield 9012, 3)] (ps := []) (z' := (35, [some (aR 0)], [], MM N (ma ((runU I (perfN I))) 0 (ma (((runU I (perfN I))) 0) 12 (perfA I))) J)) (by decide +kernel) rfl trivial ?_
    refine V.nI (fun I3 eI3 => ?_)
    have hEr : ER (runU I (perfN I)) I3 := by rw [eI3]; exact er_f12 (ERx.refl _).1
    have hEc : I3 10 11 = runU I (perfN I) 10 11 := by rw [eI3, ma_ne _ _ (show 10 ≠ 0 by decide)]
    have hE12 : I3 0 12 = perfA I := by rw [eI3, ma_self, ma_self]
    refine V.blk [(35, .aload 0, 1), (36, .getfield 9012, 3), (39, .bipush (-1), 1), (40, .if_icmp .eq 53, 3)] (ps := []) (z' := (brc .eq (I3 0 12) (-1) 53 43, [some (aR 0)], [], MM N I3 J)) (by decide +kernel) rfl trivial ?_
    refine V.eq (fun bh4 => ?_) (fun bh5 => ?_)
    · skip
      try simp only [b2_cast, b2_ncast, Classical.not_not, lcm_lt, lcm_ge, lcm_gt, lcm_le, lcm_eq, b2_0, b2_n0, Bool.not_eq_false, Bool.not_eq_true, decide_eq_true_eq, decide_eq_false_iff_not] at bh4
      have hpa : perfA I = -1 := by omega
      have hfin : runU I (perfN I) = finU I := by rw [(perf_ok hd0).2.2 hpa]; rfl
      rw [hfin] at hEr hEc
      have hne : ∀ i, i ≠ 0 → I3 i = finU I i := fun i hi => by rw [eI3, ma_ne _ _ hi, hfin]
      have hOf : WOp (finU I) := by rw [← hfin]; exact hd5 _ (Nat.le_refl _)
      have hSf : SetP (finU I) := hOf.setP (WTh_congr hX.1 (runU_ne I (by omega) _) (runU_ne I (by omega) _)) (WRu_congr hX.2.1 (runU_ne I (by omega) _) (runU_ne I (by omega) _) (runU_ne I (by omega) _) (runU_ne I (by omega) _))
      have hS1 : SetP I3 := by
        unfold SetP kdOK spOK rtOK
        rw [hne 10 (by decide), hne 2 (by decide), hne 17 (by decide), hne 18 (by decide), hne 4 (by decide), hne 5 (by decide), hne 6 (by decide), hne 7 (by decide)]
        exact hSf
      have hEJ := EJ_congr (I := finU I) (I' := I3) (J := J) (J' := J) (fun i hi => hne i (by omega)) rfl rfl
      refine V.blk [(53, .aload 0, 1), (54, .getfield 9004, 3)] (ps := []) (z' := (57, [some (aR 0)], [aR 31], MM N I3 J)) (by decide +kernel) rfl trivial ?_
      refine V.cv (c := 17) (na := 1) (o := 2) (a := 31) [] [] (by decide +kernel) rfl rfl rfl rfl rfl ((c_settleP hS1).mono (fun rv M1 q => ?_))
      obtain ⟨ok, I2, J2, rfl, rfl, hR⟩ := q
      show V 99 (60, [some (aR 0)], [aI (b2 ok)], MM N I2 J2) _
      have hce2 := hR.ce.er
      have hE2 : ER (finU I) I2 := by
        obtain ⟨⟨a, b, c, d, e, f, j, l⟩, g⟩ := hce2
        obtain ⟨a', b', c', d', e', f', j', l'⟩ := hEr
        have q9 := e' 9 (by decide)
        have q13 := e' 13 (by decide)
        exact ⟨fun i x y z => (a i x y z).trans (a' i x y z), fun k x => (b k x).trans (b' k x), fun k x y => (c k x y).trans (c' k x y), fun i x => (d i x).trans (d' i x), fun k x => (e k x).trans (e' k x), fun i x y p hp => (f i x y p (by omega)).trans (f' i x y p hp), fun q hq => (j q (by omega)).trans (j' q hq), fun t ht => (l t (by omega)).trans (l' t ht)⟩
      have hEc2 : I2 10 11 = finU I 10 11 := hce2.2.trans hEc
      have hj8 : J2 8 = J 8 := hR.2.2.2.2 8 (by decide) (by decide) (by decide)
      have hj9 : J2 9 = J 9 := hR.2.2.2.2 9 (by decide) (by decide) (by decide)
      have hring : ok = true ↔ ¬ ringF (finU I) J := by
        rw [hR.1]
        unfold ringF
        rw [hEJ.1, hEJ.2, Classical.not_not]
      refine V.blk [(60, .ifCond .ne 73, 3)] (ps := []) (z' := (brc .ne (b2 ok) 0 73 63, [some (aR 0)], [], MM N I2 J2)) (by decide +kernel) rfl trivial ?_
      refine V.ne (fun bh6 => ?_) (fun bh7 => ?_)
      · skip
        try simp only [b2_cast, b2_ncast, Classical.not_not, lcm_lt, lcm_ge, lcm_gt, lcm_le, lcm_eq, b2_0, b2_n0, Bool.not_eq_false, Bool.not_eq_true, decide_eq_true_eq, decide_eq_false_iff_not] at bh6
        have hl13 : I2 10 13 = I 10 13 := by rw [hE2.2.2.2.2.1 13 (by decide)]; exact runU_10 I (by decide) (by decide) _
        refine V.blk [(73, .aload 0, 1), (74, .getfield 9002, 3)] (ps := []) (z' := (77, [some (aR 0)], [aR 10], MM N I2 J2)) (by decide +kernel) rfl trivial ?_
        refine V.cv (c := 31) (na := 1) (o := 3) (a := 10) [] [] (by decide +kernel) rfl rfl rfl rfl rfl ((c_close (by omega)).mono (fun rv M1 q => ?_))
        obtain ⟨rfl, rfl⟩ := q
        show V 99 (80, [some (aR 0)], [], MM N ((closeU I2)) J2) _
        refine V.blk [(80, .bipush 0, 1)] (ps := []) (z' := (81, [some (aR 0)], [aI 0], MM N ((closeU I2)) J2)) (by decide +kernel) rfl trivial ?_
        refine V.nI (fun I8 eI8 => ?_)
        refine V.ri (by decide +kernel) ?_
        have hok : ok = true := by assumption
        refine ⟨0, _, J2, rfl, rfl, ⟨fun w => absurd hroom w, fun _ => ⟨fun w => absurd hpa w, fun _ => ⟨fun w => absurd w (hring.mp hok), fun _ => ⟨rfl, ?_⟩⟩⟩⟩, hj8, hj9⟩
        subst_vars
        exact ER.close ⟨hE2, hEc2⟩
      · skip
        try simp only [b2_cast, b2_ncast, Classical.not_not, lcm_lt, lcm_ge, lcm_gt, lcm_le, lcm_eq, b2_0, b2_n0, Bool.not_eq_false, Bool.not_eq_true, decide_eq_true_eq, decide_eq_false_iff_not] at bh7
        refine V.blk [(63, .aload 0, 1), (64, .getfield 9002, 3)] (ps := []) (z' := (67, [some (aR 0)], [aR 10], MM N I2 J2)) (by decide +kernel) rfl trivial ?_
        refine V.cv (c := 32) (na := 1) (o := 3) (a := 10) [] [] (by decide +kernel) rfl rfl rfl rfl rfl ((c_drop hd1 hd2 hd3 hd4 hd5 hd6 (by rw [hfin]; exact hE2) (by rw [hfin]; exact hEc2)).mono (fun rv M1 q => ?_))
        obtain ⟨rfl, ID, rfl, hID, _⟩ := q
        show V 99 (70, [some (aR 0)], [], MM N ID J2) _
        refine V.blk [(70, .bipush (-7), 2)] (ps := []) (z' := (72, [some (aR 0)], [aI (-7)], MM N ID J2)) (by decide +kernel) rfl trivial ?_
        refine V.ri (by decide +kernel) ?_
        have hok : ok = false := by assumption
        have hrf : ringF (finU I) J := by
          apply Classical.byContradiction
          intro w
          have := hring.mpr w
          rw [hok] at this
          cases this
        exact ⟨-7, ID, J2, rfl, rfl, ⟨fun w => absurd hroom w, fun _ => ⟨fun w => absurd hpa w, fun _ => ⟨fun _ => ⟨rfl, hID⟩, fun w => absurd hrf w⟩⟩⟩, hj8, hj9⟩
    · skip
      try simp only [b2_cast, b2_ncast, Classical.not_not, lcm_lt, lcm_ge, lcm_gt, lcm_le, lcm_eq, b2_0, b2_n0, Bool.not_eq_false, Bool.not_eq_true, decide_eq_true_eq, decide_eq_false_iff_not] at bh5
      refine V.blk [(43, .aload 0, 1), (44, .getfield 9002, 3)] (ps := []) (z' := (47, [some (aR 0)], [aR 10], MM N I3 J)) (by decide +kernel) rfl trivial ?_
      refine V.cv (c := 32) (na := 1) (o := 3) (a := 10) [] [] (by decide +kernel) rfl rfl rfl rfl rfl ((c_drop hd1 hd2 hd3 hd4 hd5 hd6 hEr hEc).mono (fun rv M1 q => ?_))
      obtain ⟨rfl, ID, rfl, hID, hIDf⟩ := q
      show V 99 (50, [some (aR 0)], [], MM N ID J) _
      refine V.blk [(50, .bipush (-8), 2)] (ps := []) (z' := (52, [some (aR 0)], [aI (-8)], MM N ID J)) (by decide +kernel) rfl trivial ?_
      refine V.ri (by decide +kernel) ?_
      have hpa : perfA I ≠ -1 := by omega
      exact ⟨-8, ID, J, rfl, rfl, ⟨fun w => absurd hroom w, fun _ => ⟨fun _ => ⟨rfl, (congrFun hIDf 12).trans hE12, hID⟩, fun w => absurd w hpa⟩⟩, rfl, rfl⟩
  · skip
    try simp only [b2_cast, b2_ncast, Classical.not_not, lcm_lt, lcm_ge, lcm_gt, lcm_le, lcm_eq, b2_0, b2_n0, Bool.not_eq_false, Bool.not_eq_true, decide_eq_true_eq, decide_eq_false_iff_not] at bh2
    refine V.blk [(17, .bipush (-9), 2)] (ps := []) (z' := (19, [some (aR 0)], [aI (-9)], MM N I J)) (by decide +kernel) rfl trivial ?_
    refine V.ri (by decide +kernel) ?_
    have hroom : ¬ roomP I := by assumption
    exact ⟨-9, I, J, rfl, rfl, ⟨fun _ => ⟨rfl, ERx.refl _⟩, fun w => absurd w hroom⟩, rfl, rfl⟩
