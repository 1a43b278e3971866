/-! ===== the class: what a change keeps; commit, would ===== -/
theorem sv_uniq {K : MI} {L L' : MJ} (h : svOK K L) (h' : svOK K L') (hl : rlOK K) : ∀ r, r < 64 → ∀ p, p < 64 → (tb (L' 8 r) p = true ↔ tb (L 8 r) p = true) ∧ (tb (L' 9 r) p = true ↔ tb (L 9 r) p = true) := by
  intro r
  induction r using Nat.strongRecOn with
  | ind r ih =>
    intro hr p hp
    rw [sv_8 h hr hp, sv_8 h' hr hp, sv_9 h hr, sv_9 h' hr]
    by_cases hj : 4 ≤ K 4 r ∧ K 4 r ≤ 6
    · have l := hl r hr hj.1 hj.2
      rw [(ih (K 5 r).toNat (by omega) (by omega) p hp).1, (ih (K 6 r).toNat (by omega) (by omega) p hp).1, (ih (K 5 r).toNat (by omega) (by omega) p hp).2, (ih (K 6 r).toNat (by omega) (by omega) p hp).2]
      exact ⟨Iff.rfl, Iff.rfl⟩
    · simp [hj]
theorem ex_congr {α : Type} {P Q : α → Prop} (h : ∀ p, P p ↔ Q p) : (∃ p, P p) ↔ ∃ p, Q p := ⟨fun w => by obtain ⟨p, q⟩ := w; exact ⟨p, (h p).mp q⟩, fun w => by obtain ⟨p, q⟩ := w; exact ⟨p, (h p).mpr q⟩⟩
theorem ERx.c {K I : MI} (h : ERx K I) {i : Nat} (hc : core i = true) (hi : i < 10 ∨ 21 < i) (h0 : i ≠ 0) : I i = K i := h.1.1 i hc hi h0
theorem clB_er {K I : MI} (h : ERx K I) {m n i : Nat} (hm : (m : Int) ≤ K 10 9) : clB I m n i ↔ clB K m n i := by
  unfold clB kn
  refine ex_congr fun p => ?_
  constructor
  · intro ⟨a, b⟩
    rw [h.c (i := 2) rfl (by omega) (by omega), h.1.2.2.2.2.2.1 18 (by omega) (by omega) p (by omega), h.1.2.2.2.2.2.1 17 (by omega) (by omega) p (by omega)] at b
    exact ⟨a, b⟩
  · intro ⟨a, b⟩
    rw [h.c (i := 2) rfl (by omega) (by omega), h.1.2.2.2.2.2.1 18 (by omega) (by omega) p (by omega), h.1.2.2.2.2.2.1 17 (by omega) (by omega) p (by omega)]
    exact ⟨a, b⟩
theorem askQ_er {K I : MI} (h : ERx K I) (h0 : 0 ≤ K 10 9) {p n i : Nat} : askQ I (I 10 9).toNat p n i ↔ askQ K (K 10 9).toNat p n i := by
  have e9 : I 10 9 = K 10 9 := h.1.2.2.2.2.1 9 (by decide)
  unfold askQ
  rw [h.c (i := 4) rfl (by omega) (by omega), h.c (i := 5) rfl (by omega) (by omega), h.c (i := 6) rfl (by omega) (by omega), e9, clB_er h (by omega)]
theorem EJ_er {K I : MI} {L J : MJ} (h : ERx K I) (h0 : 0 ≤ K 10 9) (h8 : J 8 = L 8) (h9 : J 9 = L 9) : EJ I J = EJ K L ∧ ET I J = ET K L := by
  unfold EJ ET
  rw [h.c (i := 7) rfl (by omega) (by omega), h8, h9]
  constructor
  · funext n i
    exact propext (ex_congr fun p => by rw [askQ_er h h0])
  · funext n i
    exact propext (ex_congr fun p => by rw [askQ_er h h0])
theorem ring_sv {K : MI} {L L' : MJ} (h : svOK K L) (h' : svOK K L') (hl : rlOK K) (h7 : ∀ n, n < 48 → -1 ≤ K 7 n ∧ K 7 n < 64) : ringF K L' ↔ ringF K L := by
  unfold ringF
  have e : ∀ n m, n < 48 → m < 48 → (EJ K L' n m ↔ EJ K L n m) ∧ (ET K L' n m ↔ ET K L n m) := by
    intro n m hn hm
    have q := h7 n hn
    unfold EJ ET
    constructor
    · refine ex_congr fun p => ?_
      constructor
      · intro ⟨a, b, c⟩
        exact ⟨a, ((sv_uniq h h' hl _ (by omega) p (by omega)).1).mp b, c⟩
      · intro ⟨a, b, c⟩
        exact ⟨a, ((sv_uniq h h' hl _ (by omega) p (by omega)).1).mpr b, c⟩
    · refine ex_congr fun p => ?_
      constructor
      · intro ⟨a, b, c⟩
        exact ⟨a, ((sv_uniq h h' hl _ (by omega) p (by omega)).2).mp b, c⟩
      · intro ⟨a, b, c⟩
        exact ⟨a, ((sv_uniq h h' hl _ (by omega) p (by omega)).2).mpr b, c⟩
  exact not_congr (ex_congr fun z => by rw [stab_congr e])
theorem svOK_er {K I : MI} {L J : MJ} (h : svOK K L) (e : ERx K I) (h8 : J 8 = L 8) (h9 : J 9 = L 9) : svOK I J := svOK_congr h (e.c rfl (by omega) (by omega)) (e.c rfl (by omega) (by omega)) (e.c rfl (by omega) (by omega)) h8 h9
theorem WPr_er {K I : MI} (h : ERx K I) {p : Nat} (hp : (p : Int) < K 10 9) (w : WPr K p) : WPr I p := by
  have g := h.1.2.2.2.2.2.1
  unfold WPr at w ⊢
  rw [h.c (i := 1) rfl (by omega) (by omega), g 11 (by omega) (by omega) p hp, g 12 (by omega) (by omega) p hp, g 13 (by omega) (by omega) p hp, g 14 (by omega) (by omega) p hp, g 17 (by omega) (by omega) p hp, g 18 (by omega) (by omega) p hp, g 19 (by omega) (by omega) p hp]
  exact w
theorem WLe_er {K I : MI} (h : ERx K I) (w : WLe K) : WLe I := by
  obtain ⟨a, b, c, d, e, f, g, i, j, k⟩ := w
  have r := h.1.2.2.2.2.2.1
  have e9 : I 10 9 = K 10 9 := h.1.2.2.2.2.1 9 (by decide)
  have e13 : I 10 13 = K 10 13 := h.1.2.2.2.2.1 13 (by decide)
  have t := h.1.2.2.2.2.2.2.2
  unfold WLe
  rw [e9, e13, h.2]
  refine ⟨a, b, c, d, ?_, fun p hp => ?_, fun q hq => ?_, ?_, ?_, fun s hs => ?_⟩
  · rw [cS_same (K := K) (K' := I) _ (fun p hp => r 16 (by omega) (by omega) p (by omega))]; exact e
  · have := f p hp
    rw [r 15 (by omega) (by omega) p hp, r 16 (by omega) (by omega) p hp]
    exact ⟨WPr_er h hp this.1, this.2⟩
  · rw [h.1.2.2.2.2.2.2.1 q hq]; exact g q hq
  · rw [t 0 (by omega)]; exact i
  · rw [t (K 10 13).toNat (by omega)]; exact j
  · rw [t s (by omega), t (s + 1) (by omega)]; exact k s hs
theorem WX_er {K I : MI} {L J : MJ} (hX : WX K L) (h : ERx K I) (hs : svOK I J) : WX I J := by
  obtain ⟨a, b, c, d, e, f, g, s, r⟩ := hX
  have h0 : 0 ≤ K 10 9 := c.1
  have sL : svOK I L := svOK_er s h rfl rfl
  have ru : WRu I := WRu_congr b (h.c rfl (by omega) (by omega)) (h.c rfl (by omega) (by omega)) (h.c rfl (by omega) (by omega)) (h.c rfl (by omega) (by omega))
  refine ⟨WTh_congr a (h.c rfl (by omega) (by omega)) (h.c rfl (by omega) (by omega)), ru, WLe_er h c, ?_, ?_, ?_, ?_, hs, ?_⟩
  · unfold WDr WAct WCnd at d ⊢
    rw [h.c (i := 22) rfl (by omega) (by omega), h.c (i := 1) rfl (by omega) (by omega), h.c (i := 23) rfl (by omega) (by omega), h.c (i := 24) rfl (by omega) (by omega), h.c (i := 25) rfl (by omega) (by omega), h.c (i := 26) rfl (by omega) (by omega), h.c (i := 27) rfl (by omega) (by omega), h.c (i := 28) rfl (by omega) (by omega), h.c (i := 29) rfl (by omega) (by omega), h.c (i := 30) rfl (by omega) (by omega)]
    exact d
  · unfold WTk at e ⊢
    rw [h.1.2.1 11 (by decide)]
    exact e
  · unfold WRe at f ⊢
    rw [h.1.2.2.1 5 (by omega) (by omega), h.1.2.2.1 6 (by omega) (by omega), h.1.2.2.1 7 (by omega) (by omega), h.1.2.2.1 8 (by omega) (by omega), h.c (i := 1) rfl (by omega) (by omega), h.1.2.2.2.2.1 13 (by decide)]
    exact f
  · unfold WRo at g ⊢
    rw [h.c (i := 48) rfl (by omega) (by omega)]
    exact g
  · rw [ring_sv sL hs ru.rt.2.1 ru.rt.2.2]
    unfold ringF at r ⊢
    rw [(EJ_er h h0 rfl rfl).1, (EJ_er h h0 rfl rfl).2]
    exact r
/-! scenes of memories that agree where it matters -/
def scE (K I : MI) (cp cp' : Nat → Bool) : Prop := (∀ i, i = 1 ∨ i = 2 ∨ (4 ≤ i ∧ i ≤ 7) → I i = K i) ∧ I 10 9 = K 10 9 ∧ ∀ p : Nat, (p : Int) < K 10 9 → cp' p = cp p ∧ ∀ i, 13 ≤ i → i ≤ 19 → I i p = K i p
section SCE
variable {K I : MI} {cp cp' : Nat → Bool}
theorem sce_plS (h : scE K I cp cp') : plS I cp' = plS K cp := by
  obtain ⟨a, b, c⟩ := h
  funext v s T p
  have em : ∀ u, MemB I cp' v s u = MemB K cp v s u := by
    intro u
    funext i
    unfold MemB
    refine propext (ex_congr fun q => ?_)
    rw [b]
    constructor
    · intro ⟨x, y⟩
      obtain ⟨c1, c2⟩ := c q x
      rw [c1, c2 13 (by omega) (by omega), c2 14 (by omega) (by omega), c2 17 (by omega) (by omega), c2 18 (by omega) (by omega), c2 19 (by omega) (by omega)] at y
      exact ⟨x, y⟩
    · intro ⟨x, y⟩
      obtain ⟨c1, c2⟩ := c q x
      rw [c1, c2 13 (by omega) (by omega), c2 14 (by omega) (by omega), c2 17 (by omega) (by omega), c2 18 (by omega) (by omega), c2 19 (by omega) (by omega)]
      exact ⟨x, y⟩
  have et : ∀ s y, ThrB I cp' v s y = ThrB K cp v s y := by
    intro s y
    funext i
    unfold ThrB
    refine propext (ex_congr fun q => ?_)
    rw [b]
    constructor
    · intro ⟨x, y⟩
      obtain ⟨c1, c2⟩ := c q x
      rw [c1, c2 17 (by omega) (by omega), c2 19 (by omega) (by omega)] at y
      exact ⟨x, y⟩
    · intro ⟨x, y⟩
      obtain ⟨c1, c2⟩ := c q x
      rw [c1, c2 17 (by omega) (by omega), c2 19 (by omega) (by omega)]
      exact ⟨x, y⟩
  unfold plS
  rw [em, em, et, a 4 (by omega), a 5 (by omega), a 6 (by omega)]
theorem sce_plV (h : scE K I cp cp') : plV I cp' = plV K cp := by
  funext v s f
  induction f with
  | zero => rfl
  | succ f ih =>
    funext p
    show plS I cp' v s (plV I cp' v s f) p = plS K cp v s (plV K cp v s f) p
    rw [sce_plS h, ih]
theorem sce_kS (h : scE K I cp cp') : kS I = kS K := by
  funext s
  unfold kS kn
  rw [h.1 2 (by omega)]
theorem sce_tellV (h : scE K I cp cp') : tellV I cp' = tellV K cp := by
  funext v s
  unfold tellV pl
  rw [sce_kS h, sce_plV h, h.1 7 (by omega)]
theorem sce_swF (h : scE K I cp cp') : swF I cp' = swF K cp := by
  funext lev l n v
  induction n with
  | zero => rfl
  | succ n ih =>
    unfold swF
    rw [sce_kS h, sce_tellV h, ih]
theorem sce_swp (h : scE K I cp cp') : swp I cp' = swp K cp := by
  funext lev l v
  unfold swp
  rw [sce_swF h, h.1 1 (by omega)]
theorem sce_itr (h : scE K I cp cp') : itr I cp' = itr K cp := by
  funext lev l n v
  induction n with
  | zero => rfl
  | succ n ih =>
    unfold itr
    rw [sce_swp h, ih]
theorem sce_Fill (h : scE K I cp cp') : Fill I cp' = Fill K cp := by
  funext lev l v w
  unfold Fill
  rw [sce_swp h, sce_itr h]
theorem sce_SetsR (h : scE K I cp cp') : SetsR I cp' = SetsR K cp := by
  funext lev n
  induction n with
  | zero => rfl
  | succ n ih =>
    funext w
    unfold SetsR
    rw [ih, sce_Fill h]
end SCE
theorem ERx.sce {K I : MI} (h : ERx K I) {t now wo : Int} : scE K I (cnB K t now wo) (cnB I t now wo) := by
  have r := h.1.2.2.2.2.2.1
  refine ⟨fun i hi => ?_, h.1.2.2.2.2.1 9 (by decide), fun p hp => ⟨?_, fun i a b => r i (by omega) (by omega) p hp⟩⟩
  · exact h.c (by rcases (show i = 1 ∨ i = 2 ∨ i = 4 ∨ i = 5 ∨ i = 6 ∨ i = 7 by omega) with e | e | e | e | e | e <;> (subst e; rfl)) (by omega) (by omega)
  · unfold cnB
    rw [r 14 (by omega) (by omega) p hp, r 15 (by omega) (by omega) p hp, r 16 (by omega) (by omega) p hp]
theorem SETS_er {K I : MI} {L J : MJ} (h : ERx K I) (h0 : 0 ≤ K 10 9) (h8 : J 8 = L 8) (h9 : J 9 = L 9) {t now wo : Int} {v : SV} : SETS I J (cnB I t now wo) v ↔ SETS K L (cnB K t now wo) v := by
  unfold SETS
  have e := EJ_er h h0 h8 h9
  rw [lv_congr e.1 e.2, sce_SetsR h.sce]
theorem closeU_v (K : MI) : (∀ i, i ≠ 10 → i ≠ 21 → closeU K i = K i) ∧ closeU K 10 13 = K 10 13 + 1 ∧ (∀ k, k ≠ 13 → closeU K 10 k = K 10 k) ∧ closeU K 21 = ma (K 21) (K 10 13 + 1).toNat (K 10 11) := by
  unfold closeU
  refine ⟨fun i a b => by rw [ma_ne _ _ b, ma_ne _ _ a], ?_, fun k a => ?_, ?_⟩
  · rw [ma_ne _ _ (by decide), ma_self, ma_self]
  · rw [ma_ne _ _ (by decide), ma_self, ma_ne _ _ a]
  · rw [ma_self]
/-- the state with the turn that was made is a state -/
theorem WX_close {K : MI} {L : MJ} (hX : WX K L) (hr : roomP K) (hp : perfA K = -1) (hn : ¬ ringF (finU K) L) : WX (closeU (finU K)) L := by
  have hd := hX.2.2.2.1.1
  obtain ⟨hO, h1, h2, h3, h4, h5, h6⟩ := drop_of hX hr.1
  have hN := (perf_ok hd).2.2 hp
  rw [hN] at h5
  have hOf : WOp (finU K) := h5 _ (Nat.le_refl _)
  obtain ⟨v, v13, vk, v21⟩ := closeU_v (finU K)
  have f : ∀ i, (i < 10 ∨ 20 < i) → finU K i = K i := fun i hi => runU_ne K hi _
  have cf : ∀ i, (i < 10 ∨ 21 < i) → closeU (finU K) i = K i := fun i hi => (v i (by omega) (by omega)).trans (f i (by omega))
  have f13 : finU K 10 13 = K 10 13 := runU_10 K (by decide) (by decide) _
  have f11 : finU K 10 11 = K 10 11 + (K 22 4).toNat := runU_ch K _
  have v9 := vk 9 (by decide)
  have v11 := vk 11 (by decide)
  obtain ⟨a, b, c, d, e, g, i, s, r⟩ := hX
  obtain ⟨o1, o2, o3, o4, o5⟩ := hOf
  refine ⟨WTh_congr a (cf 1 (by omega)) (cf 2 (by omega)), WRu_congr b (cf 4 (by omega)) (cf 5 (by omega)) (cf 6 (by omega)) (cf 7 (by omega)), ?_, ?_, ?_, ?_, ?_, svOK_congr s (cf 4 (by omega)) (cf 5 (by omega)) (cf 6 (by omega)) rfl rfl, ?_⟩
  · have c3 := c.2.2.1
    have c7 := c.2.2.2.2.2.2.2.1
    have c8 := c.2.2.2.2.2.2.2.2.1
    have c9 := c.2.2.2.2.2.2.2.2.2
    have d2 := d.2.1
    have hr1 := hr.1
    unfold WLe
    rw [v9, v13, v11, v21, f 21 (by omega), f13]
    obtain ⟨t0, ht0⟩ : ∃ t : Nat, K 10 13 = t := ⟨(K 10 13).toNat, by omega⟩
    rw [ht0]
    have et : ((t0 : Int) + 1).toNat = t0 + 1 := by omega
    rw [et]
    have c8b : K 21 t0 = K 10 11 := by rw [← c8, ht0]; rfl
    refine ⟨o1.1, o1.2, by omega, by omega, ?_, fun p hp => ?_, fun q hq => ?_, ?_, ?_, fun t ht => ?_⟩
    · rw [cS_same (K := finU K) (K' := closeU (finU K)) _ (fun p _ => by rw [v 16 (by omega) (by omega)])]; exact o3
    · have q := o4 p hp
      rw [f13, ht0] at q
      rw [v 15 (by omega) (by omega), v 16 (by omega) (by omega)]
      exact ⟨WPr_congr q.1 (v 1 (by omega) (by omega)) (fun j x y _ _ => by rw [v j (by omega) (by omega)]), q.2⟩
    · rw [v 20 (by omega) (by omega)]; exact o5 q hq
    · rw [ma_ne _ _ (by omega)]; exact c7
    · rw [ma_self]
    · by_cases q : t = t0
      · subst q
        rw [ma_self, ma_ne _ _ (by omega), f11, c8b]
        omega
      · rw [ma_ne _ _ (by omega), ma_ne _ _ (by omega)]
        exact c9 t (by omega)
  · unfold WDr WAct WCnd at d ⊢
    rw [cf 22 (by omega), cf 1 (by omega), cf 23 (by omega), cf 24 (by omega), cf 25 (by omega), cf 26 (by omega), cf 27 (by omega), cf 28 (by omega), cf 29 (by omega), cf 30 (by omega)]
    exact d
  · unfold WTk at e ⊢
    rw [cf 0 (by omega)]
    exact e
  · unfold WRe at g ⊢
    rw [cf 44 (by omega), cf 1 (by omega), v13, f13]
    refine ⟨g.1, g.2.1, ?_⟩
    rcases g.2.2 with q | q
    · exact Or.inl q
    · exact Or.inr ⟨q.1, q.2.1, q.2.2.1, q.2.2.2.1, q.2.2.2.2.1, by omega⟩
  · unfold WRo at i ⊢
    rw [cf 48 (by omega)]
    exact i
  · have ee : EJ (closeU (finU K)) L = EJ (finU K) L ∧ ET (closeU (finU K)) L = ET (finU K) L := by
      unfold EJ ET askQ clB kn
      rw [v 2 (by omega) (by omega), v 4 (by omega) (by omega), v 5 (by omega) (by omega), v 6 (by omega) (by omega), v 7 (by omega) (by omega), v9, v 17 (by omega) (by omega), v 18 (by omega) (by omega)]
      exact ⟨rfl, rfl⟩
    unfold ringF at hn ⊢
    rw [ee.1, ee.2]
    exact hn
abbrev QXe (N : Nat) (R : AV → MI → Prop) : Option AV → M5 → Prop := fun r M' => ∃ a U I' J', r = some a ∧ M' = MM N I' J' ∧ R a U ∧ ERx U I' ∧ svOK I' J'
def CommitR (K : MI) (L : MJ) (a : AV) (U : MI) : Prop :=
  (¬ roomP K → a = aI (-9) ∧ U = rfU K (-9)) ∧ (roomP K → (perfA K ≠ -1 → a = aI (-8) ∧ U = rfU (ma K 0 (ma (K 0) 13 (perfA K))) (-8)) ∧ (perfA K = -1 → (ringF (finU K) L → a = aI (-7) ∧ U = rfU K (-7)) ∧ (¬ ringF (finU K) L → a = aI (K 10 13 + 1) ∧ U = clrU (closeU (finU K)))))
theorem AtR.cases {K : MI} {L : MJ} {z : Int} {I : MI} (h : AtR K L z I) : (z = -9 ∧ ¬ roomP K ∧ ERx K I) ∨ (z = -8 ∧ roomP K ∧ perfA K ≠ -1 ∧ I 0 12 = perfA K ∧ ERx K I) ∨ (z = -7 ∧ roomP K ∧ perfA K = -1 ∧ ringF (finU K) L ∧ ERx K I) ∨ (z = 0 ∧ roomP K ∧ perfA K = -1 ∧ ¬ ringF (finU K) L ∧ ERx (closeU (finU K)) I) := by
  by_cases hr : roomP K
  · by_cases hp : perfA K = -1
    · by_cases hg : ringF (finU K) L
      · have := ((h.2 hr).2 hp).1 hg
        exact Or.inr (Or.inr (Or.inl ⟨this.1, hr, hp, hg, this.2⟩))
      · have := ((h.2 hr).2 hp).2 hg
        exact Or.inr (Or.inr (Or.inr ⟨this.1, hr, hp, hg, this.2⟩))
    · have := (h.2 hr).1 hp
      exact Or.inr (Or.inl ⟨this.1, hr, hp, this.2⟩)
  · have := h.1 hr
    exact Or.inl ⟨this.1, hr, this.2⟩
theorem ERx.clr {K I : MI} (h : ERx K I) : ERx (clrU K) (clrU I) := by
  have h1 := h.ma (i := 22) (k := 4) (v := 0) rfl (by omega)
  have h2 := h1.ma (i := 22) (k := 9) (v := 0) rfl (by omega)
  unfold clrU
  rw [ma_ma, ma_ma, ma_self, ma_self] at h2
  exact h2
theorem ERx.rf_ {I I' : MI} (h : Rf I) (hc : ERx I I') : Rf I' := by
  unfold Rf
  rw [hc.c (i := 51) rfl (by omega) (by omega)]
  exact h
theorem Rf_fin {K : MI} (h : Rf K) : Rf (closeU (finU K)) := by
  unfold Rf
  rw [(closeU_v _).1 51 (by omega) (by omega), show finU K 51 = K 51 from runU_ne K (by omega) _]
  exact h
theorem c_X9_commit {N : Nat} {I : MI} {J : MJ} (hX : WX I J) (hf : Rf I) : CT 77 [aR 0] (MM N I J) (QXe N (CommitR I J)) := by
  refine CT.ofV (n := 2) (ls := [some (aR 0), none]) rfl rfl rfl ?_
  refine V.blk [(0, .aload 0, 1)] (ps := []) (z' := (1, [some (aR 0), none], [aR 0], MM N I J)) (by decide +kernel) rfl trivial ?_
  refine V.cv (c := 99) (na := 1) (o := 9) (a := 0) [] [] (by decide +kernel) rfl rfl rfl rfl rfl ((c_attempt hX).mono (fun rv M1 q => ?_))
  obtain ⟨z, IA, JA, rfl, rfl, hA, hj8, hj9⟩ := q
  show V 77 (4, [some (aR 0), none], [aI z], MM N IA JA) _
  refine V.blk [(4, .istore 1, 1), (5, .iload 1, 1), (6, .bipush (-8), 2), (8, .if_icmp .ne 19, 3)] (ps := []) (z' := (brc .ne z (-8) 19 11, [some (aR 0), some (aI z)], [], MM N IA JA)) (by decide +kernel) rfl trivial ?_
  refine V.ne (fun bh1 => ?_) (fun bh2 => ?_)
  · skip
    try simp only [b2_cast, b2_ncast, Classical.not_not, lcm_lt, lcm_ge, lcm_gt, lcm_le, lcm_eq, b2_0, b2_n0, Bool.not_eq_false, Bool.not_eq_true, decide_eq_true_eq, decide_eq_false_iff_not] at bh1
    refine V.blk [(19, .iload 1, 1), (20, .ifCond .eq 29, 3)] (ps := []) (z' := (brc .eq z 0 29 23, [some (aR 0), some (aI z)], [], MM N IA JA)) (by decide +kernel) rfl trivial ?_
    refine V.eq (fun bh3 => ?_) (fun bh4 => ?_)
    · skip
      try simp only [b2_cast, b2_ncast, Classical.not_not, lcm_lt, lcm_ge, lcm_gt, lcm_le, lcm_eq, b2_0, b2_n0, Bool.not_eq_false, Bool.not_eq_true, decide_eq_true_eq, decide_eq_false_iff_not] at bh3
      refine V.blk [(29, .aload 0, 1), (30, .getfield 9003, 3)] (ps := []) (z' := (33, [some (aR 0), some (aI z)], [aR 22], MM N IA JA)) (by decide +kernel) rfl trivial ?_
      refine V.cv (c := 9) (na := 1) (o := 1) (a := 22) [] [] (by decide +kernel) rfl rfl rfl rfl rfl ((c_clear).mono (fun rv M1 q => ?_))
      obtain ⟨rfl, rfl⟩ := q
      show V 77 (36, [some (aR 0), some (aI z)], [], MM N ((clrU IA)) JA) _
      refine V.blk [(36, .aload 0, 1), (37, .getfield 9002, 3), (40, .getfield 3013, 3)] (ps := []) (z' := (43, [some (aR 0), some (aI z)], [aI ((clrU IA) 10 13)], MM N ((clrU IA)) JA)) (by decide +kernel) rfl trivial ?_
      refine V.nI (fun I5 eI5 => ?_)
      refine V.ri (by decide +kernel) ?_
      first
      | (exfalso; omega)
      | (rcases hA.cases with ⟨w, -⟩ | ⟨w, -⟩ | ⟨w, -⟩ | ⟨w, hr, hp, hg, hE⟩
         · exfalso; omega
         · exfalso; omega
         · exfalso; omega
         · have e13 : IA 10 13 = I 10 13 + 1 := by
             rw [hE.1.2.2.2.2.1 13 (by decide), (closeU_v _).2.1, show finU I 10 13 = I 10 13 from runU_10 I (by decide) (by decide) _]
           refine ⟨_, _, _, JA, rfl, rfl, ⟨fun w => absurd hr w, fun _ => ⟨fun w => absurd hp w, fun _ => ⟨fun w => absurd w hg, fun _ => ⟨?_, rfl⟩⟩⟩⟩, ?_, ?_⟩
           · subst_vars
             unfold clrU
             rw [ma_ne _ _ (show 10 ≠ 22 by decide), e13]
           · subst_vars
             exact hE.clr
           · have s2 := svOK_er (WX_close hX hr hp hg).2.2.2.2.2.2.2.1 hE hj8 hj9
             subst_vars
             refine svOK_congr s2 ?_ ?_ ?_ rfl rfl
             all_goals (unfold clrU; exact ma_ne _ _ (by decide)))
    · skip
      try simp only [b2_cast, b2_ncast, Classical.not_not, lcm_lt, lcm_ge, lcm_gt, lcm_le, lcm_eq, b2_0, b2_n0, Bool.not_eq_false, Bool.not_eq_true, decide_eq_true_eq, decide_eq_false_iff_not] at bh4
      have hz : z = -9 ∨ z = -8 ∨ z = -7 := by
        rcases hA.cases with ⟨w, -⟩ | ⟨w, -⟩ | ⟨w, -⟩ | ⟨w, -⟩ <;> omega
      have hfA : Rf IA := by
        have : Rf IA := by
          rcases hA.cases with ⟨w, hr, hE⟩ | ⟨w, hr, hp, h12, hE⟩ | ⟨w, hr, hp, hg, hE⟩ | ⟨w, hr, hp, hg, hE⟩
          · exact ERx.rf_ hf hE
          · exact ERx.rf_ hf hE
          · exact ERx.rf_ hf hE
          · exact ERx.rf_ (Rf_fin hf) hE
        first
          | exact this
          | (rw [eIA]; unfold Rf; rw [ma_ne _ _ (by decide)]; exact this)
      refine V.blk [(23, .aload 0, 1), (24, .iload 1, 1)] (ps := []) (z' := (25, [some (aR 0), some (aI z)], [aI z, aR 0], MM N IA JA)) (by decide +kernel) rfl trivial ?_
      refine V.cv (c := 98) (na := 2) (o := 9) (a := 0) [aI z] [] (by decide +kernel) rfl rfl rfl rfl rfl ((c_refuse (by assumption) (by omega)).mono (fun rv M1 q => ?_))
      obtain ⟨rfl, rfl⟩ := q
      show V 77 (28, [some (aR 0), some (aI z)], [aI z], MM N ((rfU IA z)) JA) _
      refine V.nI (fun I6 eI6 => ?_)
      refine V.ri (by decide +kernel) ?_
      rcases hA.cases with ⟨w, hr, hE⟩ | ⟨w, hr, hp, h12, hE⟩ | ⟨w, hr, hp, hg, hE⟩ | ⟨w, -⟩
      · first
          | (exfalso; omega)
          | (subst w
             refine ⟨_, _, _, JA, rfl, rfl, ⟨fun _ => ⟨rfl, rfl⟩, fun w => absurd w hr⟩, ?_, ?_⟩
             · subst_vars
               exact hE.rf _
             · subst_vars
               exact sv_rf (svOK_er hX.2.2.2.2.2.2.2.1 hE hj8 hj9))
      · first
          | (exfalso; omega)
          | (subst w
             refine ⟨_, _, _, JA, rfl, rfl, ⟨fun w => absurd hr w, fun _ => ⟨fun _ => ⟨rfl, rfl⟩, fun w => absurd w hp⟩⟩, ?_, ?_⟩
             · subst_vars
               rw [h12]
               exact (hE.ma (i := 0) (k := 13) (v := perfA I) rfl (by omega)).rf _
             · subst_vars
               refine sv_rf (svOK_congr (svOK_er hX.2.2.2.2.2.2.2.1 hE hj8 hj9) ?_ ?_ ?_ rfl rfl)
               all_goals exact ma_ne _ _ (by decide))
      · first
          | (exfalso; omega)
          | (subst w
             refine ⟨_, _, _, JA, rfl, rfl, ⟨fun w => absurd hr w, fun _ => ⟨fun w => absurd hp w, fun _ => ⟨fun _ => ⟨rfl, rfl⟩, fun w => absurd hg w⟩⟩⟩, ?_, ?_⟩
             · subst_vars
               exact hE.rf _
             · subst_vars
               exact sv_rf (svOK_er hX.2.2.2.2.2.2.2.1 hE hj8 hj9))
      · exfalso; omega
  · skip
    try simp only [b2_cast, b2_ncast, Classical.not_not, lcm_lt, lcm_ge, lcm_gt, lcm_le, lcm_eq, b2_0, b2_n0, Bool.not_eq_false, Bool.not_eq_true, decide_eq_true_eq, decide_eq_false_iff_not] at bh2
    refine V.blk [(11, .aload 0, 1), (12, .aload 0, 1), (13, .getfield 9012, 3), (16, .putfield 9013, 3), (19, .iload 1, 1), (20, .ifCond .eq 29, 3)] (ps := []) (z' := (brc .eq z 0 29 23, [some (aR 0), some (aI z)], [], MM N (ma IA 0 (ma (IA 0) 13 (IA 0 12))) JA)) (by decide +kernel) rfl trivial ?_
    refine V.nI (fun I7 eI7 => ?_)
    refine V.eq (fun bh8 => ?_) (fun bh9 => ?_)
    · skip
      try simp only [b2_cast, b2_ncast, Classical.not_not, lcm_lt, lcm_ge, lcm_gt, lcm_le, lcm_eq, b2_0, b2_n0, Bool.not_eq_false, Bool.not_eq_true, decide_eq_true_eq, decide_eq_false_iff_not] at bh8
      refine V.blk [(29, .aload 0, 1), (30, .getfield 9003, 3)] (ps := []) (z' := (33, [some (aR 0), some (aI z)], [aR 22], MM N I7 JA)) (by decide +kernel) rfl trivial ?_
      refine V.cv (c := 9) (na := 1) (o := 1) (a := 22) [] [] (by decide +kernel) rfl rfl rfl rfl rfl ((c_clear).mono (fun rv M1 q => ?_))
      obtain ⟨rfl, rfl⟩ := q
      show V 77 (36, [some (aR 0), some (aI z)], [], MM N ((clrU I7)) JA) _
      refine V.blk [(36, .aload 0, 1), (37, .getfield 9002, 3), (40, .getfield 3013, 3)] (ps := []) (z' := (43, [some (aR 0), some (aI z)], [aI ((clrU I7) 10 13)], MM N ((clrU I7)) JA)) (by decide +kernel) rfl trivial ?_
      refine V.nI (fun I10 eI10 => ?_)
      refine V.ri (by decide +kernel) ?_
      first
      | (exfalso; omega)
      | (rcases hA.cases with ⟨w, -⟩ | ⟨w, -⟩ | ⟨w, -⟩ | ⟨w, hr, hp, hg, hE⟩
         · exfalso; omega
         · exfalso; omega
         · exfalso; omega
         · have e13 : IA 10 13 = I 10 13 + 1 := by
             rw [hE.1.2.2.2.2.1 13 (by decide), (closeU_v _).2.1, show finU I 10 13 = I 10 13 from runU_10 I (by decide) (by decide) _]
           refine ⟨_, _, _, JA, rfl, rfl, ⟨fun w => absurd hr w, fun _ => ⟨fun w => absurd hp w, fun _ => ⟨fun w => absurd w hg, fun _ => ⟨?_, rfl⟩⟩⟩⟩, ?_, ?_⟩
           · subst_vars
             unfold clrU
             rw [ma_ne _ _ (show 10 ≠ 22 by decide), e13]
           · subst_vars
             exact hE.clr
           · have s2 := svOK_er (WX_close hX hr hp hg).2.2.2.2.2.2.2.1 hE hj8 hj9
             subst_vars
             refine svOK_congr s2 ?_ ?_ ?_ rfl rfl
             all_goals (unfold clrU; exact ma_ne _ _ (by decide)))
    · skip
      try simp only [b2_cast, b2_ncast, Classical.not_not, lcm_lt, lcm_ge, lcm_gt, lcm_le, lcm_eq, b2_0, b2_n0, Bool.not_eq_false, Bool.not_eq_true, decide_eq_true_eq, decide_eq_false_iff_not] at bh9
      have hz : z = -9 ∨ z = -8 ∨ z = -7 := by
        rcases hA.cases with ⟨w, -⟩ | ⟨w, -⟩ | ⟨w, -⟩ | ⟨w, -⟩ <;> omega
      have hfA : Rf I7 := by
        have : Rf IA := by
          rcases hA.cases with ⟨w, hr, hE⟩ | ⟨w, hr, hp, h12, hE⟩ | ⟨w, hr, hp, hg, hE⟩ | ⟨w, hr, hp, hg, hE⟩
          · exact ERx.rf_ hf hE
          · exact ERx.rf_ hf hE
          · exact ERx.rf_ hf hE
          · exact ERx.rf_ (Rf_fin hf) hE
        first
          | exact this
          | (rw [eI7]; unfold Rf; rw [ma_ne _ _ (by decide)]; exact this)
      refine V.blk [(23, .aload 0, 1), (24, .iload 1, 1)] (ps := []) (z' := (25, [some (aR 0), some (aI z)], [aI z, aR 0], MM N I7 JA)) (by decide +kernel) rfl trivial ?_
      refine V.cv (c := 98) (na := 2) (o := 9) (a := 0) [aI z] [] (by decide +kernel) rfl rfl rfl rfl rfl ((c_refuse (by assumption) (by omega)).mono (fun rv M1 q => ?_))
      obtain ⟨rfl, rfl⟩ := q
      show V 77 (28, [some (aR 0), some (aI z)], [aI z], MM N ((rfU I7 z)) JA) _
      refine V.nI (fun I11 eI11 => ?_)
      refine V.ri (by decide +kernel) ?_
      rcases hA.cases with ⟨w, hr, hE⟩ | ⟨w, hr, hp, h12, hE⟩ | ⟨w, hr, hp, hg, hE⟩ | ⟨w, -⟩
      · first
          | (exfalso; omega)
          | (subst w
             refine ⟨_, _, _, JA, rfl, rfl, ⟨fun _ => ⟨rfl, rfl⟩, fun w => absurd w hr⟩, ?_, ?_⟩
             · subst_vars
               exact hE.rf _
             · subst_vars
               exact sv_rf (svOK_er hX.2.2.2.2.2.2.2.1 hE hj8 hj9))
      · first
          | (exfalso; omega)
          | (subst w
             refine ⟨_, _, _, JA, rfl, rfl, ⟨fun w => absurd hr w, fun _ => ⟨fun _ => ⟨rfl, rfl⟩, fun w => absurd w hp⟩⟩, ?_, ?_⟩
             · subst_vars
               rw [h12]
               exact (hE.ma (i := 0) (k := 13) (v := perfA I) rfl (by omega)).rf _
             · subst_vars
               refine sv_rf (svOK_congr (svOK_er hX.2.2.2.2.2.2.2.1 hE hj8 hj9) ?_ ?_ ?_ rfl rfl)
               all_goals exact ma_ne _ _ (by decide))
      · first
          | (exfalso; omega)
          | (subst w
             refine ⟨_, _, _, JA, rfl, rfl, ⟨fun w => absurd hr w, fun _ => ⟨fun w => absurd hp w, fun _ => ⟨fun _ => ⟨rfl, rfl⟩, fun w => absurd hg w⟩⟩⟩, ?_, ?_⟩
             · subst_vars
               exact hE.rf _
             · subst_vars
               exact sv_rf (svOK_er hX.2.2.2.2.2.2.2.1 hE hj8 hj9))
      · exfalso; omega
