/-! ===== the reason: what a place tells of one who is in (no memory, no machine) ===== -/
theorem plS_congr {K : MI} {cp : Nat → Bool} {v w : SV} {s p : Nat} {T T' : Nat → Int64} (hr : ∀ s', Rd K cp s p s' → v s' = w s') (hx : 4 ≤ K 4 p → K 4 p ≤ 6 → T (K 5 p).toNat = T' (K 5 p).toNat ∧ T (K 6 p).toNat = T' (K 6 p).toNat) : plS K cp v s T p = plS K cp w s T' p := by
  apply sub.anti
  · exact plS_mono (fun s' q => by rw [hr s' q]; exact sub.refl _) (fun a b => by rw [(hx a b).1]; exact sub.refl _) (fun a b => by rw [(hx a (by omega)).2]; exact sub.refl _) (fun a => by rw [(hx (by omega) (by omega)).2]; exact sub.refl _)
  · exact plS_mono (fun s' q => by rw [hr s' q]; exact sub.refl _) (fun a b => by rw [(hx a b).1]; exact sub.refl _) (fun a b => by rw [(hx a (by omega)).2]; exact sub.refl _) (fun a => by rw [(hx (by omega) (by omega)).2]; exact sub.refl _)
theorem pl_congr {K : MI} {L : MJ} (h : ScP K L) {cp : Nat → Bool} {v w : SV} (e : ∀ s, s < 320 → v s = w s) {s : Nat} (hs : s < 320) : ∀ p, p < 64 → pl K cp v s p = pl K cp w s p := by
  obtain ⟨hk, hl, hr, hq, -⟩ := h
  intro p
  induction p using Nat.strongRecOn with
  | ind p ih =>
    intro hp
    rw [pl_eq hl hp, pl_eq hl hp]
    refine plS_congr (fun s' q => e s' (q.lt hp hr hq hs)) fun a b => ?_
    have := hl p hp a b
    exact ⟨ih _ (by omega) (by omega), ih _ (by omega) (by omega)⟩
theorem bs_congr {b : Nat → Bool} {f g : Nat → Int} : ∀ n, (∀ q, q < n → b q = true → f q = g q) → mnF b f n = mnF b g n ∧ bsF b f n = bsF b g n
  | 0, _ => ⟨rfl, rfl⟩
  | n + 1, h => by
    obtain ⟨i1, i2⟩ := bs_congr n fun q hq => h q (by omega)
    have j := h n (by omega)
    have e1 : ∀ f : Nat → Int, mnF b f (n + 1) = if b n = true ∧ f n < mnF b f n then f n else mnF b f n := fun _ => rfl
    have e2 : ∀ f : Nat → Int, bsF b f (n + 1) = if b n = true ∧ f n < mnF b f n then (n : Int) else bsF b f n := fun _ => rfl
    rw [e1, e1, e2, e2, i1, i2]
    by_cases hb : b n = true
    · rw [j hb]; exact ⟨rfl, rfl⟩
    · simp [hb]
theorem bhX_congr {K : MI} {L : MJ} (h : ScP K L) {c d : Nat → Int} (e : ∀ s, s < 320 → c s = d s) {pe q p : Nat} (hp : p < 64) (a : (q : Int) < K 10 9) : bhX K c pe q p = bhX K d pe q p := by
  obtain ⟨hk, hl, hr, hq, -⟩ := h
  have w := hq.2 q a
  have w0 := hq.1
  have r := hr p hp
  unfold bhX bhT bhM
  split
  · split
    · rfl
    · exact e _ (by omega)
  · split
    · split
      · exact e _ (by omega)
      · rfl
    · rfl
theorem lfQ_congr {K : MI} {L : MJ} (h : ScP K L) {cp : Nat → Bool} {c d : Nat → Int} (e : ∀ s, s < 320 → c s = d s) {pe s p : Nat} (hp : p < 64) : lfQ K cp c pe s p = lfQ K cp d pe s p := by
  unfold lfQ
  exact (bs_congr _ fun q hq _ => bhX_congr h e hp (by omega)).2
theorem pr_congr {K : MI} {L : MJ} (h : ScP K L) {cp : Nat → Bool} {v w : SV} {c d : Nat → Int} (ev : ∀ s, s < 320 → v s = w s) (ec : ∀ s, s < 320 → c s = d s) {pe s : Nat} (hs : s < 320) : ∀ p, p < 64 → pr K cp v c pe s p = pr K cp w d pe s p := by
  intro p
  induction p using Nat.strongRecOn with
  | ind p ih =>
    intro hp
    have hl := h.2.1
    have hr := h.2.2.1 p hp
    have ll := hl p hp
    rw [pr_eq hl hp, pr_eq hl hp]
    by_cases c0 : K 4 p = 0 ∨ K 4 p = 1 ∨ K 4 p = 3
    · rw [prS_lf c0, prS_lf c0, (bs_congr _ fun q hq _ => bhX_congr h ec hp (by omega)).1]
    · unfold prS
      rw [if_neg (show ¬ K 4 p = 0 by omega), if_neg (show ¬ K 4 p = 0 by omega), if_neg (show ¬ K 4 p = 1 by omega), if_neg (show ¬ K 4 p = 1 by omega)]
      by_cases c2 : K 4 p = 2
      · rw [if_pos c2, if_pos c2, ec _ (by omega)]
      rw [if_neg c2, if_neg c2, if_neg (show ¬ K 4 p = 3 by omega), if_neg (show ¬ K 4 p = 3 by omega)]
      by_cases hj : 4 ≤ K 4 p ∧ K 4 p ≤ 6
      · have l := ll hj.1 hj.2
        rw [ih _ (show (K 5 p).toNat < p by omega) (by omega), ih _ (show (K 6 p).toNat < p by omega) (by omega), pl_congr h ev hs _ (show (K 6 p).toNat < 64 by omega)]
      · rw [if_neg (show ¬ K 4 p = 4 by omega), if_neg (show ¬ K 4 p = 4 by omega), if_neg (show ¬ K 4 p = 5 by omega), if_neg (show ¬ K 4 p = 5 by omega), if_neg (show ¬ K 4 p = 6 by omega), if_neg (show ¬ K 4 p = 6 by omega)]
theorem prT_congr {K : MI} {L : MJ} (h : ScP K L) {cp : Nat → Bool} {v w : SV} {c d : Nat → Int} (ev : ∀ s, s < 320 → v s = w s) (ec : ∀ s, s < 320 → c s = d s) {pe s : Nat} (hs : s < 320) : prT K cp v c pe s = prT K cp w d pe s := by
  have := h.2.2.2.2.2.1 _ (kS_lt h.1 hs)
  unfold prT
  split
  · rfl
  · exact pr_congr h ev ec hs _ (by omega)
theorem csF_cg {K : MI} {L : MJ} (h : ScP K L) {cp : Nat → Bool} {v w : SV} {c d : Nat → Int} (ev : ∀ s, s < 320 → v s = w s) (ec : ∀ s, s < 320 → c s = d s) {pe : Nat} : ∀ n, n ≤ 320 → ∀ s, s < 320 → csF K cp v pe n c s = csF K cp w pe n d s
  | 0, _, s, hs => ec s hs
  | n + 1, hn, s, hs => by
    have i := csF_cg h (cp := cp) ev ec (pe := pe) n (by omega)
    unfold csF
    rw [ev n (by omega)]
    split
    · by_cases q : s = n
      · subst q
        rw [ma_self, ma_self]
        exact prT_congr h ev i hs
      · rw [ma_ne _ _ q, ma_ne _ _ q]; exact i s hs
    · exact i s hs
theorem cst_cg {K : MI} {L : MJ} (h : ScP K L) {cp : Nat → Bool} {v w : SV} (ev : ∀ s, s < 320 → v s = w s) {pe : Nat} : ∀ s, s < 320 → cst K cp v pe s = cst K cp w pe s := by
  have : ∀ k s, s < 320 → cit K cp v pe k s = cit K cp w pe k s := by
    intro k
    induction k with
    | zero => intro s _; rfl
    | succ k ih => intro s hs; exact csF_cg h ev ih 320 (Nat.le_refl _) s hs
  exact this 320
/-- what is known where a reason is told -/
def RP (K : MI) (L : MJ) (cp : Nat → Bool) (v : SV) (pe : Nat) (c : Nat → Int) : Prop := ScP K L ∧ pe < 64 ∧ CK K cp v pe c
def Fi (K : MI) (L : MJ) (cp : Nat → Bool) (v : SV) (pe : Nat) (c : Nat → Int) (s p : Nat) : Prop := s < 320 ∧ p < 64 ∧ (∃ r : Nat, r < 64 ∧ K 7 (kS K s) = (r : Int) ∧ askd L r p = true) ∧ pr K cp v c pe s p ≤ c s ∧ c s ≤ 320
theorem RP.root {K : MI} {L : MJ} {cp : Nat → Bool} {v : SV} {pe : Nat} {c : Nat → Int} (h : RP K L cp v pe c) {s : Nat} (hs : s < 320) (hc : c s < 1000000) : ∃ r : Nat, r < 64 ∧ K 7 (kS K s) = (r : Int) ∧ pr K cp v c pe s r = c s ∧ Fi K L cp v pe c s r := by
  obtain ⟨hS, hpe, c1, c2, c3⟩ := h
  have e := c3 s hs
  have i := c2 s hs
  have h7 := hS.2.2.2.2.2.1 _ (kS_lt hS.1 hs)
  by_cases hb : tb (v s) pe = true
  · rw [if_pos hb] at e
    unfold prT at e
    split at e
    · omega
    · obtain ⟨r, er⟩ : ∃ r : Nat, K 7 (kS K s) = r := ⟨(K 7 (kS K s)).toNat, by omega⟩
      rw [er] at e
      change c s = pr K cp v c pe s r at e
      refine ⟨r, by omega, er, e.symm, hs, by omega, ⟨r, by omega, er, askd_or.mpr (Or.inl (sv_self hS.2.2.2.2.2.2.1 (by omega)))⟩, by omega, by omega⟩
  · rw [if_neg hb] at e
    omega
def nxC (K : MI) (q p : Nat) : Int := if K 4 p = 3 then K 19 q * 8 + K 6 p else K 18 q
section FI
variable {K : MI} {L : MJ} {cp : Nat → Bool} {v : SV} {pe : Nat} {c : Nat → Int} {s p : Nat}
theorem Fi.in_ (h : RP K L cp v pe c) (hf : Fi K L cp v pe c s p) : 1 ≤ pr K cp v c pe s p ∧ pr K cp v c pe s p ≤ 320 := by
  obtain ⟨hS, hpe, c1, c2, c3⟩ := h
  have := pr_in (cp := cp) (v := v) (pe := pe) hS.2.1 hS.2.2.1 hS.2.2.2.1 hf.1 c1 p hf.2.1
  have := hf.2.2.2
  omega
theorem Fi.kids (h : RP K L cp v pe c) (hf : Fi K L cp v pe c s p) (h4 : 4 ≤ K 4 p) (h6 : K 4 p ≤ 6) : (0 ≤ K 5 p ∧ (K 5 p).toNat < p ∧ 0 ≤ K 6 p ∧ (K 6 p).toNat < p) ∧ ∃ r : Nat, r < 64 ∧ K 7 (kS K s) = (r : Int) ∧ askd L r (K 5 p).toNat = true ∧ askd L r (K 6 p).toNat = true := by
  obtain ⟨hS, hpe, c1, c2, c3⟩ := h
  obtain ⟨f1, f2, ⟨r, f3, f4, f5⟩, f6, f7⟩ := hf
  have l := hS.2.1 p f2 h4 h6
  have cl := askd_clo hS.2.2.2.2.2.2.1 hS.2.1 f3 f2 h4 h6 f5
  exact ⟨by omega, r, f3, f4, cl⟩
theorem Fi.also (h : RP K L cp v pe c) (hf : Fi K L cp v pe c s p) (e : K 4 p = 2) : ∃ r : Nat, r < 64 ∧ s / 8 * 8 + (K 5 p).toNat < 320 ∧ K 7 (kS K (s / 8 * 8 + (K 5 p).toNat)) = (r : Int) ∧ Fi K L cp v pe c (s / 8 * 8 + (K 5 p).toNat) r ∧ pr K cp v c pe (s / 8 * 8 + (K 5 p).toNat) r = pr K cp v c pe s p - 1 ∧ c (s / 8 * 8 + (K 5 p).toNat) = pr K cp v c pe s p - 1 := by
  have i := hf.in_ h
  have rr := h.1.2.2.1 p hf.2.1
  have hs := hf.1
  have ep := pr_eq (cp := cp) (v := v) (c := c) (pe := pe) (s := s) h.1.2.1 hf.2.1
  unfold prS at ep
  rw [if_neg (show ¬ K 4 p = 0 by omega), if_neg (show ¬ K 4 p = 1 by omega), if_pos e] at ep
  have ec := up1_at ep.symm (by omega)
  obtain ⟨r, r1, r2, r3, r4⟩ := h.root (s := s / 8 * 8 + (K 5 p).toNat) (by omega) (by omega)
  exact ⟨r, r1, by omega, r2, r4, by omega, ec⟩
theorem Fi.any (h : RP K L cp v pe c) (hf : Fi K L cp v pe c s p) (e : K 4 p = 4) : (pr K cp v c pe s (K 6 p).toNat < pr K cp v c pe s (K 5 p).toNat → Fi K L cp v pe c s (K 6 p).toNat ∧ pr K cp v c pe s (K 6 p).toNat = pr K cp v c pe s p) ∧ (pr K cp v c pe s (K 5 p).toNat ≤ pr K cp v c pe s (K 6 p).toNat → Fi K L cp v pe c s (K 5 p).toNat ∧ pr K cp v c pe s (K 5 p).toNat = pr K cp v c pe s p) := by
  obtain ⟨k, r, k1, k2, k3, k4⟩ := hf.kids h (by omega) (by omega)
  have ep := pr_eq (cp := cp) (v := v) (c := c) (pe := pe) (s := s) h.1.2.1 hf.2.1
  unfold prS at ep
  rw [if_neg (show ¬ K 4 p = 0 by omega), if_neg (show ¬ K 4 p = 1 by omega), if_neg (show ¬ K 4 p = 2 by omega), if_neg (show ¬ K 4 p = 3 by omega), if_pos e] at ep
  obtain ⟨f1, f2, f3, f6, f7⟩ := hf
  constructor
  · intro w
    rw [if_pos w] at ep
    exact ⟨⟨f1, by omega, ⟨r, k1, k2, k4⟩, by omega, f7⟩, ep.symm⟩
  · intro w
    rw [if_neg (by omega)] at ep
    exact ⟨⟨f1, by omega, ⟨r, k1, k2, k3⟩, by omega, f7⟩, ep.symm⟩
theorem Fi.all (h : RP K L cp v pe c) (hf : Fi K L cp v pe c s p) (e : K 4 p = 5) : Fi K L cp v pe c s (K 5 p).toNat ∧ Fi K L cp v pe c s (K 6 p).toNat ∧ pr K cp v c pe s (K 5 p).toNat ≤ pr K cp v c pe s p ∧ pr K cp v c pe s (K 6 p).toNat ≤ pr K cp v c pe s p := by
  obtain ⟨k, r, k1, k2, k3, k4⟩ := hf.kids h (by omega) (by omega)
  have ep := pr_eq (cp := cp) (v := v) (c := c) (pe := pe) (s := s) h.1.2.1 hf.2.1
  unfold prS at ep
  rw [if_neg (show ¬ K 4 p = 0 by omega), if_neg (show ¬ K 4 p = 1 by omega), if_neg (show ¬ K 4 p = 2 by omega), if_neg (show ¬ K 4 p = 3 by omega), if_neg (show ¬ K 4 p = 4 by omega), if_pos e] at ep
  obtain ⟨f1, f2, f3, f6, f7⟩ := hf
  have : pr K cp v c pe s (K 5 p).toNat ≤ pr K cp v c pe s p ∧ pr K cp v c pe s (K 6 p).toNat ≤ pr K cp v c pe s p := by
    split at ep <;> omega
  exact ⟨⟨f1, by omega, ⟨r, k1, k2, k3⟩, by omega, f7⟩, ⟨f1, by omega, ⟨r, k1, k2, k4⟩, by omega, f7⟩, this⟩
theorem Fi.less (h : RP K L cp v pe c) (hf : Fi K L cp v pe c s p) (e : K 4 p = 6) : Fi K L cp v pe c s (K 5 p).toNat ∧ pr K cp v c pe s (K 5 p).toNat = pr K cp v c pe s p := by
  have i := hf.in_ h
  obtain ⟨k, r, k1, k2, k3, k4⟩ := hf.kids h (by omega) (by omega)
  have ep := pr_eq (cp := cp) (v := v) (c := c) (pe := pe) (s := s) h.1.2.1 hf.2.1
  unfold prS at ep
  rw [if_neg (show ¬ K 4 p = 0 by omega), if_neg (show ¬ K 4 p = 1 by omega), if_neg (show ¬ K 4 p = 2 by omega), if_neg (show ¬ K 4 p = 3 by omega), if_neg (show ¬ K 4 p = 4 by omega), if_neg (show ¬ K 4 p = 5 by omega), if_pos e] at ep
  obtain ⟨f1, f2, f3, f6, f7⟩ := hf
  have : pr K cp v c pe s (K 5 p).toNat = pr K cp v c pe s p := by
    split at ep <;> omega
  exact ⟨⟨f1, by omega, ⟨r, k1, k2, k3⟩, by omega, f7⟩, this⟩
theorem Fi.leaf (h : RP K L cp v pe c) (hf : Fi K L cp v pe c s p) (h2 : K 4 p ≠ 2) (h46 : ¬ (4 ≤ K 4 p ∧ K 4 p ≤ 6)) : (K 4 p = 0 ∨ K 4 p = 1 ∨ K 4 p = 3) ∧ ∃ q : Nat, (q : Int) < K 10 9 ∧ lfQ K cp c pe s p = (q : Int) ∧ spB K cp (fsp K s p) q = true ∧ bhX K c pe q p = pr K cp v c pe s p - 1 ∧ (∀ r : Nat, r < q → spB K cp (fsp K s p) r = true → pr K cp v c pe s p - 1 < bhX K c pe r p) ∧ ((nxC K q p = -1 ∧ K 4 p ≠ 3 ∧ K 13 q = (pe : Int) ∧ pr K cp v c pe s p = 1) ∨ ∃ s' r : Nat, s' < 320 ∧ r < 64 ∧ nxC K q p = (s' : Int) ∧ K 7 (kS K s') = (r : Int) ∧ Fi K L cp v pe c s' r ∧ pr K cp v c pe s' r = pr K cp v c pe s p - 1 ∧ c s' = pr K cp v c pe s p - 1) := by
  have i := hf.in_ h
  have rr := h.1.2.2.1 p hf.2.1
  have ep := pr_eq (cp := cp) (v := v) (c := c) (pe := pe) (s := s) h.1.2.1 hf.2.1
  have hk : K 4 p = 0 ∨ K 4 p = 1 ∨ K 4 p = 3 := by
    apply Classical.byContradiction
    intro w
    unfold prS at ep
    rw [if_neg (show ¬ K 4 p = 0 by omega), if_neg (show ¬ K 4 p = 1 by omega), if_neg (show ¬ K 4 p = 2 by omega), if_neg (show ¬ K 4 p = 3 by omega), if_neg (show ¬ K 4 p = 4 by omega), if_neg (show ¬ K 4 p = 5 by omega), if_neg (show ¬ K 4 p = 6 by omega)] at ep
    omega
  refine ⟨hk, ?_⟩
  rw [prS_lf hk] at ep
  have em := up1_at ep.symm (by omega)
  rcases (bs_mn (spB K cp (fsp K s p)) (fun q => bhX K c pe q p) (K 10 9).toNat).2 with ⟨-, b⟩ | ⟨q, b1, b2, b3, b4, b5, b6⟩
  · omega
  · have b4 : bhX K c pe q p = mnF (spB K cp (fsp K s p)) (fun q => bhX K c pe q p) (K 10 9).toNat := b4
    have b4 : bhX K c pe q p = pr K cp v c pe s p - 1 := by omega
    have w := h.1.2.2.2.1.2 q (by omega)
    have w0 := h.1.2.2.2.1.1
    refine ⟨q, by omega, b2, b3, by omega, fun r hr hb => by have := b6 r hr hb; omega, ?_⟩
    unfold bhX at b4
    unfold nxC
    split at b4
    · rename_i e3
      unfold bhT at b4
      split at b4
      · omega
      · right
        rw [if_pos e3]
        obtain ⟨r, r1, r2, r3, r4⟩ := h.root (s := (K 19 q).toNat * 8 + (K 6 p).toNat) (by omega) (by omega)
        exact ⟨_, r, by omega, r1, by omega, r2, r4, by omega, by omega⟩
    · rename_i e3
      unfold bhM at b4
      rw [if_neg e3]
      split at b4
      · split at b4
        · right
          obtain ⟨r, r1, r2, r3, r4⟩ := h.root (s := (K 18 q).toNat) (by omega) (by omega)
          exact ⟨_, r, by omega, r1, by omega, r2, r4, by omega, by omega⟩
        · split at b4
          · left
            exact ⟨by omega, e3, by assumption, by omega⟩
          · omega
      · omega
end FI
/-- what is told from a place on -/
noncomputable def tl (K : MI) (cp : Nat → Bool) (v : SV) (pe : Nat) (c : Nat → Int) : Nat → Nat → Nat → List Int
  | 0, _, _ => []
  | f + 1, s, p =>
    if K 4 p = 2 then tl K cp v pe c f (s / 8 * 8 + (K 5 p).toNat) (K 7 (kS K (s / 8 * 8 + (K 5 p).toNat))).toNat
    else if K 4 p = 4 then tl K cp v pe c f s (if pr K cp v c pe s (K 6 p).toNat < pr K cp v c pe s (K 5 p).toNat then (K 6 p).toNat else (K 5 p).toNat)
    else if K 4 p = 5 then tl K cp v pe c f s (K 5 p).toNat ++ tl K cp v pe c f s (K 6 p).toNat
    else if K 4 p = 6 then tl K cp v pe c f s (K 5 p).toNat
    else lfQ K cp c pe s p :: (if nxC K (lfQ K cp c pe s p).toNat p = -1 then [] else tl K cp v pe c f (nxC K (lfQ K cp c pe s p).toNat p).toNat (K 7 (kS K (nxC K (lfQ K cp c pe s p).toNat p).toNat)).toNat)
noncomputable def mz (K : MI) (cp : Nat → Bool) (v : SV) (pe : Nat) (c : Nat → Int) (s p : Nat) : Nat := (64 * pr K cp v c pe s p).toNat + p
section TL
variable {K : MI} {L : MJ} {cp : Nat → Bool} {v : SV} {pe : Nat} {c : Nat → Int}
theorem tl_fuel (h : RP K L cp v pe c) : ∀ (n s p : Nat), Fi K L cp v pe c s p → mz K cp v pe c s p < n → ∀ f g, n ≤ f → n ≤ g → tl K cp v pe c f s p = tl K cp v pe c g s p := by
  intro n
  induction n with
  | zero => intro s p _ hm; omega
  | succ n ih =>
    intro s p hf hm f g h1 h2
    obtain ⟨f, rfl⟩ : ∃ k, f = k + 1 := ⟨f - 1, by omega⟩
    obtain ⟨g, rfl⟩ : ∃ k, g = k + 1 := ⟨g - 1, by omega⟩
    have i := hf.in_ h
    have hp := hf.2.1
    unfold mz at ih hm
    unfold tl
    by_cases c2 : K 4 p = 2
    · rw [if_pos c2, if_pos c2]
      obtain ⟨r, r1, r2, r3, r4, r5, -⟩ := hf.also h c2
      rw [r3]
      exact ih _ r r4 (by omega) f g (by omega) (by omega)
    rw [if_neg c2, if_neg c2]
    by_cases c4 : K 4 p = 4
    · rw [if_pos c4, if_pos c4]
      obtain ⟨k, -⟩ := hf.kids h (by omega) (by omega)
      obtain ⟨a1, a2⟩ := hf.any h c4
      split
      · rename_i w
        obtain ⟨b1, b2⟩ := a1 w
        exact ih s _ b1 (by omega) f g (by omega) (by omega)
      · rename_i w
        obtain ⟨b1, b2⟩ := a2 (by omega)
        exact ih s _ b1 (by omega) f g (by omega) (by omega)
    rw [if_neg c4, if_neg c4]
    by_cases c5 : K 4 p = 5
    · rw [if_pos c5, if_pos c5]
      obtain ⟨k, -⟩ := hf.kids h (by omega) (by omega)
      obtain ⟨a1, a2, a3, a4⟩ := hf.all h c5
      rw [ih s _ a1 (by omega) f g (by omega) (by omega), ih s _ a2 (by omega) f g (by omega) (by omega)]
    rw [if_neg c5, if_neg c5]
    by_cases c6 : K 4 p = 6
    · rw [if_pos c6, if_pos c6]
      obtain ⟨k, -⟩ := hf.kids h (by omega) (by omega)
      obtain ⟨a1, a2⟩ := hf.less h c6
      exact ih s _ a1 (by omega) f g (by omega) (by omega)
    rw [if_neg c6, if_neg c6]
    obtain ⟨-, q, q1, q2, -, -, -, q5⟩ := hf.leaf h c2 (by omega)
    rw [q2]
    show (q : Int) :: (if nxC K q p = -1 then [] else tl K cp v pe c f (nxC K q p).toNat (K 7 (kS K (nxC K q p).toNat)).toNat) = (q : Int) :: (if nxC K q p = -1 then [] else tl K cp v pe c g (nxC K q p).toNat (K 7 (kS K (nxC K q p).toNat)).toNat)
    rcases q5 with ⟨q5, -⟩ | ⟨s', r, r1, r2, r3, r4, r5, r6, -⟩
    · rw [if_pos q5, if_pos q5]
    · rw [if_neg (by omega), if_neg (by omega), r3]
      show (q : Int) :: tl K cp v pe c f s' (K 7 (kS K s')).toNat = (q : Int) :: tl K cp v pe c g s' (K 7 (kS K s')).toNat
      rw [r4]
      show (q : Int) :: tl K cp v pe c f s' r = (q : Int) :: tl K cp v pe c g s' r
      rw [ih s' r r5 (by omega) f g (by omega) (by omega)]
noncomputable def tale (K : MI) (cp : Nat → Bool) (v : SV) (pe : Nat) (c : Nat → Int) (s p : Nat) : List Int := tl K cp v pe c 20545 s p
theorem mz_in {s p : Nat} (h : RP K L cp v pe c) (hf : Fi K L cp v pe c s p) : mz K cp v pe c s p < 20544 := by
  have i := hf.in_ h
  have := hf.2.1
  unfold mz
  omega
theorem tale_fuel {s p : Nat} (h : RP K L cp v pe c) (hf : Fi K L cp v pe c s p) : tl K cp v pe c 20544 s p = tale K cp v pe c s p := tl_fuel h 20544 s p hf (mz_in h hf) _ _ (Nat.le_refl _) (by omega)
theorem tale_S (s p : Nat) : tale K cp v pe c s p = (if K 4 p = 2 then tl K cp v pe c 20544 (s / 8 * 8 + (K 5 p).toNat) (K 7 (kS K (s / 8 * 8 + (K 5 p).toNat))).toNat
    else if K 4 p = 4 then tl K cp v pe c 20544 s (if pr K cp v c pe s (K 6 p).toNat < pr K cp v c pe s (K 5 p).toNat then (K 6 p).toNat else (K 5 p).toNat)
    else if K 4 p = 5 then tl K cp v pe c 20544 s (K 5 p).toNat ++ tl K cp v pe c 20544 s (K 6 p).toNat
    else if K 4 p = 6 then tl K cp v pe c 20544 s (K 5 p).toNat
    else lfQ K cp c pe s p :: (if nxC K (lfQ K cp c pe s p).toNat p = -1 then [] else tl K cp v pe c 20544 (nxC K (lfQ K cp c pe s p).toNat p).toNat (K 7 (kS K (nxC K (lfQ K cp c pe s p).toNat p).toNat)).toNat)) := rfl
theorem tale_also {s p r : Nat} (h : RP K L cp v pe c) (e : K 4 p = 2) (r3 : K 7 (kS K (s / 8 * 8 + (K 5 p).toNat)) = (r : Int)) (r4 : Fi K L cp v pe c (s / 8 * 8 + (K 5 p).toNat) r) : tale K cp v pe c s p = tale K cp v pe c (s / 8 * 8 + (K 5 p).toNat) r := by
  rw [tale_S, if_pos e, r3]
  exact tale_fuel h r4
theorem tale_any {s p : Nat} (h : RP K L cp v pe c) (hf : Fi K L cp v pe c s p) (e : K 4 p = 4) : tale K cp v pe c s p = tale K cp v pe c s (if pr K cp v c pe s (K 6 p).toNat < pr K cp v c pe s (K 5 p).toNat then (K 6 p).toNat else (K 5 p).toNat) := by
  obtain ⟨a1, a2⟩ := hf.any h e
  rw [tale_S, if_neg (by omega), if_pos e]
  split
  · rename_i w; exact tale_fuel h (a1 w).1
  · rename_i w; exact tale_fuel h (a2 (by omega)).1
theorem tale_all {s p : Nat} (h : RP K L cp v pe c) (hf : Fi K L cp v pe c s p) (e : K 4 p = 5) : tale K cp v pe c s p = tale K cp v pe c s (K 5 p).toNat ++ tale K cp v pe c s (K 6 p).toNat := by
  obtain ⟨a1, a2, -⟩ := hf.all h e
  rw [tale_S, if_neg (by omega), if_neg (by omega), if_pos e, tale_fuel h a1, tale_fuel h a2]
theorem tale_less {s p : Nat} (h : RP K L cp v pe c) (hf : Fi K L cp v pe c s p) (e : K 4 p = 6) : tale K cp v pe c s p = tale K cp v pe c s (K 5 p).toNat := by
  obtain ⟨a1, -⟩ := hf.less h e
  rw [tale_S, if_neg (by omega), if_neg (by omega), if_neg (by omega), if_pos e, tale_fuel h a1]
theorem tale_end {s p q : Nat} (h2 : K 4 p ≠ 2) (h46 : ¬ (4 ≤ K 4 p ∧ K 4 p ≤ 6)) (eq : lfQ K cp c pe s p = (q : Int)) (en : nxC K q p = -1) : tale K cp v pe c s p = [(q : Int)] := by
  rw [tale_S, if_neg (by omega), if_neg (by omega), if_neg (by omega), if_neg (by omega), eq]
  show (q : Int) :: (if nxC K q p = -1 then [] else _) = _
  rw [if_pos en]
theorem tale_next {s p q s' r : Nat} (h : RP K L cp v pe c) (h2 : K 4 p ≠ 2) (h46 : ¬ (4 ≤ K 4 p ∧ K 4 p ≤ 6)) (eq : lfQ K cp c pe s p = (q : Int)) (en : nxC K q p = (s' : Int)) (er : K 7 (kS K s') = (r : Int)) (hf : Fi K L cp v pe c s' r) : tale K cp v pe c s p = (q : Int) :: tale K cp v pe c s' r := by
  rw [tale_S, if_neg (by omega), if_neg (by omega), if_neg (by omega), if_neg (by omega), eq]
  show (q : Int) :: (if nxC K q p = -1 then [] else tl K cp v pe c 20544 (nxC K q p).toNat (K 7 (kS K (nxC K q p).toNat)).toNat) = _
  rw [if_neg (by omega), en]
  show (q : Int) :: tl K cp v pe c 20544 s' (K 7 (kS K s')).toNat = _
  rw [er]
  exact congrArg _ (tale_fuel h hf)
theorem tale_pos (h : RP K L cp v pe c) : ∀ (n s p : Nat), Fi K L cp v pe c s p → mz K cp v pe c s p < n → 1 ≤ (tale K cp v pe c s p).length := by
  intro n
  induction n with
  | zero => intro s p _ hm; omega
  | succ n ih =>
    intro s p hf hm
    have i := hf.in_ h
    have hp := hf.2.1
    unfold mz at ih hm
    by_cases c2 : K 4 p = 2
    · obtain ⟨r, r1, r2, r3, r4, r5, -⟩ := hf.also h c2
      rw [tale_also h c2 r3 r4]
      exact ih _ r r4 (by omega)
    by_cases c4 : K 4 p = 4
    · obtain ⟨k, -⟩ := hf.kids h (by omega) (by omega)
      obtain ⟨a1, a2⟩ := hf.any h c4
      rw [tale_any h hf c4]
      split
      · rename_i w
        obtain ⟨b1, b2⟩ := a1 w
        exact ih s _ b1 (by omega)
      · rename_i w
        obtain ⟨b1, b2⟩ := a2 (by omega)
        exact ih s _ b1 (by omega)
    by_cases c5 : K 4 p = 5
    · obtain ⟨k, -⟩ := hf.kids h (by omega) (by omega)
      obtain ⟨a1, a2, a3, a4⟩ := hf.all h c5
      rw [tale_all h hf c5, List.length_append]
      have := ih s _ a1 (by omega)
      omega
    by_cases c6 : K 4 p = 6
    · obtain ⟨k, -⟩ := hf.kids h (by omega) (by omega)
      obtain ⟨a1, a2⟩ := hf.less h c6
      rw [tale_less h hf c6]
      exact ih s _ a1 (by omega)
    rw [tale_S, if_neg c2, if_neg c4, if_neg c5, if_neg c6, List.length_cons]
    omega
theorem tale_len {s p : Nat} (h : RP K L cp v pe c) (hf : Fi K L cp v pe c s p) : 1 ≤ (tale K cp v pe c s p).length := tale_pos h 20544 s p hf (mz_in h hf)
end TL
/-! lists in arrays -/
def lsA (a : Nat → Int) : Nat → List Int
  | 0 => []
  | n + 1 => lsA a n ++ [a n]
theorem lsA_len (a : Nat → Int) : ∀ n, (lsA a n).length = n
  | 0 => rfl
  | n + 1 => by unfold lsA; rw [List.length_append, lsA_len a n]; rfl
theorem lsA_congr {a b : Nat → Int} : ∀ n, (∀ i, i < n → a i = b i) → lsA a n = lsA b n
  | 0, _ => rfl
  | n + 1, h => by unfold lsA; rw [lsA_congr n fun i hi => h i (by omega), h n (by omega)]
theorem lsA_put (a : Nat → Int) (n : Nat) (x : Int) : lsA (ma a n x) (n + 1) = lsA a n ++ [x] := by
  show lsA (ma a n x) n ++ [ma a n x n] = _
  rw [ma_self, lsA_congr n fun i hi => ma_ne _ _ (by omega)]
theorem lsA_inj {a b : Nat → Int} : ∀ {n m : Nat}, lsA a n = lsA b m → n = m ∧ ∀ i, i < n → a i = b i := by
  intro n m h
  have hl : n = m := by
    have := congrArg List.length h
    rw [lsA_len, lsA_len] at this
    exact this
  subst hl
  refine ⟨rfl, ?_⟩
  induction n with
  | zero => intro i hi; omega
  | succ n ih =>
    unfold lsA at h
    have h2 := List.append_inj' h rfl
    intro i hi
    by_cases e : i = n
    · subst e
      have := h2.2
      simpa using this
    · exact ih h2.1 i (by omega)
/-- what waits, the last one ahead -/
def flW (T : Nat → Nat → List Int) (a b : Nat → Int) : Nat → List Int
  | 0 => []
  | n + 1 => T (a n).toNat (b n).toNat ++ flW T a b n
theorem flW_congr {T : Nat → Nat → List Int} {a b a' b' : Nat → Int} : ∀ n, (∀ i, i < n → a' i = a i ∧ b' i = b i) → flW T a' b' n = flW T a b n
  | 0, _ => rfl
  | n + 1, h => by
    unfold flW
    rw [flW_congr n fun i hi => h i (by omega), (h n (by omega)).1, (h n (by omega)).2]
theorem flW_shift (T : Nat → Nat → List Int) (a b : Nat → Int) : ∀ n, flW T a b (n + 1) = flW T (fun i => a (i + 1)) (fun i => b (i + 1)) n ++ T (a 0).toNat (b 0).toNat
  | 0 => by
    show T (a 0).toNat (b 0).toNat ++ [] = [] ++ _
    simp
  | n + 1 => by
    show T (a (n + 1)).toNat (b (n + 1)).toNat ++ flW T a b (n + 1) = (T (a (n + 1)).toNat (b (n + 1)).toNat ++ flW T (fun i => a (i + 1)) (fun i => b (i + 1)) n) ++ _
    rw [flW_shift T a b n, List.append_assoc]
theorem take_of {a r t : List Int} {n : Nat} (h : a ++ r = t) (hn : a.length = n) (h2 : r = [] ∧ n ≤ 60 ∨ n = 60) : a = t.take 60 := by
  subst h
  rcases h2 with ⟨rfl, h2⟩ | h2
  · rw [List.append_nil, List.take_of_length_le (by omega)]
  · rw [← h2, ← hn, List.take_left' rfl]
