/-! ===== who is in costs something that can be told (no memory, no machine) ===== -/
theorem swF_at {K : MI} {cp : Nat → Bool} {lev : Nat → Int} {l : Int} {v : SV} : ∀ n s, s < n → swF K cp lev l n v s = if lev (kS K s) = l then tellV K cp (swF K cp lev l s v) s else v s
  | 0, _, h => by omega
  | n + 1, s, h => by
    by_cases e : s = n
    · subst e
      show (if lev (kS K s) = l then ma (swF K cp lev l s v) s (tellV K cp (swF K cp lev l s v) s) else swF K cp lev l s v) s = _
      split
      · rw [ma_self]
      · exact swF_out s s (Or.inl (Nat.le_refl _))
    · rw [← swF_at n s (by omega)]
      show (if lev (kS K n) = l then ma (swF K cp lev l n v) n (tellV K cp (swF K cp lev l n v) n) else swF K cp lev l n v) s = _
      split
      · rw [ma_ne _ _ e]
      · rfl
theorem swF_fixed {K : MI} {cp : Nat → Bool} {lev : Nat → Int} {l : Int} {v : SV} {m : Nat} (h : swF K cp lev l m v = v) : ∀ n, n ≤ m → swF K cp lev l n v = v := by
  intro n hn
  funext s
  by_cases e : s < n
  · have a := swF_at (K := K) (cp := cp) (lev := lev) (l := l) (v := v) n s e
    have b := swF_at (K := K) (cp := cp) (lev := lev) (l := l) (v := v) m s (by omega)
    rw [a, ← b, h]
  · exact swF_out n s (Or.inl (by omega))
theorem swp_told {K : MI} {cp : Nat → Bool} {lev : Nat → Int} {l : Int} {v : SV} (h : swp K cp lev l v = v) {s : Nat} (hs : (s : Int) < K 1 1 * 8) (hl : lev (kS K s) = l) : tellV K cp v s = v s := by
  unfold swp at h
  have a := swF_at (K := K) (cp := cp) (lev := lev) (l := l) (v := v) (K 1 1 * 8).toNat s (by omega)
  rw [if_pos hl, h, swF_fixed h s (by omega)] at a
  exact a.symm
theorem fill_ind {K : MI} {cp : Nat → Bool} {lev : Nat → Int} {l : Int} {u w : SV} {Inv : SV → Prop} (hF : Fill K cp lev l u w) (h0 : Inv u) (hs : ∀ (v : SV) (s : Nat), (s : Int) < K 1 1 * 8 → lev (kS K s) = l → Inv v → Inv (ma v s (tellV K cp v s))) : Inv w := by
  obtain ⟨k, rfl, -⟩ := hF
  induction k with
  | zero => exact h0
  | succ k ih =>
    show Inv (swF K cp lev l (K 1 1 * 8).toNat (itr K cp lev l k u))
    have : ∀ n, n ≤ (K 1 1 * 8).toNat → Inv (swF K cp lev l n (itr K cp lev l k u)) := by
      intro n
      induction n with
      | zero => intro _; exact ih
      | succ n ih2 =>
        intro hn
        unfold swF
        split
        · rename_i e
          exact hs _ n (by omega) e (ih2 (by omega))
        · exact ih2 (by omega)
    exact this _ (Nat.le_refl _)
theorem fill_out {K : MI} {cp : Nat → Bool} {lev : Nat → Int} {l : Int} {u w : SV} (hF : Fill K cp lev l u w) {s : Nat} (h : lev (kS K s) ≠ l) : w s = u s := by
  obtain ⟨k, rfl, -⟩ := hF
  exact itr_out h k
theorem tellV_lev {K : MI} {L : MJ} (h : ScP K L) {cp : Nat → Bool} {v w : SV} {s : Nat} (hs : s < 320) (e : ∀ r, r < 320 → lv K L (kS K r) ≤ lv K L (kS K s) → v r = w r) : tellV K cp v s = tellV K cp w s := by
  apply sub.anti
  · exact tellV_mono h hs (fun r hr q => e r hr (by omega)) (fun r hr q => by rw [e r hr q]; exact sub.refl _)
  · exact tellV_mono h hs (fun r hr q => (e r hr (by omega)).symm) (fun r hr q => by rw [e r hr q]; exact sub.refl _)
theorem setsR_fix {K : MI} {L : MJ} (h : ScP K L) {cp : Nat → Bool} : ∀ (n : Nat) (v : SV), SetsR K cp (lv K L) n v → ∀ s : Nat, (s : Int) < K 1 1 * 8 → lv K L (kS K s) < n → tellV K cp v s = v s
  | 0, v, _, s, hs, hl => by
    have h40 := h.2.2.2.1.1
    have := h.2.2.2.2.2.2.2.2 _ (kS_lt h.1 (s := s) (by omega))
    omega
  | n + 1, w, ⟨v, h1, h2⟩, s, hs, hl => by
    have h40 := h.2.2.2.1.1
    by_cases e : lv K L (kS K s) = n
    · obtain ⟨k, -, hf⟩ := h2
      exact swp_told hf hs e
    · rw [fill_out h2 e, ← setsR_fix h n v h1 s hs (by omega)]
      exact tellV_lev h (by omega) fun r hr q => fill_out h2 (by omega)
theorem sets_fix {K : MI} {L : MJ} (h : ScP K L) {cp : Nat → Bool} {v : SV} (hv : SETS K L cp v) {s : Nat} (hs : (s : Int) < K 1 1 * 8) : tellV K cp v s = v s := by
  obtain ⟨-, n, h1, h2⟩ := hv
  have h40 := h.2.2.2.1.1
  exact setsR_fix h n v h2 s hs (h1 _ (kS_lt h.1 (by omega)))
theorem setsR_out {K : MI} {cp : Nat → Bool} {lev : Nat → Int} : ∀ (n : Nat) (v : SV), SetsR K cp lev n v → ∀ s : Nat, K 1 1 * 8 ≤ s → v s = Int64.ofInt 0
  | 0, v, h, s, hs => by
    have h : v = v0 := h
    rw [h]; rfl
  | n + 1, w, ⟨v, h1, h2⟩, s, hs => by
    refine fill_ind (Inv := fun u => u s = Int64.ofInt 0) h2 (setsR_out n v h1 s hs) fun u r hr _ hu => ?_
    show ma u r (tellV K cp u r) s = _
    rw [ma_ne _ _ (by omega)]
    exact hu
theorem sets_out {K : MI} {L : MJ} {cp : Nat → Bool} {v : SV} (hv : SETS K L cp v) {s : Nat} (hs : K 1 1 * 8 ≤ s) : v s = Int64.ofInt 0 := by
  obtain ⟨-, n, h1, h2⟩ := hv
  exact setsR_out n v h2 s hs
/-- what is taken away is of lower levels -/
theorem pl_tk {K : MI} {L : MJ} (h : ScP K L) {cp : Nat → Bool} {v w : SV} {s r : Nat} (hs : s < 320) (hr64 : r < 64) (er : K 7 (kS K s) = r) (hlt : ∀ s', s' < 320 → lv K L (kS K s') < lv K L (kS K s) → v s' = w s') : ∀ p, p < 64 → tb (L 9 r) p = true → pl K cp v s p = pl K cp w s p := by
  obtain ⟨hk, hl, hr, hq, hm, h7, hsv, hst, -⟩ := h
  have hks := kS_lt hk hs
  have rd : ∀ p, p < 64 → ∀ s', Rd K cp s p s' → tb (L 9 r) p = true → v s' = w s' := by
    intro p hp s' q t
    have a := q.ask hp hr hq hk hm hs
    have b := q.lt hp hr hq hs
    have c := hst (kS K s) (kS K s') hks (kS_lt hk b)
    have l9 := (sv_lt hsv hl r hr64 p hp).2 t
    have := c.2 ⟨p, by omega, by rw [er]; exact t, a⟩
    exact hlt s' b (by omega)
  intro p
  induction p using Nat.strongRecOn with
  | ind p ih =>
    intro hp t
    have ll := fun a b => hl p hp a b
    have cl := sv_clo hsv hl r hr64 p hp
    apply sub.anti
    · rw [pl_eq hl hp, pl_eq hl hp]
      refine plS_mono (fun s' q => by rw [rd p hp s' q t]; exact sub.refl _) (fun a b => ?_) (fun a b => ?_) (fun a => ?_)
      · have := ll a b
        rw [ih _ (by omega) (by omega) ((cl a b).2 t).1]; exact sub.refl _
      · have := ll a (by omega)
        rw [ih _ (by omega) (by omega) ((cl a (by omega)).2 t).2]; exact sub.refl _
      · have := ll (by omega) (by omega)
        rw [ih _ (by omega) (by omega) ((cl (by omega) (by omega)).2 t).2]; exact sub.refl _
    · rw [pl_eq hl hp, pl_eq hl hp]
      refine plS_mono (fun s' q => by rw [rd p hp s' q t]; exact sub.refl _) (fun a b => ?_) (fun a b => ?_) (fun a => ?_)
      · have := ll a b
        rw [ih _ (by omega) (by omega) ((cl a b).2 t).1]; exact sub.refl _
      · have := ll a (by omega)
        rw [ih _ (by omega) (by omega) ((cl a (by omega)).2 t).2]; exact sub.refl _
      · have := ll (by omega) (by omega)
        rw [ih _ (by omega) (by omega) ((cl (by omega) (by omega)).2 t).2]; exact sub.refl _
/-- costs as they are at the end: what is known of them -/
def CK (K : MI) (cp : Nat → Bool) (v : SV) (pe : Nat) (c : Nat → Int) : Prop := CPos c ∧ (∀ s, s < 320 → c s ≤ 320 ∨ c s = 1000000) ∧ ∀ s, s < 320 → c s = if tb (v s) pe = true then prT K cp v c pe s else 1000000
theorem cst_ck {K : MI} {L : MJ} (h : ScP K L) (cp : Nat → Bool) (v : SV) (pe : Nat) : CK K cp v pe (cst K cp v pe) := ⟨cst_pos h, fun _ hs => (cst_in h hs).2, fun _ hs => cst_eq h hs⟩
theorem up1_fin {a : Int} (h : a ≤ 320) : up1 a ≤ 321 := by
  unfold up1
  split <;> omega
theorem pr_fin {K : MI} {L : MJ} (h : ScP K L) {cp : Nat → Bool} {v w : SV} {c : Nat → Int} {pe s : Nat} (hpe : pe < 64) (hs : s < 320) (hw : ∀ r, r < 320 → tb (w r) pe = true → c r ≤ 320) (hlt : ∀ r, r < 320 → lv K L (kS K r) < lv K L (kS K s) → w r = v r) (t : tb (tellV K cp w s) pe = true) : prT K cp v c pe s ≤ 321 := by
  have g7 := h.2.2.2.2.2.1 _ (kS_lt h.1 hs)
  have htk := fun r hr er => pl_tk h (cp := cp) hs (r := r) hr er hlt
  obtain ⟨hk, hl, hr, hq, hm, h7, hsv, hst, -⟩ := h
  have q0 := hq.1
  unfold tellV at t
  unfold prT
  by_cases e : K 7 (kS K s) = -1
  · rw [if_pos e, tb_0] at t; cases t
  rw [if_neg e] at t ⊢
  obtain ⟨r, er⟩ : ∃ r : Nat, K 7 (kS K s) = r := ⟨(K 7 (kS K s)).toNat, by omega⟩
  have hr64 : r < 64 := by omega
  have tk := htk r hr64 er
  rw [er] at t ⊢
  change tb (pl K cp w s r) pe = true at t
  show pr K cp v c pe s r ≤ 321
  have key : ∀ p, p < 64 → tb (L 8 r) p = true → tb (pl K cp w s p) pe = true → pr K cp v c pe s p ≤ 321 := by
    intro p
    induction p using Nat.strongRecOn with
    | ind p ih =>
      intro hp hj t
      have ll := fun a b => hl p hp a b
      have rr := hr p hp
      have cl := sv_clo hsv hl r hr64 p hp
      rw [pl_eq hl hp] at t
      rw [pr_eq hl hp]
      unfold plS at t
      unfold prS
      have hmm : ∀ u, tb (mkI (MemB K cp w s u)) pe = true → up1 (mnF (spB K cp s) (bhM K c pe u) (K 10 9).toNat) ≤ 321 := by
        intro u t
        rw [tb_mkI hpe] at t
        obtain ⟨q, a, b, d, e, f, g⟩ := t
        have k := (bs_mn (spB K cp s) (bhM K c pe u) (K 10 9).toNat).1 q (by omega) (spB_t.mpr ⟨b, d⟩)
        have w2 := hq.2 q a
        apply up1_fin
        refine Int.le_trans k ?_
        unfold bhM
        rw [if_pos e]
        rcases g with ⟨g1, g2⟩ | ⟨g1, g2⟩
        · rw [if_neg (by omega), if_pos g2.symm]; omega
        · rw [if_pos g1]; exact hw _ (by omega) g2
      by_cases c0 : K 4 p = 0
      · rw [if_pos c0] at t ⊢; exact hmm _ t
      rw [if_neg c0] at t ⊢
      by_cases c1 : K 4 p = 1
      · rw [if_pos c1] at t ⊢; exact hmm _ t
      rw [if_neg c1] at t ⊢
      by_cases c2 : K 4 p = 2
      · rw [if_pos c2] at t ⊢; exact up1_fin (hw _ (by omega) t)
      rw [if_neg c2] at t ⊢
      by_cases c3 : K 4 p = 3
      · rw [if_pos c3] at t ⊢
        rw [tb_mkI hpe] at t
        obtain ⟨q, a, b, d, e, f⟩ := t
        have k := (bs_mn (spB K cp (s / 8 * 8 + (K 5 p).toNat)) (bhT K c (K 6 p).toNat) (K 10 9).toNat).1 q (by omega) (spB_t.mpr ⟨b, d⟩)
        have w2 := hq.2 q a
        apply up1_fin
        refine Int.le_trans k ?_
        unfold bhT
        rw [if_neg e]
        exact hw _ (by omega) f
      rw [if_neg c3] at t ⊢
      by_cases c4 : K 4 p = 4
      · rw [if_pos c4] at t ⊢
        have := ll (by omega) (by omega)
        have cj := (cl (by omega) (by omega)).1 hj
        rw [tb_or, Bool.or_eq_true] at t
        rcases t with t | t
        · have := ih _ (by omega) (by omega) cj.1 t
          split <;> omega
        · have := ih _ (by omega) (by omega) (cj.2.1 (by omega)) t
          split <;> omega
      rw [if_neg c4] at t ⊢
      by_cases c5 : K 4 p = 5
      · rw [if_pos c5] at t ⊢
        have := ll (by omega) (by omega)
        have cj := (cl (by omega) (by omega)).1 hj
        rw [tb_and, Bool.and_eq_true] at t
        have i1 := ih _ (by omega) (by omega) cj.1 t.1
        have i2 := ih _ (by omega) (by omega) (cj.2.1 (by omega)) t.2
        split <;> omega
      rw [if_neg c5] at t ⊢
      by_cases c6 : K 4 p = 6
      · rw [if_pos c6] at t ⊢
        have := ll (by omega) (by omega)
        have cj := (cl (by omega) (by omega)).1 hj
        rw [tb_and, Bool.and_eq_true, tb_not _ hpe, tk _ (by omega) (cj.2.2 c6)] at t
        have i1 := ih _ (by omega) (by omega) cj.1 t.1
        rw [if_neg (by simpa using t.2)]
        exact i1
      rw [if_neg c6, tb_0] at t
      cases t
  exact key r hr64 (sv_self hsv hr64) t
/-- who is in costs no more than 320 -/
theorem sets_fin {K : MI} {L : MJ} (h : ScP K L) {cp : Nat → Bool} {v : SV} {c : Nat → Int} {pe : Nat} (hpe : pe < 64) (hv : SETS K L cp v) (hc : CK K cp v pe c) : ∀ s, s < 320 → tb (v s) pe = true → c s ≤ 320 := by
  have h40 := h.2.2.2.1.1
  obtain ⟨n, h1, h2⟩ := hv.2
  have main : ∀ (n : Nat) (u : SV), SetsR K cp (lv K L) n u → (∀ s, s < 320 → lv K L (kS K s) < n → u s = v s) → (∀ s, s < 320 → sub (u s) (v s)) ∧ ∀ s, s < 320 → tb (u s) pe = true → c s ≤ 320 := by
    intro n
    induction n with
    | zero =>
      intro u hu _
      have hu : u = v0 := hu
      subst hu
      exact ⟨fun s _ => sub_0 _, fun s _ t => by unfold v0 at t; rw [tb_0] at t; cases t⟩
    | succ n ih =>
      intro w hw he
      obtain ⟨u, hu, hF⟩ := hw
      have eu : ∀ s, s < 320 → lv K L (kS K s) < n → u s = v s := fun s hs hl => by rw [← fill_out hF (by omega)]; exact he s hs (by omega)
      obtain ⟨i1, i2⟩ := ih u hu eu
      have g := fill_ind (Inv := fun x => (∀ s, s < 320 → lv K L (kS K s) < n → x s = v s) ∧ (∀ s, s < 320 → sub (x s) (v s)) ∧ ∀ s, s < 320 → tb (x s) pe = true → c s ≤ 320) hF ⟨eu, i1, i2⟩ ?_
      · exact ⟨g.2.1, g.2.2⟩
      · intro x s hs hl hx
        obtain ⟨x1, x2, x3⟩ := hx
        have hs3 : s < 320 := by omega
        have hsub : sub (tellV K cp x s) (v s) := by
          rw [← sets_fix h hv hs]
          exact tellV_mono h hs3 (fun r hr q => x1 r hr (by omega)) (fun r hr _ => x2 r hr)
        refine ⟨fun r hr q => ?_, fun r hr => ?_, fun r hr t => ?_⟩
        · rw [ma_ne _ _ (by intro e; subst e; omega)]; exact x1 r hr q
        · by_cases e : r = s
          · subst e; rw [ma_self]; exact hsub
          · rw [ma_ne _ _ e]; exact x2 r hr
        · by_cases e : r = s
          · subst e
            rw [ma_self] at t
            have f := pr_fin h (v := v) hpe hs3 x3 (fun r hr q => x1 r hr (by omega)) t
            have tv := hsub pe hpe t
            have e2 := hc.2.2 r hr
            rw [if_pos tv] at e2
            have := hc.2.1 r hr
            omega
          · rw [ma_ne _ _ e] at t; exact x3 r hr t
  exact (main n v h2 fun _ _ _ => rfl).2
