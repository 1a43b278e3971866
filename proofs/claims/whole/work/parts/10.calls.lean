/-! ===== a run of the plain machine is a run of the real one ===== -/
def KOk (L : Nat) (xs : Nat → Int32) (K : Nat → List AV → M5 → Option AV → M5 → Prop) : Prop := ∀ c args M rv M1, K c args M rv M1 → (∀ v ∈ args, okV v) → okM L xs M → (∀ v, rv = some v → okV v) ∧ okM L xs M1 ∧ M.1 ≤ M1.1 ∧ slT M.1 M.2.1 ≤ slT M1.1 M1.2.1
theorem run_ok {L : Nat} {xs : Nat → Int32} {K : Nat → List AV → M5 → Option AV → M5 → Prop} {y : Nat} (hK : KOk L xs K) : ∀ (k : Nat) (z : ST) (r : Option AV) (M' : M5), runK K y k z r M' → okS L xs z → (∀ v, r = some v → okV v) ∧ okM L xs M' ∧ z.2.2.2.1 ≤ M'.1 ∧ slT z.2.2.2.1 z.2.2.2.2.1 ≤ slT M'.1 M'.2.1 := by
  intro k
  induction k with
  | zero => intro z r M' h; exact h.elim
  | succ k ih =>
    intro z r M' h hs
    simp only [runK] at h
    split at h
    · exact h.elim
    · obtain ⟨q, h1, h2, rfl, rfl⟩ := h
      refine ⟨fun v hv => ?_, hs.2.2, Nat.le_refl _, Nat.le_refl _⟩
      cases hv
      exact hs.2.1 _ (by rw [h1]; exact List.mem_cons_self)
    · obtain ⟨q, h1, h2, rfl, rfl⟩ := h
      refine ⟨fun v hv => ?_, hs.2.2, Nat.le_refl _, Nat.le_refl _⟩
      cases hv
      trivial
    · obtain ⟨h1, h2, rfl, rfl⟩ := h
      exact ⟨(fun v hv => by cases hv), hs.2.2, Nat.le_refl _, Nat.le_refl _⟩
    · obtain ⟨h1, rv, M1, h2, h3, h4⟩ := h
      obtain ⟨g1, g2, g3, g4⟩ := hK _ _ _ _ _ h2 (fun v hv => hs.2.1 v (List.mem_of_mem_take (List.mem_reverse.mp hv))) hs.2.2
      obtain ⟨q1, q2, q3, q4⟩ := ih _ _ _ h4 ⟨hs.1, fun v hv => by
        rcases List.mem_append.mp hv with hv | hv
        · exact g1 v (by cases rv with
            | none => cases hv
            | some w => simp only [Option.toList, List.mem_singleton] at hv; rw [hv])
        · exact hs.2.1 v (List.mem_of_mem_drop hv), g2⟩
      exact ⟨q1, q2, Nat.le_trans g3 q3, Nat.le_trans g4 q4⟩
    · obtain ⟨ps, z', h1, h2, h3⟩ := h
      obtain ⟨g1, g2, g3⟩ := stp_ok h1 h2 hs
      obtain ⟨q1, q2, q3, q4⟩ := ih _ _ _ h3 g1
      exact ⟨q1, q2, Nat.le_trans g2 q3, Nat.le_trans g3 q4⟩
theorem Rn_ok (L : Nat) (xs : Nat → Int32) : ∀ d, KOk L xs (Rn d) := by
  intro d
  induction d with
  | zero => intro c args M rv M1 h; exact h.elim
  | succ d ih =>
    intro c args M rv M1 h ha hM
    obtain ⟨-, k, h⟩ := h
    exact run_ok ih k _ _ _ h ⟨ok_ent ha, (fun v hv => by cases hv), hM⟩
abbrev tys3 (g : G3) : List (ClassId × FieldType) := [(g.1, .int), (g.2.1, .long), (g.2.2, .boolean)]
def pmPre (D : va_G) (g : G3) (b0 : Nat) (M : M5) (U : State) : Prop := U.heap.size = b0 + M.1 ∧ va_P D vwCl (wl g b0 M) U.heap ∧ va_K D vwCl (tys3 g) U ∧ ∀ i ∈ nstP, ∀ w, lw_tbl[i]? = some w → va_Nw w U
def pmQ (D : va_G) (g : G3) (b0 b : Nat) (rv : Option AV) (M1 : M5) : Array Value → State → Outcome → State → Prop := fun _ st oc t => oc = .returned (rv.map (cv b0 b)) ∧ va_P D vwCl (wl g b0 M1) t.heap ∧ st.heap.size ≤ t.heap.size ∧ ∀ q : Nat, q < b0 → t.heap[q]? = st.heap[q]?
def wsM (c : Nat) : List Cond := Cond.code (mY c) (mB c) (mL c) (mR c) :: bigW
def rmM (c : Nat) (M M1 : M5) : Room := { frames := mFr c, cells := M1.1 - M.1, slots := slT M1.1 M1.2.1 - slT M.1 M.2.1, locals := mLo c }
def Ctr (l : Launch) (b c : Nat) (args : List AV) (M : M5) (rv : Option AV) (M1 : M5) : Prop := ∀ (D : va_G) (g : G3) (b0 : Nat), Met l (mY c) (wsM c) (rmM c M M1) (va_Pc (args.map (cv b0 b)) (pmPre D g b0 M)) (pmQ D g b0 b rv M1) (M1.1 - M.1) (slT M1.1 M1.2.1 - slT M.1 M.2.1) (fun q => b0 ≤ q)
def isNest : Cond → Bool
  | .methodLinkNest .. => true
  | _ => false
theorem tb_nst : ∀ i ∈ nstP, (lw_tbl[i]?).all isNest = true := by decide +kernel
theorem nst_shape {i : Nat} {w : Cond} (hi : i ∈ nstP) (hw : lw_tbl[i]? = some w) : ∃ a j x h, w = .methodLinkNest a j x h := by
  have := tb_nst i hi
  rw [hw] at this
  have h1 : isNest w = true := this
  unfold isNest at h1
  split at h1
  · exact ⟨_, _, _, _, rfl⟩
  · cases h1
theorem pmPre_blind (D : va_G) (g : G3) (b0 : Nat) (M : M5) (av : List Value) : FrameBlind (va_Pc av (pmPre D g b0 M)) := by
  intro a U gg mk q
  obtain ⟨q0, q1, qP, qK, qN⟩ := q
  refine ⟨q0, q1, qP, va_K.moved (u := U) (U := U.calling gg mk a) (Vm.Alike.refl U.vm) qK, fun i hi w hw => ?_⟩
  obtain ⟨_, _, _, _, rfl⟩ := nst_shape hi hw
  exact va_Nw.same (u := U) rfl rfl (qN i hi _ hw)
section MAIN
variable {p : Program} {l : Launch} {e : Env} {R : Room} {s : State} {m : MethodId} {args : Array Value} {below : List Frame} {meth : Method} {c : Code} {Q : State → Prop} {D : va_G} {g : G3} {b0 b L : Nat} {xs : Nat → Int32} {y n0 q0 Nc Ns : Nat}
variable {pc len : Nat} {ls : LV} {st : List AV} {M : M5} {ps : List Prop} {z' : ST}
theorem pre_at (hC : pmCx p l R s m args meth c D g b0 b L xs y n0 q0 Nc Ns) {H : Heap} (h1 : wld D g b0 M H) (hH : H.size = b0 + M.1) : ∀ U : State, U.heap = H → s.WarmedH U.vm → pmPre D g b0 M U := by
  intro U hU hW
  obtain ⟨-, -, -, -, -, hK, hN, -⟩ := hC
  refine ⟨by rw [hU]; exact hH, by rw [hU]; exact h1, va_K.moved hW.alike hK, fun i hi w hw => ?_⟩
  obtain ⟨_, _, _, _, rfl⟩ := nst_shape hi hw
  exact va_Nw.warmM hW (hN i hi _ hw)
theorem run_go {H : Heap} {locs : List Loc} {cells slots mc ms : Nat} {rl : Array Slot} {st0 rest : List Value} {a : Array Value} {rv : Option AV} {M1 : M5} (hr : va_Run p l e R s m args below meth c H locs cells slots mc ms (F0 m pc rl st0) rest (pmQ D g b0 b rv M1 a) (fun q => b0 ≤ q)) (hS : va_S (fun q => b0 ≤ q) s.heap H locs)
    (kk : ∀ (H1 : Heap) (locs1 : List Loc), wld D g b0 M1 H1 → va_S (fun q => b0 ≤ q) s.heap H1 locs1 → W p l e R s m args below meth c H1 locs1 (cells + mc) (slots + ms) Q (F0 m (pc + 3) rl ((rv.map (cv b0 b)).toList ++ rest))) : W p l e R s m args below meth c H locs cells slots Q (F0 m pc rl st0) := by
  intro T hT X
  obtain ⟨v, st₀, t, T', Lx, h0, X', hL, e1, e2, ⟨hv, hP, hz, hk⟩, stp'⟩ := hr T hT X
  cases hv
  rw [h0] at hz hk
  obtain ⟨t2, a1, b1⟩ := kk T'.heap (locs ++ Lx) (by rw [e1]; exact hP) ⟨Nat.le_trans hS.1 (by rw [e1]; exact hz), fun q g1 g2 => by
      rw [e1, hk q (Nat.not_le.mp g2)]
      exact hS.2.1 q g1 g2, fun q hq => by
      rcases List.mem_append.mp hq with h | h
      · exact hS.2.2 q h
      · exact hL q h⟩ T' rfl X'
  exact ⟨t2, stp' t2 a1, b1⟩
theorem mth_big {i : Nat} {t : Nat × Nat × Nat} (h : mthQ (mO y) i = some t) (ht : t.1 < 1000) : 0 < t.1 ∧ t.1 < 200 ∧ ((t.2.1 = 0 ∧ Cond.methodLink (nmO (mO y)) i (mY t.1) ∈ bigW) ∨ (t.2.1 ≠ 0 ∧ t.2.2 ∈ nstP ∧ lw_tbl[t.2.2]? = some (Cond.methodLinkNest (nmO (mO y)) i (mY t.1) "RightsWeb"))) := by
  obtain ⟨h1, h2, h3, h4⟩ := tb_mth _ (find2 h) ht
  refine ⟨h1, h2, ?_⟩
  by_cases hz : t.2.1 = 0
  · refine Or.inl ⟨hz, big_at (p := t.2.2) ?_ (gw_ok _ (by first | rfl | simp [Cond.onTables, Cond.keeps, Cond.steady]))⟩
    have h3 : lw_tbl[t.2.2]? = some (bif t.2.1 == 0 then Cond.methodLink (nmO (mO y)) i (mY t.1) else Cond.methodLinkNest (nmO (mO y)) i (mY t.1) "RightsWeb") := h3
    rw [hz] at h3
    exact h3
  · refine Or.inr ⟨hz, ?_, ?_⟩
    · rcases h4 with h4 | h4
      · exact absurd h4 hz
      · exact h4
    · have h3 : lw_tbl[t.2.2]? = some (bif t.2.1 == 0 then Cond.methodLink (nmO (mO y)) i (mY t.1) else Cond.methodLinkNest (nmO (mO y)) i (mY t.1) "RightsWeb") := h3
      rw [show (t.2.1 == 0) = false by simpa using hz] at h3
      exact h3
theorem wsM_good {cid : Nat} (h0 : 0 < cid) (h1 : cid < 200) : GoodIn bigW (wsM cid) := by
  intro w hw
  have hw2 : w ∈ bigW := by
    rcases List.mem_cons.mp hw with rfl | hw
    · exact big_at (tb_code cid h1 h0) (gw_ok _ (by first | rfl | simp [Cond.onTables, Cond.keeps, Cond.steady]))
    · exact hw
  exact ⟨hw2, good_of_word (tb_big w hw2)⟩
theorem kind_big {cid : Nat} (h0 : 0 < cid) (h1 : cid < 200) : (mSt cid = true → Cond.static (mY cid) ∈ bigW) ∧ (mSt cid = false → Cond.instanceMethod (mY cid) ∈ bigW) ∧ (mSt cid = false → mIn cid = false → Cond.selects (mY cid).cls (mY cid) (mY cid) ∈ bigW) ∧ Cond.initialized (mY cid).cls ∈ bigW := by
  refine ⟨fun h => ?_, fun h => ?_, fun h h2 => ?_, ?_⟩
  · have := tb_kind cid h1 h0
    rw [h] at this
    exact big_at this (gw_ok _ (by first | rfl | simp [Cond.onTables, Cond.keeps, Cond.steady]))
  · have := tb_kind cid h1 h0
    rw [h] at this
    exact big_at this (gw_ok _ (by first | rfl | simp [Cond.onTables, Cond.keeps, Cond.steady]))
  · exact big_at (tb_sel cid h1 h0 h h2) (gw_ok _ (by first | rfl | simp [Cond.onTables, Cond.keeps, Cond.steady]))
  · exact big_at (tb_ini cid h1 h0) (gw_ok _ (by first | rfl | simp [Cond.onTables, Cond.keeps, Cond.steady]))
theorem take_last {st : List AV} {n : Nat} {v : AV} {r : List AV} (h0 : 0 < n) (h : st.drop (n - 1) = v :: r) : st = st.take (n - 1) ++ v :: r ∧ st.drop n = r ∧ st.take n = st.take (n - 1) ++ [v] := by
  have e : st = st.take (n - 1) ++ v :: r := by rw [← h]; exact (List.take_append_drop _ _).symm
  have hl : (st.take (n - 1)).length = n - 1 := by
    have : n - 1 < st.length := by
      have : (st.drop (n - 1)).length = (v :: r).length := by rw [h]
      simp at this
      omega
    simp; omega
  refine ⟨e, ?_, ?_⟩
  · have : n = (n - 1) + 1 := by omega
    rw [this, ← List.drop_drop, h]
    rfl
  · conv => lhs; rw [e]
    rw [List.take_append, hl, List.take_of_length_le (by omega)]
    have h1 : n - (n - 1) = 1 := by omega
    rw [h1]
    rfl
theorem sc_virt {i cid : Nat} {t : Nat × Nat × Nat} {rv : Option AV} {M1 : M5} (hC : pmCx p l R s m args meth c D g b0 b L xs y n0 q0 Nc Ns) (hok : okS L xs (pc, ls, st, M)) (hq : mthQ (mO y) i = some t) (ht : t.1 = cid) (hlt : t.1 < 1000) (hco : callOk y cid st M = true) (hctr : Ctr l b cid ((st.take (mNA cid)).reverse) M rv M1) (hn0 : n0 ≤ M.1) (hq0 : q0 ≤ slT M.1 M.2.1) (hM1 : M.1 ≤ M1.1) (hS1 : slT M.1 M.2.1 ≤ slT M1.1 M1.2.1) (hNc : M1.1 ≤ Nc) (hNs : slT M1.1 M1.2.1 ≤ Ns)  (hsf : mSt t.1 = false) (hif : mIn t.1 = false) (hd : decode (mB y) pc = .ok (.invokevirtual i, 3)) (k : pmAt p l e R s m args below meth c Q D g b0 b y n0 q0 (pc + 3, ls, rv.toList ++ st.drop (mNA cid), M1)) : pmAt p l e R s m args below meth c Q D g b0 b y n0 q0 (pc, ls, st, M) := by
  subst ht
  obtain ⟨hx, hb, hml, hown, hts, hK, hN, hsz, -, hfr, hlo, hNc1, hNs1, -⟩ := id hC
  obtain ⟨k0, k1, klink⟩ := mth_big hq hlt
  obtain ⟨w1, w2, w3, w4⟩ := kind_big k0 k1
  simp only [callOk, Bool.and_eq_true] at hco
  obtain ⟨⟨⟨⟨⟨-, c1⟩, c2⟩, c3⟩, c4⟩, c5⟩ := hco
  have c1 := Nat.le_of_ble_eq_true c1
  have c2 := Nat.le_of_ble_eq_true c2
  have c3 := Nat.le_of_ble_eq_true c3
  have c4 := Nat.le_of_ble_eq_true c4
  obtain ⟨d1, d2⟩ := tb_met4 _ k1 k0
  have hst : mSt t.1 = false := hsf
  obtain ⟨e1, e2⟩ := tb_met3 _ k1 k0 hst
  rw [hst] at c5
  simp only [Bool.false_or] at c5
  have hdesc := tb_met2 _ k1 k0
  rw [hst] at hdesc
  split at c5
  · rename_i a r hdr
    obtain ⟨ha, hk⟩ := and2 c5
    have ha := blt_lt ha
    have hk := beq_of hk
    obtain ⟨s1, s2, s3⟩ := take_last e1 hdr
    intro H locs rl h1 h2 h3
    show W p l e R s m args below meth c H locs (M.1 - n0) (slT M.1 M.2.1 - q0) Q (F0 m pc rl (st.map (cv b0 b)))
    refine W_sz h1 h2 hsz hn0 (fun hH => ?_)
    have hpre := pre_at hC h1 hH
    have hw := wl_get (g := g) (b0 := b0) ha
    rw [cell_3 hk] at hw
    have hl1 : (st.take (mNA t.1 - 1)).length = mNA t.1 - 1 := by simp; omega
    have hargs : ((st.take (mNA t.1)).reverse).map (cv b0 b) = .ref (b0 + a) :: ((st.take (mNA t.1 - 1)).reverse.map (cv b0 b)) := by
      rw [s3, List.reverse_append, List.map_append]
      show [cv b0 b (aR a)] ++ _ = _
      rw [cv_ref (ne_scr hok.2.2 ha)]
      rfl
    have hstk : st.map (cv b0 b) = ((st.take (mNA t.1 - 1)).reverse.map (cv b0 b)).reverse ++ .ref (b0 + a) :: r.map (cv b0 b) := by
      conv => lhs; rw [s1]
      rw [List.map_append, List.map_reverse, List.reverse_reverse, List.map_cons, cv_ref (ne_scr hok.2.2 ha)]
    have hcat : 2 * (F0 m pc rl (st.map (cv b0 b))).monitorRoom + ((r.map (cv b0 b)).map fun v => v.category).sum ≤ 8 := lv_room (by rw [cvs_cat, ← s2]; exact c4)
    have hctr' := hctr D g b0
    rw [hargs] at hctr'
    have fin : ∀ (H1 : Heap) (locs1 : List Loc), wld D g b0 M1 H1 → va_S (fun q => b0 ≤ q) s.heap H1 locs1 → W p l e R s m args below meth c H1 locs1 (M.1 - n0 + (M1.1 - M.1)) (slT M.1 M.2.1 - q0 + (slT M1.1 M1.2.1 - slT M.1 M.2.1)) Q (F0 m (pc + 3) rl ((rv.map (cv b0 b)).toList ++ r.map (cv b0 b))) := by
      intro H1 locs1 g1 g2
      refine W.cs (cells' := M1.1 - n0) (slots' := slT M1.1 M1.2.1 - q0) (by omega) (by omega) ?_
      have kk := k H1 locs1 rl g1 g2 h3
      dsimp only at kk
      rw [s2, List.map_append] at kk
      cases rv <;> exact kk
    have hcls := tb_met1 _ k1 k0
    rcases klink with ⟨-, hlk⟩ | ⟨-, hnp, hlk⟩
    · refine run_go (va_runV (Ts := bigW) (own := nmO (mO y)) (C := nmO (mO t.1)) (index := i) (ws := wsM t.1) (bytes := mB t.1) (maxL := mL t.1) (ret := mR t.1) (n := mNA t.1 - 1) (As := (st.take (mNA t.1 - 1)).reverse.map (cv b0 b)) (rest := r.map (cv b0 b)) ⟨hx, hb, hml, hown, hts⟩ hctr' (cwV (ws' := bigW) (mNA t.1 - 1) hts ?_ rfl rfl rfl ⟨hcls, d1, d2, hdesc⟩ ⟨Nat.le_trans c1 hfr, Nat.le_trans c2 hlo⟩) ⟨pmPre_blind _ _ _ _ _, va_recv hK h1 (tb_cl _ e2) hw, fun U hU hW => ⟨rfl, hpre U hU hW⟩⟩ rfl (by simpa using hl1) h3.1 hstk hcat hd ⟨by omega, by omega⟩) h2 fin
      intro w hw9
      unfold wsV at hw9
      rcases List.mem_append.mp hw9 with q | q
      · have hin : w ∈ bigW := by
          simp only [List.mem_cons, List.not_mem_nil, or_false] at q
          rcases q with rfl | rfl | rfl | rfl
          · exact hlk
          · exact w2 hst
          · rw [← hcls]; exact w3 hst hif
          · rw [← hcls]; exact w4
        exact ⟨hin, good_of_word (tb_big w hin)⟩
      · exact wsM_good k0 k1 w q
    · refine run_go (va_runVN (Ts := bigW) (own := nmO (mO y)) (C := nmO (mO t.1)) (host := "RightsWeb") (index := i) (ws := wsM t.1) (bytes := mB t.1) (maxL := mL t.1) (ret := mR t.1) (n := mNA t.1 - 1) (As := (st.take (mNA t.1 - 1)).reverse.map (cv b0 b)) (rest := r.map (cv b0 b)) ⟨hx, hb, hml, hown, hts⟩ hctr' ⟨va_cnB (ws' := bigW) (mNA t.1 - 1) hts (wsM_good k0 k1) rfl rfl rfl (hN _ hnp _ hlk) (hts _ w4) ⟨d1, d2, hdesc⟩ ⟨Nat.le_trans c1 hfr, Nat.le_trans c2 hlo⟩, hts _ (w2 hst), by rw [← hcls]; exact hts _ (w3 hst hif)⟩ ⟨pmPre_blind _ _ _ _ _, va_recv hK h1 (tb_cl _ e2) hw, fun U hU hW => ⟨rfl, hpre U hU hW⟩⟩ rfl (by simpa using hl1) h3.1 hstk hcat hd ⟨by omega, by omega⟩) h2 fin
  · cases c5
theorem sc_init {i cid : Nat} {t : Nat × Nat × Nat} {rv : Option AV} {M1 : M5} (hC : pmCx p l R s m args meth c D g b0 b L xs y n0 q0 Nc Ns) (hok : okS L xs (pc, ls, st, M)) (hq : mthQ (mO y) i = some t) (ht : t.1 = cid) (hlt : t.1 < 1000) (hco : callOk y cid st M = true) (hctr : Ctr l b cid ((st.take (mNA cid)).reverse) M rv M1) (hn0 : n0 ≤ M.1) (hq0 : q0 ≤ slT M.1 M.2.1) (hM1 : M.1 ≤ M1.1) (hS1 : slT M.1 M.2.1 ≤ slT M1.1 M1.2.1) (hNc : M1.1 ≤ Nc) (hNs : slT M1.1 M1.2.1 ≤ Ns)  (hif : mIn t.1 = true) (hd : decode (mB y) pc = .ok (.invokespecial i, 3)) (k : pmAt p l e R s m args below meth c Q D g b0 b y n0 q0 (pc + 3, ls, rv.toList ++ st.drop (mNA cid), M1)) : pmAt p l e R s m args below meth c Q D g b0 b y n0 q0 (pc, ls, st, M) := by
  subst ht
  obtain ⟨hx, hb, hml, hown, hts, hK, hN, hsz, -, hfr, hlo, hNc1, hNs1, -⟩ := id hC
  obtain ⟨k0, k1, klink⟩ := mth_big hq hlt
  obtain ⟨w1, w2, w3, w4⟩ := kind_big k0 k1
  simp only [callOk, Bool.and_eq_true] at hco
  obtain ⟨⟨⟨⟨⟨-, c1⟩, c2⟩, c3⟩, c4⟩, c5⟩ := hco
  have c1 := Nat.le_of_ble_eq_true c1
  have c2 := Nat.le_of_ble_eq_true c2
  have c3 := Nat.le_of_ble_eq_true c3
  have c4 := Nat.le_of_ble_eq_true c4
  obtain ⟨d1, d2⟩ := tb_met4 _ k1 k0
  obtain ⟨i1, i2, hsf⟩ := tb_met6 _ k1 k0 hif
  have i2 : mR t.1 = none := by simpa using i2
  have hst : mSt t.1 = false := hsf
  obtain ⟨e1, e2⟩ := tb_met3 _ k1 k0 hst
  rw [hst] at c5
  simp only [Bool.false_or] at c5
  have hdesc := tb_met2 _ k1 k0
  rw [hst] at hdesc
  split at c5
  · rename_i a r hdr
    obtain ⟨ha, hk⟩ := and2 c5
    have ha := blt_lt ha
    have hk := beq_of hk
    obtain ⟨s1, s2, s3⟩ := take_last e1 hdr
    intro H locs rl h1 h2 h3
    show W p l e R s m args below meth c H locs (M.1 - n0) (slT M.1 M.2.1 - q0) Q (F0 m pc rl (st.map (cv b0 b)))
    refine W_sz h1 h2 hsz hn0 (fun hH => ?_)
    have hpre := pre_at hC h1 hH
    have hw := wl_get (g := g) (b0 := b0) ha
    rw [cell_3 hk] at hw
    have hl1 : (st.take (mNA t.1 - 1)).length = mNA t.1 - 1 := by simp; omega
    have hargs : ((st.take (mNA t.1)).reverse).map (cv b0 b) = .ref (b0 + a) :: ((st.take (mNA t.1 - 1)).reverse.map (cv b0 b)) := by
      rw [s3, List.reverse_append, List.map_append]
      show [cv b0 b (aR a)] ++ _ = _
      rw [cv_ref (ne_scr hok.2.2 ha)]
      rfl
    have hstk : st.map (cv b0 b) = ((st.take (mNA t.1 - 1)).reverse.map (cv b0 b)).reverse ++ .ref (b0 + a) :: r.map (cv b0 b) := by
      conv => lhs; rw [s1]
      rw [List.map_append, List.map_reverse, List.reverse_reverse, List.map_cons, cv_ref (ne_scr hok.2.2 ha)]
    have hcat : 2 * (F0 m pc rl (st.map (cv b0 b))).monitorRoom + ((r.map (cv b0 b)).map fun v => v.category).sum ≤ 8 := lv_room (by rw [cvs_cat, ← s2]; exact c4)
    have hctr' := hctr D g b0
    rw [hargs] at hctr'
    have fin : ∀ (H1 : Heap) (locs1 : List Loc), wld D g b0 M1 H1 → va_S (fun q => b0 ≤ q) s.heap H1 locs1 → W p l e R s m args below meth c H1 locs1 (M.1 - n0 + (M1.1 - M.1)) (slT M.1 M.2.1 - q0 + (slT M1.1 M1.2.1 - slT M.1 M.2.1)) Q (F0 m (pc + 3) rl ((rv.map (cv b0 b)).toList ++ r.map (cv b0 b))) := by
      intro H1 locs1 g1 g2
      refine W.cs (cells' := M1.1 - n0) (slots' := slT M1.1 M1.2.1 - q0) (by omega) (by omega) ?_
      have kk := k H1 locs1 rl g1 g2 h3
      dsimp only at kk
      rw [s2, List.map_append] at kk
      cases rv <;> exact kk
    rcases klink with ⟨-, hlk⟩ | ⟨-, hnp, hlk⟩
    · exact run_go (va_runI (Ts := bigW) (own := nmO (mO y)) (index := i) (ws := wsM t.1) (bytes := mB t.1) (maxL := mL t.1) (n := mNA t.1 - 1) (As := (st.take (mNA t.1 - 1)).reverse.map (cv b0 b)) (rest := r.map (cv b0 b)) ⟨hx, hb, hml, hown, hts⟩ hctr' (cwI (ws' := bigW) (mNA t.1 - 1) hts (wsM_good k0 k1) (by unfold wsM; rw [i2]) rfl rfl (hts _ w4) (hts _ hlk) (hts _ (w2 hst)) i1 ⟨d1, d2, hdesc⟩ ⟨Nat.le_trans c1 hfr, Nat.le_trans c2 hlo⟩) ⟨pmPre_blind _ _ _ _ _, fun U hU hW => ⟨rfl, hpre U hU hW⟩⟩ rfl (by simpa using hl1) h3.1 hstk hcat hd ⟨by omega, by omega⟩) h2 fin
    · exact run_go (va_runIN (Ts := bigW) (own := nmO (mO y)) (host := "RightsWeb") (index := i) (ws := wsM t.1) (bytes := mB t.1) (maxL := mL t.1) (n := mNA t.1 - 1) (As := (st.take (mNA t.1 - 1)).reverse.map (cv b0 b)) (rest := r.map (cv b0 b)) ⟨hx, hb, hml, hown, hts⟩ hctr' ⟨va_cnB (ws' := bigW) (mNA t.1 - 1) hts (wsM_good k0 k1) (by unfold wsM; rw [i2]) rfl rfl (hN _ hnp _ hlk) (hts _ w4) ⟨d1, d2, hdesc⟩ ⟨Nat.le_trans c1 hfr, Nat.le_trans c2 hlo⟩, i1, hts _ (w2 hst)⟩ ⟨pmPre_blind _ _ _ _ _, fun U hU hW => ⟨rfl, hpre U hU hW⟩⟩ rfl (by simpa using hl1) h3.1 hstk hcat hd ⟨by omega, by omega⟩) h2 fin
  · cases c5
theorem sc_stat {i cid : Nat} {t : Nat × Nat × Nat} {rv : Option AV} {M1 : M5} (hC : pmCx p l R s m args meth c D g b0 b L xs y n0 q0 Nc Ns) (hok : okS L xs (pc, ls, st, M)) (hq : mthQ (mO y) i = some t) (ht : t.1 = cid) (hlt : t.1 < 1000) (hco : callOk y cid st M = true) (hctr : Ctr l b cid ((st.take (mNA cid)).reverse) M rv M1) (hn0 : n0 ≤ M.1) (hq0 : q0 ≤ slT M.1 M.2.1) (hM1 : M.1 ≤ M1.1) (hS1 : slT M.1 M.2.1 ≤ slT M1.1 M1.2.1) (hNc : M1.1 ≤ Nc) (hNs : slT M1.1 M1.2.1 ≤ Ns)  (hsf : mSt t.1 = true) (hd : decode (mB y) pc = .ok (.invokestatic i, 3)) (k : pmAt p l e R s m args below meth c Q D g b0 b y n0 q0 (pc + 3, ls, rv.toList ++ st.drop (mNA cid), M1)) : pmAt p l e R s m args below meth c Q D g b0 b y n0 q0 (pc, ls, st, M) := by
  subst ht
  obtain ⟨hx, hb, hml, hown, hts, hK, hN, hsz, -, hfr, hlo, hNc1, hNs1, -⟩ := id hC
  obtain ⟨k0, k1, klink⟩ := mth_big hq hlt
  obtain ⟨w1, w2, w3, w4⟩ := kind_big k0 k1
  simp only [callOk, Bool.and_eq_true] at hco
  obtain ⟨⟨⟨⟨⟨-, c1⟩, c2⟩, c3⟩, c4⟩, c5⟩ := hco
  have c1 := Nat.le_of_ble_eq_true c1
  have c2 := Nat.le_of_ble_eq_true c2
  have c3 := Nat.le_of_ble_eq_true c3
  have c4 := Nat.le_of_ble_eq_true c4
  obtain ⟨d1, d2⟩ := tb_met4 _ k1 k0
  have hdesc := tb_met2 _ k1 k0
  rw [hsf] at hdesc
  intro H locs rl h1 h2 h3
  show W p l e R s m args below meth c H locs (M.1 - n0) (slT M.1 M.2.1 - q0) Q (F0 m pc rl (st.map (cv b0 b)))
  refine W_sz h1 h2 hsz hn0 (fun hH => ?_)
  have hpre := pre_at hC h1 hH
  have hl1 : (st.take (mNA t.1)).length = mNA t.1 := by simp; omega
  have hstk : st.map (cv b0 b) = ((st.take (mNA t.1)).reverse.map (cv b0 b)).reverse ++ (st.drop (mNA t.1)).map (cv b0 b) := by
    rw [List.map_reverse, List.reverse_reverse, ← List.map_append, List.take_append_drop]
  have hcat : 2 * (F0 m pc rl (st.map (cv b0 b))).monitorRoom + (((st.drop (mNA t.1)).map (cv b0 b)).map fun v => v.category).sum ≤ 8 := lv_room (by rw [cvs_cat]; exact c4)
  have fin : ∀ (H1 : Heap) (locs1 : List Loc), wld D g b0 M1 H1 → va_S (fun q => b0 ≤ q) s.heap H1 locs1 → W p l e R s m args below meth c H1 locs1 (M.1 - n0 + (M1.1 - M.1)) (slT M.1 M.2.1 - q0 + (slT M1.1 M1.2.1 - slT M.1 M.2.1)) Q (F0 m (pc + 3) rl ((rv.map (cv b0 b)).toList ++ (st.drop (mNA t.1)).map (cv b0 b))) := by
    intro H1 locs1 g1 g2
    refine W.cs (cells' := M1.1 - n0) (slots' := slT M1.1 M1.2.1 - q0) (by omega) (by omega) ?_
    have kk := k H1 locs1 rl g1 g2 h3
    dsimp only at kk
    rw [List.map_append] at kk
    cases rv <;> exact kk
  rcases klink with ⟨-, hlk⟩ | ⟨-, hnp, hlk⟩
  · refine run_go (va_runS (Ts := bigW) (own := nmO (mO y)) (index := i) (ws := wsM t.1) (bytes := mB t.1) (maxL := mL t.1) (ret := mR t.1) (n := mNA t.1) (As := (st.take (mNA t.1)).reverse.map (cv b0 b)) (rest := (st.drop (mNA t.1)).map (cv b0 b)) ⟨hx, hb, hml, hown, hts⟩ (hctr D g b0) (va_cwS (ws' := bigW) (mNA t.1) hts ?_ rfl rfl rfl ⟨d1, d2, hdesc⟩ ⟨Nat.le_trans c1 hfr, Nat.le_trans c2 hlo⟩) ⟨pmPre_blind _ _ _ _ _, fun U hU hW => ⟨rfl, hpre U hU hW⟩⟩ rfl (by simpa using hl1) h3.1 hstk hcat hd ⟨by omega, by omega⟩) h2 fin
    intro w hw9
    unfold va_wsS at hw9
    rcases List.mem_append.mp hw9 with q | q
    · have hin : w ∈ bigW := by
        simp only [List.mem_cons, List.not_mem_nil, or_false] at q
        rcases q with rfl | rfl | rfl
        · exact hlk
        · exact w1 hsf
        · exact w4
      exact ⟨hin, good_of_word (tb_big w hin)⟩
    · exact wsM_good k0 k1 w q
  · exact run_go (va_runSN (Ts := bigW) (own := nmO (mO y)) (host := "RightsWeb") (index := i) (ws := wsM t.1) (bytes := mB t.1) (maxL := mL t.1) (ret := mR t.1) (n := mNA t.1) (As := (st.take (mNA t.1)).reverse.map (cv b0 b)) (rest := (st.drop (mNA t.1)).map (cv b0 b)) ⟨hx, hb, hml, hown, hts⟩ (hctr D g b0) ⟨va_cnB (ws' := bigW) (mNA t.1) hts (wsM_good k0 k1) rfl rfl rfl (hN _ hnp _ hlk) (hts _ w4) ⟨d1, d2, hdesc⟩ ⟨Nat.le_trans c1 hfr, Nat.le_trans c2 hlo⟩, hts _ (w1 hsf), trivial⟩ ⟨pmPre_blind _ _ _ _ _, fun U hU hW => ⟨rfl, hpre U hU hW⟩⟩ rfl (by simpa using hl1) h3.1 hstk hcat hd ⟨by omega, by omega⟩) h2 fin
end MAIN
