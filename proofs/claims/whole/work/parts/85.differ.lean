/-! ===== Long.bitCount is a count; one call of both: differ ===== -/
theorem bm_c : bm 85 8 = 6148914691236517205 ∧ bm 51 8 = 3689348814741910323 ∧ bm 15 8 = 1085102592571150095 := by decide +kernel
def i64n (x : Int64) : Nat := x.toBitVec.toNat
theorem i64n_lt (x : Int64) : i64n x < 18446744073709551616 := x.toBitVec.isLt
theorem n_and (x y : Int64) : i64n (x &&& y) = i64n x &&& i64n y := by
  unfold i64n
  rw [Int64.toBitVec_and, BitVec.toNat_and]
theorem n_shr (x : Int64) {k : Nat} (h : k < 64) : i64n (ushr x k) = i64n x / 2 ^ k := by
  unfold i64n
  rw [ushr_bv x h, BitVec.toNat_ushiftRight, Nat.shiftRight_eq_div_pow]
theorem n_add (x y : Int64) : i64n (x + y) = (i64n x + i64n y) % 18446744073709551616 := by
  unfold i64n
  rw [Int64.toBitVec_add, BitVec.toNat_add]
theorem n_sub (x y : Int64) (h : i64n y ≤ i64n x) : i64n (x - y) = i64n x - i64n y := by
  have h1 := i64n_lt x
  unfold i64n at h h1 ⊢
  rw [Int64.toBitVec_sub, BitVec.toNat_sub]
  omega
theorem n_c : i64n (Int64.ofInt 6148914691236517205) = bm 85 8 ∧ i64n (Int64.ofInt 3689348814741910323) = bm 51 8 ∧ i64n (Int64.ofInt 1085102592571150095) = bm 15 8 := by decide +kernel
theorem n_q1 (x : Int64) : i64n (bq1 x) = q1 8 (i64n x) := by
  have e : i64n (ushr x 1 &&& Int64.ofInt 6148914691236517205) = (i64n x / 2) &&& bm 85 8 := by
    rw [n_and, n_c.1, show i64n (ushr x 1) = i64n x / 2 from n_shr x (k := 1) (by decide)]
  have h : (i64n x / 2) &&& bm 85 8 ≤ i64n x / 2 := Nat.and_le_left
  unfold bq1 q1
  rw [n_sub _ _ (by rw [e]; omega), e]
theorem n_q2 (x : Int64) : i64n (bq2 x) = q2 8 (i64n x) ∧ q2 8 (i64n x) ≤ 7378697629483820646 := by
  have h1 : i64n x &&& bm 51 8 ≤ bm 51 8 := Nat.and_le_right
  have h2 : (i64n x / 4) &&& bm 51 8 ≤ bm 51 8 := Nat.and_le_right
  have e := bm_c.2.1
  unfold bq2 q2
  rw [n_add, n_and, n_and, n_c.2.1, show i64n (ushr x 2) = i64n x / 4 from n_shr x (k := 2) (by decide)]
  omega
theorem n_q3 (x : Int64) (h : i64n x ≤ 7378697629483820646) : i64n (bq3 x) = q3 8 (i64n x) := by
  unfold bq3 q3
  rw [n_and, n_c.2.2, n_add, show i64n (ushr x 4) = i64n x / 16 from n_shr x (k := 4) (by decide), Nat.mod_eq_of_lt (by omega)]
theorem n_q (x : Int64) : i64n (bq3 (bq2 (bq1 x))) = q123 8 (i64n x) := by
  have h := n_q2 (bq1 x)
  rw [n_q1] at h
  rw [n_q3 _ (by rw [h.1]; exact h.2), h.1]
  rfl
theorem cnb_in (X : Nat) : ∀ n, cnb X n ≤ n
  | 0 => Nat.le_refl _
  | n + 1 => by
    have := cnb_in X n
    unfold cnb
    cases X.testBit n <;> simp <;> omega
theorem q_step {n X : Nat} (h : X < 256 ^ (n + 1)) : ∃ r Y, r ≤ 8 ∧ Y < 256 ^ n ∧ q123 (n + 1) X = r + 256 * q123 n Y ∧ cnb X (8 * n + 8) = r + cnb Y (8 * n) := by
  have hY : X / 256 < 256 ^ n := by
    rw [Nat.pow_succ] at h
    generalize 256 ^ n = p at h ⊢
    omega
  have ha : X % 256 < 256 := Nat.mod_lt _ (by decide)
  have e : X = X % 256 + 256 * (X / 256) := by omega
  refine ⟨cnb (X % 256) 8, X / 256, cnb_in _ _, hY, ?_, ?_⟩
  · have := q123_s (n := n) ha hY
    rw [← e, pcb_c _ ha] at this
    exact this
  · have := cnb_s (b := X / 256) ha (8 * n)
    rw [← e] at this
    exact this
theorem dig2 {R r S : Nat} (h : R = r + 256 * S) (hr : r < 256) : R / 256 = S := by omega
theorem dig16 {R a b S : Nat} (h : R = a + 256 * (b + 256 * S)) (ha : a < 256) (hb : b < 256) : R / 65536 = S := by omega
theorem dig32 {R a b c d S : Nat} (h : R = a + 256 * (b + 256 * (c + 256 * (d + 256 * S)))) (ha : a < 256) (hb : b < 256) (hc : c < 256) (hd : d < 256) : R / 4294967296 = S := by
  rw [show 4294967296 = 65536 * 65536 from rfl, ← Nat.div_div_eq_div_mul, dig16 h ha hb]
  exact dig16 rfl hc hd
theorem q_sum {r0 r1 r2 r3 r4 r5 r6 r7 R1 R2 R3 R4 R5 R6 R7 R : Nat} (h0 : r0 ≤ 8) (h1 : r1 ≤ 8) (h2 : r2 ≤ 8) (h3 : r3 ≤ 8) (h4 : r4 ≤ 8) (h5 : r5 ≤ 8) (h6 : r6 ≤ 8) (h7 : r7 ≤ 8) (e0 : R = r0 + 256 * R1) (e1 : R1 = r1 + 256 * R2) (e2 : R2 = r2 + 256 * R3) (e3 : R3 = r3 + 256 * R4) (e4 : R4 = r4 + 256 * R5) (e5 : R5 = r5 + 256 * R6) (e6 : R6 = r6 + 256 * R7) (e7 : R7 = r7 + 256 * 0) : ∀ A B C, A = (R + R / 256) % 18446744073709551616 → B = (A + A / 65536) % 18446744073709551616 → C = (B + B / 4294967296) % 18446744073709551616 → C % 128 = r0 + r1 + r2 + r3 + r4 + r5 + r6 + r7 := by
  intro A B C eA eB eC
  have b7 : R7 ≤ 8 := by omega
  have b6 : R6 ≤ 2056 := by clear e0 e1 e2 e3 e4 e5 eA eB eC; omega
  have b5 : R5 ≤ 526344 := by clear e0 e1 e2 e3 e4 eA eB eC; omega
  have b4 : R4 ≤ 134744072 := by clear e0 e1 e2 e3 e5 e6 e7 eA eB eC; omega
  have b3 : R3 ≤ 34494482440 := by clear e0 e1 e2 e4 e5 e6 e7 eA eB eC; omega
  have b2 : R2 ≤ 8830587504648 := by clear e0 e1 e3 e4 e5 e6 e7 eA eB eC; omega
  have b1 : R1 ≤ 2260630401189896 := by clear e0 e2 e3 e4 e5 e6 e7 eA eB eC; omega
  have b0 : R ≤ 578721382704613384 := by clear e1 e2 e3 e4 e5 e6 e7 eA eB eC; omega
  have dR : R / 256 = R1 := dig2 e0 (by omega)
  have gA : A = R + R1 := by rw [eA, dR, Nat.mod_eq_of_lt (by clear e0 e1 e2 e3 e4 e5 e6 e7 eA eB eC dR; omega)]
  have kA : A = (r0 + r1) + 256 * ((r1 + r2) + 256 * (R2 + R3)) := by clear e3 e4 e5 e6 e7 eA eB eC dR b0 b1 b2 b3 b4 b5 b6 b7 h0 h1 h2 h3 h4 h5 h6 h7; omega
  have dA : A / 65536 = R2 + R3 := dig16 kA (by omega) (by omega)
  have gB : B = A + (R2 + R3) := by rw [eB, dA, Nat.mod_eq_of_lt (by clear e0 e1 e2 e3 e4 e5 e6 e7 eA eB eC dR kA dA; omega)]
  have kB : B = (r0 + r1 + (r2 + r3)) + 256 * ((r1 + r2 + (r3 + r4)) + 256 * ((r2 + r3 + (r4 + r5)) + 256 * ((r3 + r4 + (r5 + r6)) + 256 * (R4 + R5 + (R6 + R7))))) := by clear e7 eA eB eC dR dA kA b0 b1 b2 b3 b4 b5 b6 b7 h0 h1 h2 h3 h4 h5 h6 h7; omega
  have dB : B / 4294967296 = R4 + R5 + (R6 + R7) := dig32 kB (by omega) (by omega) (by omega) (by omega)
  have gC : C = B + (R4 + R5 + (R6 + R7)) := by rw [eC, dB, Nat.mod_eq_of_lt (by clear e0 e1 e2 e3 e4 e5 e6 e7 eA eB eC dR kA dA kB dB; omega)]
  obtain ⟨X, hX⟩ : ∃ X, C = (r0 + r1 + r2 + r3 + r4 + r5 + r6 + r7) + 256 * X := ⟨((r1 + r2 + (r3 + r4)) + 256 * ((r2 + r3 + (r4 + r5)) + 256 * ((r3 + r4 + (r5 + r6)) + 256 * (R4 + R5 + (R6 + R7))))) + R5 + R6 + R7 + 0, by clear e0 e1 e2 e3 eA eB eC dR dA kA dB gA gB b0 b1 b2 b3 b4 b5 b6 b7 h0 h1 h2 h3 h4 h5 h6 h7; omega⟩
  clear e0 e1 e2 e3 e4 e5 e6 e7 eA eB eC dR dA kA dB gA gB gC kB b0 b1 b2 b3 b4 b5 b6 b7
  omega
theorem i32_mod (x : Int64) : x.toInt32.toInt % 128 = ((i64n x % 128 : Nat) : Int) := by
  have h1 : x.toInt32.toInt = x.toInt.bmod (2 ^ 32) := Int64.toInt_toInt32 x
  have h2 : x.toInt = if 2 * x.toBitVec.toNat < 2 ^ 64 then (x.toBitVec.toNat : Int) else (x.toBitVec.toNat : Int) - ((2 ^ 64 : Nat) : Int) := BitVec.toInt_eq_toNat_cond x.toBitVec
  have c1 : ((2 ^ 32 : Nat) : Int) = 4294967296 := rfl
  have c2 : ((2 ^ 64 : Nat) : Int) = 18446744073709551616 := rfl
  rw [h1]
  unfold Int.bmod i64n
  rw [c2] at h2
  simp only [c1]
  generalize x.toBitVec.toNat = X at h2 ⊢
  split at h2 <;> split <;> omega
theorem cntF_b (x : Int64) : ∀ n, cntF (tb x) n = (cnb (i64n x) n : Int)
  | 0 => rfl
  | n + 1 => by
    have i := cntF_b x n
    have e : tb x n = (i64n x).testBit n := rfl
    unfold cntF cnb
    rw [i, e]
    cases (i64n x).testBit n <;> simp
theorem bitC_c (x : Int64) : bitC x = cntF (tb x) 64 := by
  have hx := i64n_lt x
  rw [cntF_b]
  unfold bitC
  rw [i32_mod]
  obtain ⟨r0, y0, a0, b0, c0, d0⟩ := q_step (n := 7) (X := i64n x) (by omega)
  obtain ⟨r1, y1, a1, b1, c1, d1⟩ := q_step (n := 6) b0
  obtain ⟨r2, y2, a2, b2, c2, d2⟩ := q_step (n := 5) b1
  obtain ⟨r3, y3, a3, b3, c3, d3⟩ := q_step (n := 4) b2
  obtain ⟨r4, y4, a4, b4, c4, d4⟩ := q_step (n := 3) b3
  obtain ⟨r5, y5, a5, b5, c5, d5⟩ := q_step (n := 2) b4
  obtain ⟨r6, y6, a6, b6, c6, d6⟩ := q_step (n := 1) b5
  obtain ⟨r7, y7, a7, b7, c7, d7⟩ := q_step (n := 0) b6
  have z : q123 0 y7 = 0 := by
    unfold q123 q3
    exact Nat.and_zero _
  have z2 : cnb y7 (8 * 0) = 0 := rfl
  rw [z] at c7
  rw [z2] at d7
  rw [← n_q] at c0
  have hs := q_sum a0 a1 a2 a3 a4 a5 a6 a7 c0 c1 c2 c3 c4 c5 c6 c7 (i64n (bq4 (bq3 (bq2 (bq1 x))))) (i64n (bq5 (bq4 (bq3 (bq2 (bq1 x)))))) (i64n (bq6 (bq5 (bq4 (bq3 (bq2 (bq1 x))))))) (by
    unfold bq4
    rw [n_add, show ∀ y, i64n (ushr y 8) = i64n y / 256 from fun y => n_shr y (k := 8) (by decide)]) (by
    rw [show ∀ y, bq5 y = y + ushr y 16 from fun _ => rfl, n_add, show ∀ y, i64n (ushr y 16) = i64n y / 65536 from fun y => n_shr y (k := 16) (by decide)]) (by
    rw [show ∀ y, bq6 y = y + ushr y 32 from fun _ => rfl, n_add, show ∀ y, i64n (ushr y 32) = i64n y / 4294967296 from fun y => n_shr y (k := 32) (by decide)])
  rw [hs]
  have e : cnb (i64n x) 64 = r0 + r1 + r2 + r3 + r4 + r5 + r6 + r7 := by
    have d0 : cnb (i64n x) 64 = r0 + cnb y0 56 := d0
    have d1 : cnb y0 56 = r1 + cnb y1 48 := d1
    have d2 : cnb y1 48 = r2 + cnb y2 40 := d2
    have d3 : cnb y2 40 = r3 + cnb y3 32 := d3
    have d4 : cnb y3 32 = r4 + cnb y4 24 := d4
    have d5 : cnb y4 24 = r5 + cnb y5 16 := d5
    have d6 : cnb y5 16 = r6 + cnb y6 8 := d6
    have d7 : cnb y6 8 = r7 + 0 := d7
    omega
  rw [e]
theorem cntF_40 {f : Nat → Bool} (h : ∀ i, 40 ≤ i → i < 64 → f i = false) : ∀ k, k ≤ 24 → cntF f (40 + k) = cntF f 40
  | 0, _ => rfl
  | k + 1, hk => by
    rw [show 40 + (k + 1) = (40 + k) + 1 by omega, cntF_f (h (40 + k) (by omega) (by omega)), cntF_40 h k (by omega)]
theorem dfF_B {v w : SV} (hv : P40 v) (hw : P40 w) : ∀ n, n ≤ 320 → dfF v w n = dfB v w n
  | 0, _ => rfl
  | n + 1, hn => by
    have e : cntF (tb (w n ^^^ v n)) 64 = cntF (tb (w n ^^^ v n)) 40 := cntF_40 (fun i a b => by
      have k : ∀ {z : SV}, P40 z → tb (z n) i = false := fun {z} hz => by
        cases q : tb (z n) i with
        | false => rfl
        | true => have := hz n (by omega) i b q; omega
      rw [tb_xor, k hv, k hw]
      rfl) 24 (by decide)
    unfold dfF dfB
    rw [dfF_B hv hw n (by omega), bitC_c, e]
section DIFF
variable {N n : Nat} {I : MI} {J : MJ} {t u : Int}
theorem DiffR.un {a a' : AV} {U U' : MI} (hX : WX I J) (h : DiffR I J t u a U) (g : DiffM I J t u a' U') : a = a' ∧ U = U' := by
  by_cases c : turnP I t ∧ turnP I u
  · obtain ⟨e1, v, w, hv, hw, e2⟩ := h.2 c
    obtain ⟨e3, v', w', hv', hw', e4⟩ := g.2 c
    rw [e1, e2, e3, e4, ← SETS.un hX hv hv', ← SETS.un hX hw hw', dfF_B hv.1 hw.1 320 (Nat.le_refl _)]
    exact ⟨rfl, rfl⟩
  · rw [(h.1 c).1, (h.1 c).2, (g.1 c).1, (g.1 c).2]
    exact ⟨rfl, rfl⟩
theorem DiffR.fit {a : AV} {U : MI} (h : INV n I J) (g : DiffR I J t u a U) : FitU n I U J := by
  by_cases c : turnP I t ∧ turnP I u
  · rw [(g.2 c).1]; exact FitU.same h
  · rw [(g.1 c).2]; exact FitU.rf h _
theorem b_differ (h : INV n I J) (hn : n ≤ 900) : CT 92 [aR 0, aI t, aI u] (MM N I J) (QBoth N n 191 [aR 52, aI t, aI u]) :=
  both h hn (rokX [t, u]) (rokM [t, u]) (QX.e (c_X9_differ h.1 (h.rf hn))) (fun I1 J1 a b c d => m_X10_differ h.1 a b c d) (fun a U a' U' x y => un2 (x.un h.1 y)) (fun a U x => x.fit h)
end DIFF
