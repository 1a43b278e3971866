/-! ===== the constructors ===== -/
theorem ni_ne (I : MI) {n i : Nat} (h : i ≠ n) : ni I n i = I i := ma_ne _ _ h
theorem nj_ne (J : MJ) {n i : Nat} (h : i ≠ n) : nj J n i = J i := ma_ne _ _ h
theorem sf_ne (I : MI) {a i : Nat} (k : Nat) (v : Int) (h : i ≠ a) : sf I a k v i = I i := ma_ne _ _ h
def iX8 (I : MI) : MI := sf (ni I 2) 1 1 0
theorem k_X8 {N : Nat} {I : MI} {J : MJ} : CT 60 [aR 1] (MG 2 0 N I J) (fun r M' => r = none ∧ M' = MG 3 1 N (iX8 I) J) := by
  refine CT.ofV (n := 1) (ls := [some (aR 1)]) rfl rfl rfl ?_
  refine V.blk [(0, .aload 0, 1), (1, .invokestatic 1003, 3), (4, .aload 0, 1), (5, .bipush 40, 2), (7, .newarray .int, 2), (9, .putfield 8000, 3)] (ps := []) (z' := (12, [some (aR 1)], [], (3, ma (cutS N 2) 2 (0, 40), ma (cutR 0) 1 (ma (cutR 0 1) 0 (some 2)), ni I 2, J))) (by decide +kernel) rfl trivial ?_
  refine V.mem (mq_arr (n := 2) (t := 0) (by decide) rfl (by decide +kernel)) ?_
  show V 60 (12, [some (aR 1)], [], MG 3 1 N (ni I 2) J) _
  refine V.blk [(12, .aload 0, 1), (13, .bipush 0, 1), (14, .putfield 8001, 3)] (ps := []) (z' := (17, [some (aR 1)], [], MG 3 1 N (sf (ni I 2) 1 1 0) J)) (by decide +kernel) rfl trivial ?_
  refine V.rv (by decide +kernel) ?_
  exact ⟨rfl, rfl⟩
theorem k_X6 {N : Nat} {I : MI} {J : MJ} : CT 44 [aR 3] (MG 4 2 N I J) (fun r M' => r = none ∧ ∃ I' J', M' = MG 10 8 N I' J' ∧ (∀ p, p < 64 → I' 4 p = -1) ∧ (∀ k, k < 48 → I' 7 k = -1) ∧ (∀ q, q < 64 → J' 8 q = bt q ∧ J' 9 q = Int64.ofInt 0) ∧ ∀ i, i < 3 ∨ 9 < i → I' i = I i) := by
  refine CT.ofV (n := 1) (ls := [some (aR 3)]) rfl rfl rfl ?_
  refine V.blk [(0, .aload 0, 1), (1, .invokestatic 1003, 3), (4, .aload 0, 1), (5, .bipush 64, 2), (7, .newarray .int, 2), (9, .putfield 6000, 3)] (ps := []) (z' := (12, [some (aR 3)], [], (5, ma (cutS N 4) 4 (0, 64), ma (cutR 2) 3 (ma (cutR 2 3) 0 (some 4)), ni I 4, J))) (by decide +kernel) rfl trivial ?_
  refine V.mem (mq_arr (n := 4) (t := 2) (by decide) rfl (by decide +kernel)) ?_
  show V 44 (12, [some (aR 3)], [], MG 5 3 N (ni I 4) J) _
  refine V.blk [(12, .aload 0, 1), (13, .bipush 64, 2), (15, .newarray .int, 2), (17, .putfield 6001, 3)] (ps := []) (z' := (20, [some (aR 3)], [], (6, ma (cutS N 5) 5 (0, 64), ma (cutR 3) 3 (ma (cutR 3 3) 1 (some 5)), ni (ni I 4) 5, J))) (by decide +kernel) rfl trivial ?_
  refine V.mem (mq_arr (n := 5) (t := 3) (by decide) rfl (by decide +kernel)) ?_
  show V 44 (20, [some (aR 3)], [], MG 6 4 N (ni (ni I 4) 5) J) _
  refine V.blk [(20, .aload 0, 1), (21, .bipush 64, 2), (23, .newarray .int, 2), (25, .putfield 6002, 3)] (ps := []) (z' := (28, [some (aR 3)], [], (7, ma (cutS N 6) 6 (0, 64), ma (cutR 4) 3 (ma (cutR 4 3) 2 (some 6)), ni (ni (ni I 4) 5) 6, J))) (by decide +kernel) rfl trivial ?_
  refine V.mem (mq_arr (n := 6) (t := 4) (by decide) rfl (by decide +kernel)) ?_
  show V 44 (28, [some (aR 3)], [], MG 7 5 N (ni (ni (ni I 4) 5) 6) J) _
  refine V.blk [(28, .aload 0, 1), (29, .bipush 48, 2), (31, .newarray .int, 2), (33, .putfield 6003, 3)] (ps := []) (z' := (36, [some (aR 3)], [], (8, ma (cutS N 7) 7 (0, 48), ma (cutR 5) 3 (ma (cutR 5 3) 3 (some 7)), ni (ni (ni (ni I 4) 5) 6) 7, J))) (by decide +kernel) rfl trivial ?_
  refine V.mem (mq_arr (n := 7) (t := 5) (by decide) rfl (by decide +kernel)) ?_
  show V 44 (36, [some (aR 3)], [], MG 8 6 N (ni (ni (ni (ni I 4) 5) 6) 7) J) _
  refine V.blk [(36, .aload 0, 1), (37, .bipush 64, 2), (39, .newarray .long, 2), (41, .putfield 6004, 3)] (ps := []) (z' := (44, [some (aR 3)], [], (9, ma (cutS N 8) 8 (1, 64), ma (cutR 6) 3 (ma (cutR 6 3) 4 (some 8)), ni (ni (ni (ni I 4) 5) 6) 7, nj J 8))) (by decide +kernel) rfl trivial ?_
  refine V.mem (mq_arr (n := 8) (t := 6) (by decide) rfl (by decide +kernel)) ?_
  show V 44 (44, [some (aR 3)], [], MG 9 7 N (ni (ni (ni (ni I 4) 5) 6) 7) (nj J 8)) _
  refine V.blk [(44, .aload 0, 1), (45, .bipush 64, 2), (47, .newarray .long, 2), (49, .putfield 6005, 3)] (ps := []) (z' := (52, [some (aR 3)], [], (10, ma (cutS N 9) 9 (1, 64), ma (cutR 7) 3 (ma (cutR 7 3) 5 (some 9)), ni (ni (ni (ni I 4) 5) 6) 7, nj (nj J 8) 9))) (by decide +kernel) rfl trivial ?_
  refine V.mem (mq_arr (n := 9) (t := 7) (by decide) rfl (by decide +kernel)) ?_
  show V 44 (52, [some (aR 3)], [], MG 10 8 N (ni (ni (ni (ni I 4) 5) 6) 7) (nj (nj J 8) 9)) _
  refine V.blk [(52, .aload 0, 1), (53, .getfield 6000, 3), (56, .bipush (-1), 1)] (ps := []) (z' := (57, [some (aR 3)], [aI (-1), aR 4], MG 10 8 N (ni (ni (ni (ni I 4) 5) 6) 7) (nj (nj J 8) 9))) (by decide +kernel) rfl trivial ?_
  refine V.cs (c := 199) (na := 2) [aI (-1), aR 4] [] (by decide +kernel) rfl rfl ((cq_fill_4 (N := N)).mono (fun rv M1 q => ?_))
  obtain ⟨rfl, F1, rfl, hF1a, hF1o⟩ := q
  show V 44 (60, [some (aR 3)], [], MG 10 8 N F1 (nj (nj J 8) 9)) _
  refine V.blk [(60, .aload 0, 1), (61, .getfield 6001, 3), (64, .bipush (-1), 1)] (ps := []) (z' := (65, [some (aR 3)], [aI (-1), aR 5], MG 10 8 N F1 (nj (nj J 8) 9))) (by decide +kernel) rfl trivial ?_
  refine V.cs (c := 199) (na := 2) [aI (-1), aR 5] [] (by decide +kernel) rfl rfl ((cq_fill_5 (N := N)).mono (fun rv M1 q => ?_))
  obtain ⟨rfl, F2, rfl, hF2a, hF2o⟩ := q
  show V 44 (68, [some (aR 3)], [], MG 10 8 N F2 (nj (nj J 8) 9)) _
  refine V.blk [(68, .aload 0, 1), (69, .getfield 6002, 3), (72, .bipush (-1), 1)] (ps := []) (z' := (73, [some (aR 3)], [aI (-1), aR 6], MG 10 8 N F2 (nj (nj J 8) 9))) (by decide +kernel) rfl trivial ?_
  refine V.cs (c := 199) (na := 2) [aI (-1), aR 6] [] (by decide +kernel) rfl rfl ((cq_fill_6 (N := N)).mono (fun rv M1 q => ?_))
  obtain ⟨rfl, F3, rfl, hF3a, hF3o⟩ := q
  show V 44 (76, [some (aR 3)], [], MG 10 8 N F3 (nj (nj J 8) 9)) _
  refine V.blk [(76, .aload 0, 1), (77, .getfield 6003, 3), (80, .bipush (-1), 1)] (ps := []) (z' := (81, [some (aR 3)], [aI (-1), aR 7], MG 10 8 N F3 (nj (nj J 8) 9))) (by decide +kernel) rfl trivial ?_
  refine V.cs (c := 199) (na := 2) [aI (-1), aR 7] [] (by decide +kernel) rfl rfl ((cq_fill_7 (N := N)).mono (fun rv M1 q => ?_))
  obtain ⟨rfl, F4, rfl, hF4a, hF4o⟩ := q
  show V 44 (84, [some (aR 3)], [], MG 10 8 N F4 (nj (nj J 8) 9)) _
  refine V.blk [(84, .aload 0, 1)] (ps := []) (z' := (85, [some (aR 3)], [aR 3], MG 10 8 N F4 (nj (nj J 8) 9))) (by decide +kernel) rfl trivial ?_
  refine V.cv (c := 46) (na := 1) (o := 6) (a := 3) [] [] (by decide +kernel) rfl rfl rfl rfl rfl ((cq_survey (N := N) (by intro p hp; rw [hF4o 4 (by decide), hF3o 4 (by decide), hF2o 4 (by decide)]; exact hF1a p hp)).mono (fun rv M1 q => ?_))
  obtain ⟨rfl, G, rfl, hG⟩ := q
  show V 44 (88, [some (aR 3)], [], MG 10 8 N F4 G) _
  refine V.rv (by decide +kernel) ?_
  refine ⟨rfl, F4, G, rfl, fun p hp => ?_, fun k hk => hF4a k hk, hG, fun i hi => ?_⟩
  · rw [hF4o 4 (by decide), hF3o 4 (by decide), hF2o 4 (by decide)]
    exact hF1a p hp
  · rw [hF4o i (by omega), hF3o i (by omega), hF2o i (by omega), hF1o i (by omega), ni_ne _ (show i ≠ 7 by omega), ni_ne _ (show i ≠ 6 by omega), ni_ne _ (show i ≠ 5 by omega), ni_ne _ (show i ≠ 4 by omega)]
def iX3 (I : MI) : MI := sf (ni (sf (ni (sf (ni (ni (ni (ni (ni (ni (ni (ni (ni I 11) 12) 13) 14) 15) 16) 17) 18) 19) 10 9 0) 20) 10 11 0) 21) 10 13 0
theorem k_X3 {N : Nat} {I : MI} {J : MJ} : CT 23 [aR 10] (MG 11 9 N I J) (fun r M' => r = none ∧ M' = MG 22 20 N (iX3 I) J) := by
  refine CT.ofV (n := 1) (ls := [some (aR 10)]) rfl rfl rfl ?_
  refine V.blk [(0, .aload 0, 1), (1, .invokestatic 1003, 3), (4, .aload 0, 1), (5, .bipush 400, 3), (8, .newarray .int, 2), (10, .putfield 3000, 3)] (ps := []) (z' := (13, [some (aR 10)], [], (12, ma (cutS N 11) 11 (0, 400), ma (cutR 9) 10 (ma (cutR 9 10) 0 (some 11)), ni I 11, J))) (by decide +kernel) rfl trivial ?_
  refine V.mem (mq_arr (n := 11) (t := 9) (by decide) rfl (by decide +kernel)) ?_
  show V 23 (13, [some (aR 10)], [], MG 12 10 N (ni I 11) J) _
  refine V.blk [(13, .aload 0, 1), (14, .bipush 400, 3), (17, .newarray .int, 2), (19, .putfield 3001, 3)] (ps := []) (z' := (22, [some (aR 10)], [], (13, ma (cutS N 12) 12 (0, 400), ma (cutR 10) 10 (ma (cutR 10 10) 1 (some 12)), ni (ni I 11) 12, J))) (by decide +kernel) rfl trivial ?_
  refine V.mem (mq_arr (n := 12) (t := 10) (by decide) rfl (by decide +kernel)) ?_
  show V 23 (22, [some (aR 10)], [], MG 13 11 N (ni (ni I 11) 12) J) _
  refine V.blk [(22, .aload 0, 1), (23, .bipush 400, 3), (26, .newarray .int, 2), (28, .putfield 3002, 3)] (ps := []) (z' := (31, [some (aR 10)], [], (14, ma (cutS N 13) 13 (0, 400), ma (cutR 11) 10 (ma (cutR 11 10) 2 (some 13)), ni (ni (ni I 11) 12) 13, J))) (by decide +kernel) rfl trivial ?_
  refine V.mem (mq_arr (n := 13) (t := 11) (by decide) rfl (by decide +kernel)) ?_
  show V 23 (31, [some (aR 10)], [], MG 14 12 N (ni (ni (ni I 11) 12) 13) J) _
  refine V.blk [(31, .aload 0, 1), (32, .bipush 400, 3), (35, .newarray .int, 2), (37, .putfield 3003, 3)] (ps := []) (z' := (40, [some (aR 10)], [], (15, ma (cutS N 14) 14 (0, 400), ma (cutR 12) 10 (ma (cutR 12 10) 3 (some 14)), ni (ni (ni (ni I 11) 12) 13) 14, J))) (by decide +kernel) rfl trivial ?_
  refine V.mem (mq_arr (n := 14) (t := 12) (by decide) rfl (by decide +kernel)) ?_
  show V 23 (40, [some (aR 10)], [], MG 15 13 N (ni (ni (ni (ni I 11) 12) 13) 14) J) _
  refine V.blk [(40, .aload 0, 1), (41, .bipush 400, 3), (44, .newarray .int, 2), (46, .putfield 3004, 3)] (ps := []) (z' := (49, [some (aR 10)], [], (16, ma (cutS N 15) 15 (0, 400), ma (cutR 13) 10 (ma (cutR 13 10) 4 (some 15)), ni (ni (ni (ni (ni I 11) 12) 13) 14) 15, J))) (by decide +kernel) rfl trivial ?_
  refine V.mem (mq_arr (n := 15) (t := 13) (by decide) rfl (by decide +kernel)) ?_
  show V 23 (49, [some (aR 10)], [], MG 16 14 N (ni (ni (ni (ni (ni I 11) 12) 13) 14) 15) J) _
  refine V.blk [(49, .aload 0, 1), (50, .bipush 400, 3), (53, .newarray .int, 2), (55, .putfield 3005, 3)] (ps := []) (z' := (58, [some (aR 10)], [], (17, ma (cutS N 16) 16 (0, 400), ma (cutR 14) 10 (ma (cutR 14 10) 5 (some 16)), ni (ni (ni (ni (ni (ni I 11) 12) 13) 14) 15) 16, J))) (by decide +kernel) rfl trivial ?_
  refine V.mem (mq_arr (n := 16) (t := 14) (by decide) rfl (by decide +kernel)) ?_
  show V 23 (58, [some (aR 10)], [], MG 17 15 N (ni (ni (ni (ni (ni (ni I 11) 12) 13) 14) 15) 16) J) _
  refine V.blk [(58, .aload 0, 1), (59, .bipush 400, 3), (62, .newarray .int, 2), (64, .putfield 3006, 3)] (ps := []) (z' := (67, [some (aR 10)], [], (18, ma (cutS N 17) 17 (0, 400), ma (cutR 15) 10 (ma (cutR 15 10) 6 (some 17)), ni (ni (ni (ni (ni (ni (ni I 11) 12) 13) 14) 15) 16) 17, J))) (by decide +kernel) rfl trivial ?_
  refine V.mem (mq_arr (n := 17) (t := 15) (by decide) rfl (by decide +kernel)) ?_
  show V 23 (67, [some (aR 10)], [], MG 18 16 N (ni (ni (ni (ni (ni (ni (ni I 11) 12) 13) 14) 15) 16) 17) J) _
  refine V.blk [(67, .aload 0, 1), (68, .bipush 400, 3), (71, .newarray .int, 2), (73, .putfield 3007, 3)] (ps := []) (z' := (76, [some (aR 10)], [], (19, ma (cutS N 18) 18 (0, 400), ma (cutR 16) 10 (ma (cutR 16 10) 7 (some 18)), ni (ni (ni (ni (ni (ni (ni (ni I 11) 12) 13) 14) 15) 16) 17) 18, J))) (by decide +kernel) rfl trivial ?_
  refine V.mem (mq_arr (n := 18) (t := 16) (by decide) rfl (by decide +kernel)) ?_
  show V 23 (76, [some (aR 10)], [], MG 19 17 N (ni (ni (ni (ni (ni (ni (ni (ni I 11) 12) 13) 14) 15) 16) 17) 18) J) _
  refine V.blk [(76, .aload 0, 1), (77, .bipush 400, 3), (80, .newarray .int, 2), (82, .putfield 3008, 3)] (ps := []) (z' := (85, [some (aR 10)], [], (20, ma (cutS N 19) 19 (0, 400), ma (cutR 17) 10 (ma (cutR 17 10) 8 (some 19)), ni (ni (ni (ni (ni (ni (ni (ni (ni I 11) 12) 13) 14) 15) 16) 17) 18) 19, J))) (by decide +kernel) rfl trivial ?_
  refine V.mem (mq_arr (n := 19) (t := 17) (by decide) rfl (by decide +kernel)) ?_
  show V 23 (85, [some (aR 10)], [], MG 20 18 N (ni (ni (ni (ni (ni (ni (ni (ni (ni I 11) 12) 13) 14) 15) 16) 17) 18) 19) J) _
  refine V.blk [(85, .aload 0, 1), (86, .bipush 0, 1), (87, .putfield 3009, 3), (90, .aload 0, 1), (91, .bipush 800, 3), (94, .newarray .int, 2), (96, .putfield 3010, 3)] (ps := []) (z' := (99, [some (aR 10)], [], (21, ma (cutS N 20) 20 (0, 800), ma (cutR 18) 10 (ma (cutR 18 10) 10 (some 20)), ni (sf (ni (ni (ni (ni (ni (ni (ni (ni (ni I 11) 12) 13) 14) 15) 16) 17) 18) 19) 10 9 0) 20, J))) (by decide +kernel) rfl trivial ?_
  refine V.mem (mq_arr (n := 20) (t := 18) (by decide) rfl (by decide +kernel)) ?_
  show V 23 (99, [some (aR 10)], [], MG 21 19 N (ni (sf (ni (ni (ni (ni (ni (ni (ni (ni (ni I 11) 12) 13) 14) 15) 16) 17) 18) 19) 10 9 0) 20) J) _
  refine V.blk [(99, .aload 0, 1), (100, .bipush 0, 1), (101, .putfield 3011, 3), (104, .aload 0, 1), (105, .bipush 201, 3), (108, .newarray .int, 2), (110, .putfield 3012, 3)] (ps := []) (z' := (113, [some (aR 10)], [], (22, ma (cutS N 21) 21 (0, 201), ma (cutR 19) 10 (ma (cutR 19 10) 12 (some 21)), ni (sf (ni (sf (ni (ni (ni (ni (ni (ni (ni (ni (ni I 11) 12) 13) 14) 15) 16) 17) 18) 19) 10 9 0) 20) 10 11 0) 21, J))) (by decide +kernel) rfl trivial ?_
  refine V.mem (mq_arr (n := 21) (t := 19) (by decide) rfl (by decide +kernel)) ?_
  show V 23 (113, [some (aR 10)], [], MG 22 20 N (ni (sf (ni (sf (ni (ni (ni (ni (ni (ni (ni (ni (ni I 11) 12) 13) 14) 15) 16) 17) 18) 19) 10 9 0) 20) 10 11 0) 21) J) _
  refine V.blk [(113, .aload 0, 1), (114, .bipush 0, 1), (115, .putfield 3013, 3)] (ps := []) (z' := (118, [some (aR 10)], [], MG 22 20 N (sf (ni (sf (ni (sf (ni (ni (ni (ni (ni (ni (ni (ni (ni I 11) 12) 13) 14) 15) 16) 17) 18) 19) 10 9 0) 20) 10 11 0) 21) 10 13 0) J)) (by decide +kernel) rfl trivial ?_
  refine V.rv (by decide +kernel) ?_
  exact ⟨rfl, rfl⟩
def iX1 (I : MI) : MI := sf (ni (ni (ni (ni (sf (ni (ni (ni (ni I 23) 24) 25) 26) 22 4 0) 27) 28) 29) 30) 22 9 0
theorem k_X1 {N : Nat} {I : MI} {J : MJ} : CT 8 [aR 22] (MG 23 21 N I J) (fun r M' => r = none ∧ M' = MG 31 29 N (iX1 I) J) := by
  refine CT.ofV (n := 1) (ls := [some (aR 22)]) rfl rfl rfl ?_
  refine V.blk [(0, .aload 0, 1), (1, .invokestatic 1003, 3), (4, .aload 0, 1), (5, .bipush 20, 2), (7, .newarray .int, 2), (9, .putfield 1000, 3)] (ps := []) (z' := (12, [some (aR 22)], [], (24, ma (cutS N 23) 23 (0, 20), ma (cutR 21) 22 (ma (cutR 21 22) 0 (some 23)), ni I 23, J))) (by decide +kernel) rfl trivial ?_
  refine V.mem (mq_arr (n := 23) (t := 21) (by decide) rfl (by decide +kernel)) ?_
  show V 8 (12, [some (aR 22)], [], MG 24 22 N (ni I 23) J) _
  refine V.blk [(12, .aload 0, 1), (13, .bipush 20, 2), (15, .newarray .int, 2), (17, .putfield 1001, 3)] (ps := []) (z' := (20, [some (aR 22)], [], (25, ma (cutS N 24) 24 (0, 20), ma (cutR 22) 22 (ma (cutR 22 22) 1 (some 24)), ni (ni I 23) 24, J))) (by decide +kernel) rfl trivial ?_
  refine V.mem (mq_arr (n := 24) (t := 22) (by decide) rfl (by decide +kernel)) ?_
  show V 8 (20, [some (aR 22)], [], MG 25 23 N (ni (ni I 23) 24) J) _
  refine V.blk [(20, .aload 0, 1), (21, .bipush 20, 2), (23, .newarray .int, 2), (25, .putfield 1002, 3)] (ps := []) (z' := (28, [some (aR 22)], [], (26, ma (cutS N 25) 25 (0, 20), ma (cutR 23) 22 (ma (cutR 23 22) 2 (some 25)), ni (ni (ni I 23) 24) 25, J))) (by decide +kernel) rfl trivial ?_
  refine V.mem (mq_arr (n := 25) (t := 23) (by decide) rfl (by decide +kernel)) ?_
  show V 8 (28, [some (aR 22)], [], MG 26 24 N (ni (ni (ni I 23) 24) 25) J) _
  refine V.blk [(28, .aload 0, 1), (29, .bipush 20, 2), (31, .newarray .int, 2), (33, .putfield 1003, 3)] (ps := []) (z' := (36, [some (aR 22)], [], (27, ma (cutS N 26) 26 (0, 20), ma (cutR 24) 22 (ma (cutR 24 22) 3 (some 26)), ni (ni (ni (ni I 23) 24) 25) 26, J))) (by decide +kernel) rfl trivial ?_
  refine V.mem (mq_arr (n := 26) (t := 24) (by decide) rfl (by decide +kernel)) ?_
  show V 8 (36, [some (aR 22)], [], MG 27 25 N (ni (ni (ni (ni I 23) 24) 25) 26) J) _
  refine V.blk [(36, .aload 0, 1), (37, .bipush 0, 1), (38, .putfield 1004, 3), (41, .aload 0, 1), (42, .bipush 10, 2), (44, .newarray .int, 2), (46, .putfield 1005, 3)] (ps := []) (z' := (49, [some (aR 22)], [], (28, ma (cutS N 27) 27 (0, 10), ma (cutR 25) 22 (ma (cutR 25 22) 5 (some 27)), ni (sf (ni (ni (ni (ni I 23) 24) 25) 26) 22 4 0) 27, J))) (by decide +kernel) rfl trivial ?_
  refine V.mem (mq_arr (n := 27) (t := 25) (by decide) rfl (by decide +kernel)) ?_
  show V 8 (49, [some (aR 22)], [], MG 28 26 N (ni (sf (ni (ni (ni (ni I 23) 24) 25) 26) 22 4 0) 27) J) _
  refine V.blk [(49, .aload 0, 1), (50, .bipush 10, 2), (52, .newarray .int, 2), (54, .putfield 1006, 3)] (ps := []) (z' := (57, [some (aR 22)], [], (29, ma (cutS N 28) 28 (0, 10), ma (cutR 26) 22 (ma (cutR 26 22) 6 (some 28)), ni (ni (sf (ni (ni (ni (ni I 23) 24) 25) 26) 22 4 0) 27) 28, J))) (by decide +kernel) rfl trivial ?_
  refine V.mem (mq_arr (n := 28) (t := 26) (by decide) rfl (by decide +kernel)) ?_
  show V 8 (57, [some (aR 22)], [], MG 29 27 N (ni (ni (sf (ni (ni (ni (ni I 23) 24) 25) 26) 22 4 0) 27) 28) J) _
  refine V.blk [(57, .aload 0, 1), (58, .bipush 10, 2), (60, .newarray .int, 2), (62, .putfield 1007, 3)] (ps := []) (z' := (65, [some (aR 22)], [], (30, ma (cutS N 29) 29 (0, 10), ma (cutR 27) 22 (ma (cutR 27 22) 7 (some 29)), ni (ni (ni (sf (ni (ni (ni (ni I 23) 24) 25) 26) 22 4 0) 27) 28) 29, J))) (by decide +kernel) rfl trivial ?_
  refine V.mem (mq_arr (n := 29) (t := 27) (by decide) rfl (by decide +kernel)) ?_
  show V 8 (65, [some (aR 22)], [], MG 30 28 N (ni (ni (ni (sf (ni (ni (ni (ni I 23) 24) 25) 26) 22 4 0) 27) 28) 29) J) _
  refine V.blk [(65, .aload 0, 1), (66, .bipush 10, 2), (68, .newarray .boolean, 2), (70, .putfield 1008, 3)] (ps := []) (z' := (73, [some (aR 22)], [], (31, ma (cutS N 30) 30 (2, 10), ma (cutR 28) 22 (ma (cutR 28 22) 8 (some 30)), ni (ni (ni (ni (sf (ni (ni (ni (ni I 23) 24) 25) 26) 22 4 0) 27) 28) 29) 30, J))) (by decide +kernel) rfl trivial ?_
  refine V.mem (mq_arr (n := 30) (t := 28) (by decide) rfl (by decide +kernel)) ?_
  show V 8 (73, [some (aR 22)], [], MG 31 29 N (ni (ni (ni (ni (sf (ni (ni (ni (ni I 23) 24) 25) 26) 22 4 0) 27) 28) 29) 30) J) _
  refine V.blk [(73, .aload 0, 1), (74, .bipush 0, 1), (75, .putfield 1009, 3)] (ps := []) (z' := (78, [some (aR 22)], [], MG 31 29 N (sf (ni (ni (ni (ni (sf (ni (ni (ni (ni I 23) 24) 25) 26) 22 4 0) 27) 28) 29) 30) 22 9 0) J)) (by decide +kernel) rfl trivial ?_
  refine V.rv (by decide +kernel) ?_
  exact ⟨rfl, rfl⟩
def iX2 (I : MI) : MI := sf (ni I 35) 31 7 0
def jX2 (J : MJ) : MJ := nj (nj (nj J 32) 33) 34
theorem k_X2 {N : Nat} {I : MI} {J : MJ} : CT 16 [aR 31, aR 1, aR 3, aR 10] (MG 32 30 N I J) (fun r M' => r = none ∧ M' = MG 36 37 N (iX2 I) (jX2 J)) := by
  refine CT.ofV (n := 4) (ls := [some (aR 31), some (aR 1), some (aR 3), some (aR 10)]) rfl rfl rfl ?_
  refine V.blk [(0, .aload 0, 1), (1, .invokestatic 1003, 3), (4, .aload 0, 1), (5, .bipush 48, 2), (7, .newarray .long, 2), (9, .putfield 2003, 3)] (ps := []) (z' := (12, [some (aR 31), some (aR 1), some (aR 3), some (aR 10)], [], (33, ma (cutS N 32) 32 (1, 48), ma (cutR 30) 31 (ma (cutR 30 31) 3 (some 32)), I, nj J 32))) (by decide +kernel) rfl trivial ?_
  refine V.mem (mq_arr (n := 32) (t := 30) (by decide) rfl (by decide +kernel)) ?_
  show V 16 (12, [some (aR 31), some (aR 1), some (aR 3), some (aR 10)], [], MG 33 31 N I (nj J 32)) _
  refine V.blk [(12, .aload 0, 1), (13, .bipush 48, 2), (15, .newarray .long, 2), (17, .putfield 2004, 3)] (ps := []) (z' := (20, [some (aR 31), some (aR 1), some (aR 3), some (aR 10)], [], (34, ma (cutS N 33) 33 (1, 48), ma (cutR 31) 31 (ma (cutR 31 31) 4 (some 33)), I, nj (nj J 32) 33))) (by decide +kernel) rfl trivial ?_
  refine V.mem (mq_arr (n := 33) (t := 31) (by decide) rfl (by decide +kernel)) ?_
  show V 16 (20, [some (aR 31), some (aR 1), some (aR 3), some (aR 10)], [], MG 34 32 N I (nj (nj J 32) 33)) _
  refine V.blk [(20, .aload 0, 1), (21, .bipush 48, 2), (23, .newarray .long, 2), (25, .putfield 2005, 3)] (ps := []) (z' := (28, [some (aR 31), some (aR 1), some (aR 3), some (aR 10)], [], (35, ma (cutS N 34) 34 (1, 48), ma (cutR 32) 31 (ma (cutR 32 31) 5 (some 34)), I, nj (nj (nj J 32) 33) 34))) (by decide +kernel) rfl trivial ?_
  refine V.mem (mq_arr (n := 34) (t := 32) (by decide) rfl (by decide +kernel)) ?_
  show V 16 (28, [some (aR 31), some (aR 1), some (aR 3), some (aR 10)], [], MG 35 33 N I (nj (nj (nj J 32) 33) 34)) _
  refine V.blk [(28, .aload 0, 1), (29, .bipush 48, 2), (31, .newarray .int, 2), (33, .putfield 2006, 3)] (ps := []) (z' := (36, [some (aR 31), some (aR 1), some (aR 3), some (aR 10)], [], (36, ma (cutS N 35) 35 (0, 48), ma (cutR 33) 31 (ma (cutR 33 31) 6 (some 35)), ni I 35, nj (nj (nj J 32) 33) 34))) (by decide +kernel) rfl trivial ?_
  refine V.mem (mq_arr (n := 35) (t := 33) (by decide) rfl (by decide +kernel)) ?_
  show V 16 (36, [some (aR 31), some (aR 1), some (aR 3), some (aR 10)], [], MG 36 34 N (ni I 35) (nj (nj (nj J 32) 33) 34)) _
  refine V.blk [(36, .aload 0, 1), (37, .bipush 0, 1), (38, .putfield 2007, 3), (41, .aload 0, 1), (42, .aload 1, 1), (43, .putfield 2000, 3)] (ps := []) (z' := (46, [some (aR 31), some (aR 1), some (aR 3), some (aR 10)], [], (36, cutS N 36, ma (cutR 34) 31 (ma (cutR 34 31) 0 (some 1)), sf (ni I 35) 31 7 0, nj (nj (nj J 32) 33) 34))) (by decide +kernel) rfl trivial ?_
  refine V.mem (mq_ref (n := 36) (t := 34) (by decide +kernel)) ?_
  show V 16 (46, [some (aR 31), some (aR 1), some (aR 3), some (aR 10)], [], MG 36 35 N (sf (ni I 35) 31 7 0) (nj (nj (nj J 32) 33) 34)) _
  refine V.blk [(46, .aload 0, 1), (47, .aload 2, 1), (48, .putfield 2001, 3)] (ps := []) (z' := (51, [some (aR 31), some (aR 1), some (aR 3), some (aR 10)], [], (36, cutS N 36, ma (cutR 35) 31 (ma (cutR 35 31) 1 (some 3)), sf (ni I 35) 31 7 0, nj (nj (nj J 32) 33) 34))) (by decide +kernel) rfl trivial ?_
  refine V.mem (mq_ref (n := 36) (t := 35) (by decide +kernel)) ?_
  show V 16 (51, [some (aR 31), some (aR 1), some (aR 3), some (aR 10)], [], MG 36 36 N (sf (ni I 35) 31 7 0) (nj (nj (nj J 32) 33) 34)) _
  refine V.blk [(51, .aload 0, 1), (52, .aload 3, 1), (53, .putfield 2002, 3)] (ps := []) (z' := (56, [some (aR 31), some (aR 1), some (aR 3), some (aR 10)], [], (36, cutS N 36, ma (cutR 36) 31 (ma (cutR 36 31) 2 (some 10)), sf (ni I 35) 31 7 0, nj (nj (nj J 32) 33) 34))) (by decide +kernel) rfl trivial ?_
  refine V.mem (mq_ref (n := 36) (t := 36) (by decide +kernel)) ?_
  show V 16 (56, [some (aR 31), some (aR 1), some (aR 3), some (aR 10)], [], MG 36 37 N (sf (ni I 35) 31 7 0) (nj (nj (nj J 32) 33) 34)) _
  refine V.rv (by decide +kernel) ?_
  exact ⟨rfl, rfl⟩
def iX7 (I : MI) : MI := ni (ni I 37) 38
def jX7 (J : MJ) : MJ := nj (nj J 39) 40
theorem k_X7 {N : Nat} {I : MI} {J : MJ} : CT 48 [aR 36, aR 1, aR 3, aR 10, aR 31] (MG 37 38 N I J) (fun r M' => r = none ∧ M' = MG 41 46 N (iX7 I) (jX7 J)) := by
  refine CT.ofV (n := 5) (ls := [some (aR 36), some (aR 1), some (aR 3), some (aR 10), some (aR 31)]) rfl rfl rfl ?_
  refine V.blk [(0, .aload 0, 1), (1, .invokestatic 1003, 3), (4, .aload 0, 1), (5, .bipush 400, 3), (8, .newarray .int, 2), (10, .putfield 7004, 3)] (ps := []) (z' := (13, [some (aR 36), some (aR 1), some (aR 3), some (aR 10), some (aR 31)], [], (38, ma (cutS N 37) 37 (0, 400), ma (cutR 38) 36 (ma (cutR 38 36) 4 (some 37)), ni I 37, J))) (by decide +kernel) rfl trivial ?_
  refine V.mem (mq_arr (n := 37) (t := 38) (by decide) rfl (by decide +kernel)) ?_
  show V 48 (13, [some (aR 36), some (aR 1), some (aR 3), some (aR 10), some (aR 31)], [], MG 38 39 N (ni I 37) J) _
  refine V.blk [(13, .aload 0, 1), (14, .bipush 321, 3), (17, .newarray .int, 2), (19, .putfield 7005, 3)] (ps := []) (z' := (22, [some (aR 36), some (aR 1), some (aR 3), some (aR 10), some (aR 31)], [], (39, ma (cutS N 38) 38 (0, 321), ma (cutR 39) 36 (ma (cutR 39 36) 5 (some 38)), ni (ni I 37) 38, J))) (by decide +kernel) rfl trivial ?_
  refine V.mem (mq_arr (n := 38) (t := 39) (by decide) rfl (by decide +kernel)) ?_
  show V 48 (22, [some (aR 36), some (aR 1), some (aR 3), some (aR 10), some (aR 31)], [], MG 39 40 N (ni (ni I 37) 38) J) _
  refine V.blk [(22, .aload 0, 1), (23, .bipush 320, 3), (26, .newarray .long, 2), (28, .putfield 7006, 3)] (ps := []) (z' := (31, [some (aR 36), some (aR 1), some (aR 3), some (aR 10), some (aR 31)], [], (40, ma (cutS N 39) 39 (1, 320), ma (cutR 40) 36 (ma (cutR 40 36) 6 (some 39)), ni (ni I 37) 38, nj J 39))) (by decide +kernel) rfl trivial ?_
  refine V.mem (mq_arr (n := 39) (t := 40) (by decide) rfl (by decide +kernel)) ?_
  show V 48 (31, [some (aR 36), some (aR 1), some (aR 3), some (aR 10), some (aR 31)], [], MG 40 41 N (ni (ni I 37) 38) (nj J 39)) _
  refine V.blk [(31, .aload 0, 1), (32, .bipush 64, 2), (34, .newarray .long, 2), (36, .putfield 7007, 3)] (ps := []) (z' := (39, [some (aR 36), some (aR 1), some (aR 3), some (aR 10), some (aR 31)], [], (41, ma (cutS N 40) 40 (1, 64), ma (cutR 41) 36 (ma (cutR 41 36) 7 (some 40)), ni (ni I 37) 38, nj (nj J 39) 40))) (by decide +kernel) rfl trivial ?_
  refine V.mem (mq_arr (n := 40) (t := 41) (by decide) rfl (by decide +kernel)) ?_
  show V 48 (39, [some (aR 36), some (aR 1), some (aR 3), some (aR 10), some (aR 31)], [], MG 41 42 N (ni (ni I 37) 38) (nj (nj J 39) 40)) _
  refine V.blk [(39, .aload 0, 1), (40, .aload 1, 1), (41, .putfield 7000, 3)] (ps := []) (z' := (44, [some (aR 36), some (aR 1), some (aR 3), some (aR 10), some (aR 31)], [], (41, cutS N 41, ma (cutR 42) 36 (ma (cutR 42 36) 0 (some 1)), ni (ni I 37) 38, nj (nj J 39) 40))) (by decide +kernel) rfl trivial ?_
  refine V.mem (mq_ref (n := 41) (t := 42) (by decide +kernel)) ?_
  show V 48 (44, [some (aR 36), some (aR 1), some (aR 3), some (aR 10), some (aR 31)], [], MG 41 43 N (ni (ni I 37) 38) (nj (nj J 39) 40)) _
  refine V.blk [(44, .aload 0, 1), (45, .aload 2, 1), (46, .putfield 7001, 3)] (ps := []) (z' := (49, [some (aR 36), some (aR 1), some (aR 3), some (aR 10), some (aR 31)], [], (41, cutS N 41, ma (cutR 43) 36 (ma (cutR 43 36) 1 (some 3)), ni (ni I 37) 38, nj (nj J 39) 40))) (by decide +kernel) rfl trivial ?_
  refine V.mem (mq_ref (n := 41) (t := 43) (by decide +kernel)) ?_
  show V 48 (49, [some (aR 36), some (aR 1), some (aR 3), some (aR 10), some (aR 31)], [], MG 41 44 N (ni (ni I 37) 38) (nj (nj J 39) 40)) _
  refine V.blk [(49, .aload 0, 1), (50, .aload 3, 1), (51, .putfield 7002, 3)] (ps := []) (z' := (54, [some (aR 36), some (aR 1), some (aR 3), some (aR 10), some (aR 31)], [], (41, cutS N 41, ma (cutR 44) 36 (ma (cutR 44 36) 2 (some 10)), ni (ni I 37) 38, nj (nj J 39) 40))) (by decide +kernel) rfl trivial ?_
  refine V.mem (mq_ref (n := 41) (t := 44) (by decide +kernel)) ?_
  show V 48 (54, [some (aR 36), some (aR 1), some (aR 3), some (aR 10), some (aR 31)], [], MG 41 45 N (ni (ni I 37) 38) (nj (nj J 39) 40)) _
  refine V.blk [(54, .aload 0, 1), (55, .aload 4, 2), (57, .putfield 7003, 3)] (ps := []) (z' := (60, [some (aR 36), some (aR 1), some (aR 3), some (aR 10), some (aR 31)], [], (41, cutS N 41, ma (cutR 45) 36 (ma (cutR 45 36) 3 (some 31)), ni (ni I 37) 38, nj (nj J 39) 40))) (by decide +kernel) rfl trivial ?_
  refine V.mem (mq_ref (n := 41) (t := 45) (by decide +kernel)) ?_
  show V 48 (60, [some (aR 36), some (aR 1), some (aR 3), some (aR 10), some (aR 31)], [], MG 41 46 N (ni (ni I 37) 38) (nj (nj J 39) 40)) _
  refine V.rv (by decide +kernel) ?_
  exact ⟨rfl, rfl⟩
def iX0 (I : MI) : MI := sf (ni (ni I 42) 43) 41 5 (-1)
theorem k_X0 {N : Nat} {I : MI} {J : MJ} : CT 1 [aR 41, aR 3, aR 10, aR 36] (MG 42 47 N I J) (fun r M' => r = none ∧ M' = MG 44 52 N (iX0 I) J) := by
  refine CT.ofV (n := 4) (ls := [some (aR 41), some (aR 3), some (aR 10), some (aR 36)]) rfl rfl rfl ?_
  refine V.blk [(0, .aload 0, 1), (1, .invokestatic 1003, 3), (4, .aload 0, 1), (5, .bipush 320, 3), (8, .newarray .int, 2), (10, .putfield 3, 3)] (ps := []) (z' := (13, [some (aR 41), some (aR 3), some (aR 10), some (aR 36)], [], (43, ma (cutS N 42) 42 (0, 320), ma (cutR 47) 41 (ma (cutR 47 41) 3 (some 42)), ni I 42, J))) (by decide +kernel) rfl trivial ?_
  refine V.mem (mq_arr (n := 42) (t := 47) (by decide) rfl (by decide +kernel)) ?_
  show V 1 (13, [some (aR 41), some (aR 3), some (aR 10), some (aR 36)], [], MG 43 48 N (ni I 42) J) _
  refine V.blk [(13, .aload 0, 1), (14, .bipush 64, 2), (16, .newarray .int, 2), (18, .putfield 4, 3)] (ps := []) (z' := (21, [some (aR 41), some (aR 3), some (aR 10), some (aR 36)], [], (44, ma (cutS N 43) 43 (0, 64), ma (cutR 48) 41 (ma (cutR 48 41) 4 (some 43)), ni (ni I 42) 43, J))) (by decide +kernel) rfl trivial ?_
  refine V.mem (mq_arr (n := 43) (t := 48) (by decide) rfl (by decide +kernel)) ?_
  show V 1 (21, [some (aR 41), some (aR 3), some (aR 10), some (aR 36)], [], MG 44 49 N (ni (ni I 42) 43) J) _
  refine V.blk [(21, .aload 0, 1), (22, .bipush (-1), 1), (23, .putfield 5, 3), (26, .aload 0, 1), (27, .aload 1, 1), (28, .putfield 0, 3)] (ps := []) (z' := (31, [some (aR 41), some (aR 3), some (aR 10), some (aR 36)], [], (44, cutS N 44, ma (cutR 49) 41 (ma (cutR 49 41) 0 (some 3)), sf (ni (ni I 42) 43) 41 5 (-1), J))) (by decide +kernel) rfl trivial ?_
  refine V.mem (mq_ref (n := 44) (t := 49) (by decide +kernel)) ?_
  show V 1 (31, [some (aR 41), some (aR 3), some (aR 10), some (aR 36)], [], MG 44 50 N (sf (ni (ni I 42) 43) 41 5 (-1)) J) _
  refine V.blk [(31, .aload 0, 1), (32, .aload 2, 1), (33, .putfield 1, 3)] (ps := []) (z' := (36, [some (aR 41), some (aR 3), some (aR 10), some (aR 36)], [], (44, cutS N 44, ma (cutR 50) 41 (ma (cutR 50 41) 1 (some 10)), sf (ni (ni I 42) 43) 41 5 (-1), J))) (by decide +kernel) rfl trivial ?_
  refine V.mem (mq_ref (n := 44) (t := 50) (by decide +kernel)) ?_
  show V 1 (36, [some (aR 41), some (aR 3), some (aR 10), some (aR 36)], [], MG 44 51 N (sf (ni (ni I 42) 43) 41 5 (-1)) J) _
  refine V.blk [(36, .aload 0, 1), (37, .aload 3, 1), (38, .putfield 2, 3)] (ps := []) (z' := (41, [some (aR 41), some (aR 3), some (aR 10), some (aR 36)], [], (44, cutS N 44, ma (cutR 51) 41 (ma (cutR 51 41) 2 (some 36)), sf (ni (ni I 42) 43) 41 5 (-1), J))) (by decide +kernel) rfl trivial ?_
  refine V.mem (mq_ref (n := 44) (t := 51) (by decide +kernel)) ?_
  show V 1 (41, [some (aR 41), some (aR 3), some (aR 10), some (aR 36)], [], MG 44 52 N (sf (ni (ni I 42) 43) 41 5 (-1)) J) _
  refine V.rv (by decide +kernel) ?_
  exact ⟨rfl, rfl⟩
def iX4 (I : MI) : MI := sf (sf (sf (ni (ni (sf (sf (sf (sf (ni I 45) 44 5 0) 44 6 (-1)) 44 7 (-1)) 44 8 (-1)) 46) 47) 44 11 0) 44 12 (-1)) 44 13 (-1)
theorem k_X4 {N : Nat} {I : MI} {J : MJ} : CT 34 [aR 44, aR 3, aR 10, aR 36, aR 41] (MG 45 53 N I J) (fun r M' => r = none ∧ M' = MG 48 60 N (iX4 I) J) := by
  refine CT.ofV (n := 5) (ls := [some (aR 44), some (aR 3), some (aR 10), some (aR 36), some (aR 41)]) rfl rfl rfl ?_
  refine V.blk [(0, .aload 0, 1), (1, .invokestatic 1003, 3), (4, .aload 0, 1), (5, .bipush 60, 2), (7, .newarray .int, 2), (9, .putfield 4004, 3)] (ps := []) (z' := (12, [some (aR 44), some (aR 3), some (aR 10), some (aR 36), some (aR 41)], [], (46, ma (cutS N 45) 45 (0, 60), ma (cutR 53) 44 (ma (cutR 53 44) 4 (some 45)), ni I 45, J))) (by decide +kernel) rfl trivial ?_
  refine V.mem (mq_arr (n := 45) (t := 53) (by decide) rfl (by decide +kernel)) ?_
  show V 34 (12, [some (aR 44), some (aR 3), some (aR 10), some (aR 36), some (aR 41)], [], MG 46 54 N (ni I 45) J) _
  refine V.blk [(12, .aload 0, 1), (13, .bipush 0, 1), (14, .putfield 4005, 3), (17, .aload 0, 1), (18, .bipush (-1), 1), (19, .putfield 4006, 3), (22, .aload 0, 1), (23, .bipush (-1), 1), (24, .putfield 4007, 3), (27, .aload 0, 1), (28, .bipush (-1), 1), (29, .putfield 4008, 3), (32, .aload 0, 1), (33, .bipush 60, 2), (35, .newarray .int, 2), (37, .putfield 4009, 3)] (ps := []) (z' := (40, [some (aR 44), some (aR 3), some (aR 10), some (aR 36), some (aR 41)], [], (47, ma (cutS N 46) 46 (0, 60), ma (cutR 54) 44 (ma (cutR 54 44) 9 (some 46)), ni (sf (sf (sf (sf (ni I 45) 44 5 0) 44 6 (-1)) 44 7 (-1)) 44 8 (-1)) 46, J))) (by decide +kernel) rfl trivial ?_
  refine V.mem (mq_arr (n := 46) (t := 54) (by decide) rfl (by decide +kernel)) ?_
  show V 34 (40, [some (aR 44), some (aR 3), some (aR 10), some (aR 36), some (aR 41)], [], MG 47 55 N (ni (sf (sf (sf (sf (ni I 45) 44 5 0) 44 6 (-1)) 44 7 (-1)) 44 8 (-1)) 46) J) _
  refine V.blk [(40, .aload 0, 1), (41, .bipush 60, 2), (43, .newarray .int, 2), (45, .putfield 4010, 3)] (ps := []) (z' := (48, [some (aR 44), some (aR 3), some (aR 10), some (aR 36), some (aR 41)], [], (48, ma (cutS N 47) 47 (0, 60), ma (cutR 55) 44 (ma (cutR 55 44) 10 (some 47)), ni (ni (sf (sf (sf (sf (ni I 45) 44 5 0) 44 6 (-1)) 44 7 (-1)) 44 8 (-1)) 46) 47, J))) (by decide +kernel) rfl trivial ?_
  refine V.mem (mq_arr (n := 47) (t := 55) (by decide) rfl (by decide +kernel)) ?_
  show V 34 (48, [some (aR 44), some (aR 3), some (aR 10), some (aR 36), some (aR 41)], [], MG 48 56 N (ni (ni (sf (sf (sf (sf (ni I 45) 44 5 0) 44 6 (-1)) 44 7 (-1)) 44 8 (-1)) 46) 47) J) _
  refine V.blk [(48, .aload 0, 1), (49, .bipush 0, 1), (50, .putfield 4011, 3), (53, .aload 0, 1), (54, .bipush (-1), 1), (55, .putfield 4012, 3), (58, .aload 0, 1), (59, .bipush (-1), 1), (60, .putfield 4013, 3), (63, .aload 0, 1), (64, .aload 1, 1), (65, .putfield 4000, 3)] (ps := []) (z' := (68, [some (aR 44), some (aR 3), some (aR 10), some (aR 36), some (aR 41)], [], (48, cutS N 48, ma (cutR 56) 44 (ma (cutR 56 44) 0 (some 3)), sf (sf (sf (ni (ni (sf (sf (sf (sf (ni I 45) 44 5 0) 44 6 (-1)) 44 7 (-1)) 44 8 (-1)) 46) 47) 44 11 0) 44 12 (-1)) 44 13 (-1), J))) (by decide +kernel) rfl trivial ?_
  refine V.mem (mq_ref (n := 48) (t := 56) (by decide +kernel)) ?_
  show V 34 (68, [some (aR 44), some (aR 3), some (aR 10), some (aR 36), some (aR 41)], [], MG 48 57 N (sf (sf (sf (ni (ni (sf (sf (sf (sf (ni I 45) 44 5 0) 44 6 (-1)) 44 7 (-1)) 44 8 (-1)) 46) 47) 44 11 0) 44 12 (-1)) 44 13 (-1)) J) _
  refine V.blk [(68, .aload 0, 1), (69, .aload 2, 1), (70, .putfield 4001, 3)] (ps := []) (z' := (73, [some (aR 44), some (aR 3), some (aR 10), some (aR 36), some (aR 41)], [], (48, cutS N 48, ma (cutR 57) 44 (ma (cutR 57 44) 1 (some 10)), sf (sf (sf (ni (ni (sf (sf (sf (sf (ni I 45) 44 5 0) 44 6 (-1)) 44 7 (-1)) 44 8 (-1)) 46) 47) 44 11 0) 44 12 (-1)) 44 13 (-1), J))) (by decide +kernel) rfl trivial ?_
  refine V.mem (mq_ref (n := 48) (t := 57) (by decide +kernel)) ?_
  show V 34 (73, [some (aR 44), some (aR 3), some (aR 10), some (aR 36), some (aR 41)], [], MG 48 58 N (sf (sf (sf (ni (ni (sf (sf (sf (sf (ni I 45) 44 5 0) 44 6 (-1)) 44 7 (-1)) 44 8 (-1)) 46) 47) 44 11 0) 44 12 (-1)) 44 13 (-1)) J) _
  refine V.blk [(73, .aload 0, 1), (74, .aload 3, 1), (75, .putfield 4002, 3)] (ps := []) (z' := (78, [some (aR 44), some (aR 3), some (aR 10), some (aR 36), some (aR 41)], [], (48, cutS N 48, ma (cutR 58) 44 (ma (cutR 58 44) 2 (some 36)), sf (sf (sf (ni (ni (sf (sf (sf (sf (ni I 45) 44 5 0) 44 6 (-1)) 44 7 (-1)) 44 8 (-1)) 46) 47) 44 11 0) 44 12 (-1)) 44 13 (-1), J))) (by decide +kernel) rfl trivial ?_
  refine V.mem (mq_ref (n := 48) (t := 58) (by decide +kernel)) ?_
  show V 34 (78, [some (aR 44), some (aR 3), some (aR 10), some (aR 36), some (aR 41)], [], MG 48 59 N (sf (sf (sf (ni (ni (sf (sf (sf (sf (ni I 45) 44 5 0) 44 6 (-1)) 44 7 (-1)) 44 8 (-1)) 46) 47) 44 11 0) 44 12 (-1)) 44 13 (-1)) J) _
  refine V.blk [(78, .aload 0, 1), (79, .aload 4, 2), (81, .putfield 4003, 3)] (ps := []) (z' := (84, [some (aR 44), some (aR 3), some (aR 10), some (aR 36), some (aR 41)], [], (48, cutS N 48, ma (cutR 59) 44 (ma (cutR 59 44) 3 (some 41)), sf (sf (sf (ni (ni (sf (sf (sf (sf (ni I 45) 44 5 0) 44 6 (-1)) 44 7 (-1)) 44 8 (-1)) 46) 47) 44 11 0) 44 12 (-1)) 44 13 (-1), J))) (by decide +kernel) rfl trivial ?_
  refine V.mem (mq_ref (n := 48) (t := 59) (by decide +kernel)) ?_
  show V 34 (84, [some (aR 44), some (aR 3), some (aR 10), some (aR 36), some (aR 41)], [], MG 48 60 N (sf (sf (sf (ni (ni (sf (sf (sf (sf (ni I 45) 44 5 0) 44 6 (-1)) 44 7 (-1)) 44 8 (-1)) 46) 47) 44 11 0) 44 12 (-1)) 44 13 (-1)) J) _
  refine V.rv (by decide +kernel) ?_
  exact ⟨rfl, rfl⟩
def iX5 (I : MI) : MI := sf (ni I 49) 48 1 (-1)
theorem k_X5 {N : Nat} {I : MI} {J : MJ} : CT 41 [aR 48] (MG 49 61 N I J) (fun r M' => r = none ∧ M' = MG 50 62 N (iX5 I) J) := by
  refine CT.ofV (n := 1) (ls := [some (aR 48)]) rfl rfl rfl ?_
  refine V.blk [(0, .aload 0, 1), (1, .invokestatic 1003, 3), (4, .aload 0, 1), (5, .bipush 40, 2), (7, .newarray .int, 2), (9, .putfield 5000, 3)] (ps := []) (z' := (12, [some (aR 48)], [], (50, ma (cutS N 49) 49 (0, 40), ma (cutR 61) 48 (ma (cutR 61 48) 0 (some 49)), ni I 49, J))) (by decide +kernel) rfl trivial ?_
  refine V.mem (mq_arr (n := 49) (t := 61) (by decide) rfl (by decide +kernel)) ?_
  show V 41 (12, [some (aR 48)], [], MG 50 62 N (ni I 49) J) _
  refine V.blk [(12, .aload 0, 1), (13, .bipush (-1), 1), (14, .putfield 5001, 3)] (ps := []) (z' := (17, [some (aR 48)], [], MG 50 62 N (sf (ni I 49) 48 1 (-1)) J)) (by decide +kernel) rfl trivial ?_
  refine V.rv (by decide +kernel) ?_
  exact ⟨rfl, rfl⟩
/-- what the class's constructor makes -/
def mkX (I : MI) (J : MJ) : Prop := (∀ p, p < 64 → I 4 p = -1) ∧ (∀ k, k < 48 → I 7 k = -1) ∧ (∀ q, q < 64 → J 8 q = bt q ∧ J 9 q = Int64.ofInt 0) ∧ (I 1 1 = 0 ∧ I 2 = fun _ => 0) ∧ (I 10 9 = 0 ∧ I 10 11 = 0 ∧ I 10 13 = 0 ∧ I 21 0 = 0) ∧ (I 22 4 = 0 ∧ I 22 9 = 0) ∧ (I 0 11 = 0 ∧ I 0 13 = -1) ∧ (I 44 5 = 0 ∧ I 44 6 = -1) ∧ I 48 1 = -1 ∧ I 51 = fun _ => 0
theorem k_X9 {N : Nat} {I : MI} {J : MJ} : CT 64 [aR 0] (MG 1 0 N I J) (fun r M' => r = none ∧ ∃ I' J', M' = MG 52 65 N I' J' ∧ mkX I' J' ∧ I' SCR = I SCR) := by
  refine CT.ofV (n := 1) (ls := [some (aR 0)]) rfl rfl rfl ?_
  refine V.blk [(0, .aload 0, 1), (1, .invokestatic 1003, 3), (4, .aload 0, 1), (5, .new 8, 3), (8, .dup, 1)] (ps := []) (z' := (9, [some (aR 0)], [aR 1, aR 1, aR 0], (2, ma (cutS N 1) 1 (11, 2), ma (cutR 0) 1 (fun _ => none), ni I 1, J))) (by decide +kernel) rfl trivial ?_
  refine V.mem (mq_new (n := 1) (t := 0) (by decide) rfl (by decide +kernel)) ?_
  show V 64 (9, [some (aR 0)], [aR 1, aR 1, aR 0], MG 2 0 N (ni I 1) J) _
  refine V.cv (c := 60) (na := 1) (o := 8) (a := 1) [] [aR 1, aR 0] (by decide +kernel) rfl rfl rfl rfl rfl ((k_X8 (N := N)).mono (fun rv M1 q => ?_))
  obtain ⟨rfl, rfl⟩ := q
  show V 64 (12, [some (aR 0)], [aR 1, aR 0], MG 3 1 N (iX8 (ni I 1)) J) _
  refine V.blk [(12, .putfield 9000, 3)] (ps := []) (z' := (15, [some (aR 0)], [], (3, cutS N 3, ma (cutR 1) 0 (ma (cutR 1 0) 0 (some 1)), iX8 (ni I 1), J))) (by decide +kernel) rfl trivial ?_
  refine V.mem (mq_ref (n := 3) (t := 1) (by decide +kernel)) ?_
  show V 64 (15, [some (aR 0)], [], MG 3 2 N (iX8 (ni I 1)) J) _
  refine V.blk [(15, .aload 0, 1), (16, .new 6, 3), (19, .dup, 1)] (ps := []) (z' := (20, [some (aR 0)], [aR 3, aR 3, aR 0], (4, ma (cutS N 3) 3 (9, 6), ma (cutR 2) 3 (fun _ => none), ni (iX8 (ni I 1)) 3, J))) (by decide +kernel) rfl trivial ?_
  refine V.mem (mq_new (n := 3) (t := 2) (by decide) rfl (by decide +kernel)) ?_
  show V 64 (20, [some (aR 0)], [aR 3, aR 3, aR 0], MG 4 2 N (ni (iX8 (ni I 1)) 3) J) _
  refine V.cv (c := 44) (na := 1) (o := 6) (a := 3) [] [aR 3, aR 0] (by decide +kernel) rfl rfl rfl rfl rfl ((k_X6 (N := N)).mono (fun rv M1 q => ?_))
  obtain ⟨rfl, I6, J6, rfl, h64, h67, h6s, h6o⟩ := q
  show V 64 (23, [some (aR 0)], [aR 3, aR 0], MG 10 8 N I6 J6) _
  refine V.blk [(23, .putfield 9001, 3)] (ps := []) (z' := (26, [some (aR 0)], [], (10, cutS N 10, ma (cutR 8) 0 (ma (cutR 8 0) 1 (some 3)), I6, J6))) (by decide +kernel) rfl trivial ?_
  refine V.mem (mq_ref (n := 10) (t := 8) (by decide +kernel)) ?_
  show V 64 (26, [some (aR 0)], [], MG 10 9 N I6 J6) _
  refine V.blk [(26, .aload 0, 1), (27, .new 3, 3), (30, .dup, 1)] (ps := []) (z' := (31, [some (aR 0)], [aR 10, aR 10, aR 0], (11, ma (cutS N 10) 10 (6, 14), ma (cutR 9) 10 (fun _ => none), ni I6 10, J6))) (by decide +kernel) rfl trivial ?_
  refine V.mem (mq_new (n := 10) (t := 9) (by decide) rfl (by decide +kernel)) ?_
  show V 64 (31, [some (aR 0)], [aR 10, aR 10, aR 0], MG 11 9 N (ni I6 10) J6) _
  refine V.cv (c := 23) (na := 1) (o := 3) (a := 10) [] [aR 10, aR 0] (by decide +kernel) rfl rfl rfl rfl rfl ((k_X3 (N := N)).mono (fun rv M1 q => ?_))
  obtain ⟨rfl, rfl⟩ := q
  show V 64 (34, [some (aR 0)], [aR 10, aR 0], MG 22 20 N (iX3 (ni I6 10)) J6) _
  refine V.blk [(34, .putfield 9002, 3)] (ps := []) (z' := (37, [some (aR 0)], [], (22, cutS N 22, ma (cutR 20) 0 (ma (cutR 20 0) 2 (some 10)), iX3 (ni I6 10), J6))) (by decide +kernel) rfl trivial ?_
  refine V.mem (mq_ref (n := 22) (t := 20) (by decide +kernel)) ?_
  show V 64 (37, [some (aR 0)], [], MG 22 21 N (iX3 (ni I6 10)) J6) _
  refine V.blk [(37, .aload 0, 1), (38, .new 1, 3), (41, .dup, 1)] (ps := []) (z' := (42, [some (aR 0)], [aR 22, aR 22, aR 0], (23, ma (cutS N 22) 22 (4, 10), ma (cutR 21) 22 (fun _ => none), ni (iX3 (ni I6 10)) 22, J6))) (by decide +kernel) rfl trivial ?_
  refine V.mem (mq_new (n := 22) (t := 21) (by decide) rfl (by decide +kernel)) ?_
  show V 64 (42, [some (aR 0)], [aR 22, aR 22, aR 0], MG 23 21 N (ni (iX3 (ni I6 10)) 22) J6) _
  refine V.cv (c := 8) (na := 1) (o := 1) (a := 22) [] [aR 22, aR 0] (by decide +kernel) rfl rfl rfl rfl rfl ((k_X1 (N := N)).mono (fun rv M1 q => ?_))
  obtain ⟨rfl, rfl⟩ := q
  show V 64 (45, [some (aR 0)], [aR 22, aR 0], MG 31 29 N (iX1 (ni (iX3 (ni I6 10)) 22)) J6) _
  refine V.blk [(45, .putfield 9003, 3)] (ps := []) (z' := (48, [some (aR 0)], [], (31, cutS N 31, ma (cutR 29) 0 (ma (cutR 29 0) 3 (some 22)), iX1 (ni (iX3 (ni I6 10)) 22), J6))) (by decide +kernel) rfl trivial ?_
  refine V.mem (mq_ref (n := 31) (t := 29) (by decide +kernel)) ?_
  show V 64 (48, [some (aR 0)], [], MG 31 30 N (iX1 (ni (iX3 (ni I6 10)) 22)) J6) _
  refine V.blk [(48, .aload 0, 1), (49, .new 2, 3), (52, .dup, 1), (53, .aload 0, 1), (54, .getfield 9000, 3), (57, .aload 0, 1), (58, .getfield 9001, 3), (61, .aload 0, 1), (62, .getfield 9002, 3)] (ps := []) (z' := (65, [some (aR 0)], [aR 10, aR 3, aR 1, aR 31, aR 31, aR 0], (32, ma (cutS N 31) 31 (5, 8), ma (cutR 30) 31 (fun _ => none), ni (iX1 (ni (iX3 (ni I6 10)) 22)) 31, J6))) (by decide +kernel) rfl trivial ?_
  refine V.mem (mq_new (n := 31) (t := 30) (by decide) rfl (by decide +kernel)) ?_
  show V 64 (65, [some (aR 0)], [aR 10, aR 3, aR 1, aR 31, aR 31, aR 0], MG 32 30 N (ni (iX1 (ni (iX3 (ni I6 10)) 22)) 31) J6) _
  refine V.cv (c := 16) (na := 4) (o := 2) (a := 31) [aR 10, aR 3, aR 1] [aR 31, aR 0] (by decide +kernel) rfl rfl rfl rfl rfl ((k_X2 (N := N)).mono (fun rv M1 q => ?_))
  obtain ⟨rfl, rfl⟩ := q
  show V 64 (68, [some (aR 0)], [aR 31, aR 0], MG 36 37 N (iX2 (ni (iX1 (ni (iX3 (ni I6 10)) 22)) 31)) (jX2 J6)) _
  refine V.blk [(68, .putfield 9004, 3)] (ps := []) (z' := (71, [some (aR 0)], [], (36, cutS N 36, ma (cutR 37) 0 (ma (cutR 37 0) 4 (some 31)), iX2 (ni (iX1 (ni (iX3 (ni I6 10)) 22)) 31), jX2 J6))) (by decide +kernel) rfl trivial ?_
  refine V.mem (mq_ref (n := 36) (t := 37) (by decide +kernel)) ?_
  show V 64 (71, [some (aR 0)], [], MG 36 38 N (iX2 (ni (iX1 (ni (iX3 (ni I6 10)) 22)) 31)) (jX2 J6)) _
  refine V.blk [(71, .aload 0, 1), (72, .new 7, 3), (75, .dup, 1), (76, .aload 0, 1), (77, .getfield 9000, 3), (80, .aload 0, 1), (81, .getfield 9001, 3), (84, .aload 0, 1), (85, .getfield 9002, 3), (88, .aload 0, 1), (89, .getfield 9004, 3)] (ps := []) (z' := (92, [some (aR 0)], [aR 31, aR 10, aR 3, aR 1, aR 36, aR 36, aR 0], (37, ma (cutS N 36) 36 (10, 8), ma (cutR 38) 36 (fun _ => none), ni (iX2 (ni (iX1 (ni (iX3 (ni I6 10)) 22)) 31)) 36, jX2 J6))) (by decide +kernel) rfl trivial ?_
  refine V.mem (mq_new (n := 36) (t := 38) (by decide) rfl (by decide +kernel)) ?_
  show V 64 (92, [some (aR 0)], [aR 31, aR 10, aR 3, aR 1, aR 36, aR 36, aR 0], MG 37 38 N (ni (iX2 (ni (iX1 (ni (iX3 (ni I6 10)) 22)) 31)) 36) (jX2 J6)) _
  refine V.cv (c := 48) (na := 5) (o := 7) (a := 36) [aR 31, aR 10, aR 3, aR 1] [aR 36, aR 0] (by decide +kernel) rfl rfl rfl rfl rfl ((k_X7 (N := N)).mono (fun rv M1 q => ?_))
  obtain ⟨rfl, rfl⟩ := q
  show V 64 (95, [some (aR 0)], [aR 36, aR 0], MG 41 46 N (iX7 (ni (iX2 (ni (iX1 (ni (iX3 (ni I6 10)) 22)) 31)) 36)) (jX7 (jX2 J6))) _
  refine V.blk [(95, .putfield 9005, 3)] (ps := []) (z' := (98, [some (aR 0)], [], (41, cutS N 41, ma (cutR 46) 0 (ma (cutR 46 0) 5 (some 36)), iX7 (ni (iX2 (ni (iX1 (ni (iX3 (ni I6 10)) 22)) 31)) 36), jX7 (jX2 J6)))) (by decide +kernel) rfl trivial ?_
  refine V.mem (mq_ref (n := 41) (t := 46) (by decide +kernel)) ?_
  show V 64 (98, [some (aR 0)], [], MG 41 47 N (iX7 (ni (iX2 (ni (iX1 (ni (iX3 (ni I6 10)) 22)) 31)) 36)) (jX7 (jX2 J6))) _
  refine V.blk [(98, .aload 0, 1), (99, .new 0, 3), (102, .dup, 1), (103, .aload 0, 1), (104, .getfield 9001, 3), (107, .aload 0, 1), (108, .getfield 9002, 3), (111, .aload 0, 1), (112, .getfield 9005, 3)] (ps := []) (z' := (115, [some (aR 0)], [aR 36, aR 10, aR 3, aR 41, aR 41, aR 0], (42, ma (cutS N 41) 41 (3, 6), ma (cutR 47) 41 (fun _ => none), ni (iX7 (ni (iX2 (ni (iX1 (ni (iX3 (ni I6 10)) 22)) 31)) 36)) 41, jX7 (jX2 J6)))) (by decide +kernel) rfl trivial ?_
  refine V.mem (mq_new (n := 41) (t := 47) (by decide) rfl (by decide +kernel)) ?_
  show V 64 (115, [some (aR 0)], [aR 36, aR 10, aR 3, aR 41, aR 41, aR 0], MG 42 47 N (ni (iX7 (ni (iX2 (ni (iX1 (ni (iX3 (ni I6 10)) 22)) 31)) 36)) 41) (jX7 (jX2 J6))) _
  refine V.cv (c := 1) (na := 4) (o := 0) (a := 41) [aR 36, aR 10, aR 3] [aR 41, aR 0] (by decide +kernel) rfl rfl rfl rfl rfl ((k_X0 (N := N)).mono (fun rv M1 q => ?_))
  obtain ⟨rfl, rfl⟩ := q
  show V 64 (118, [some (aR 0)], [aR 41, aR 0], MG 44 52 N (iX0 (ni (iX7 (ni (iX2 (ni (iX1 (ni (iX3 (ni I6 10)) 22)) 31)) 36)) 41)) (jX7 (jX2 J6))) _
  refine V.blk [(118, .putfield 9006, 3)] (ps := []) (z' := (121, [some (aR 0)], [], (44, cutS N 44, ma (cutR 52) 0 (ma (cutR 52 0) 6 (some 41)), iX0 (ni (iX7 (ni (iX2 (ni (iX1 (ni (iX3 (ni I6 10)) 22)) 31)) 36)) 41), jX7 (jX2 J6)))) (by decide +kernel) rfl trivial ?_
  refine V.mem (mq_ref (n := 44) (t := 52) (by decide +kernel)) ?_
  show V 64 (121, [some (aR 0)], [], MG 44 53 N (iX0 (ni (iX7 (ni (iX2 (ni (iX1 (ni (iX3 (ni I6 10)) 22)) 31)) 36)) 41)) (jX7 (jX2 J6))) _
  refine V.blk [(121, .aload 0, 1), (122, .new 4, 3), (125, .dup, 1), (126, .aload 0, 1), (127, .getfield 9001, 3), (130, .aload 0, 1), (131, .getfield 9002, 3), (134, .aload 0, 1), (135, .getfield 9005, 3), (138, .aload 0, 1), (139, .getfield 9006, 3)] (ps := []) (z' := (142, [some (aR 0)], [aR 41, aR 36, aR 10, aR 3, aR 44, aR 44, aR 0], (45, ma (cutS N 44) 44 (7, 14), ma (cutR 53) 44 (fun _ => none), ni (iX0 (ni (iX7 (ni (iX2 (ni (iX1 (ni (iX3 (ni I6 10)) 22)) 31)) 36)) 41)) 44, jX7 (jX2 J6)))) (by decide +kernel) rfl trivial ?_
  refine V.mem (mq_new (n := 44) (t := 53) (by decide) rfl (by decide +kernel)) ?_
  show V 64 (142, [some (aR 0)], [aR 41, aR 36, aR 10, aR 3, aR 44, aR 44, aR 0], MG 45 53 N (ni (iX0 (ni (iX7 (ni (iX2 (ni (iX1 (ni (iX3 (ni I6 10)) 22)) 31)) 36)) 41)) 44) (jX7 (jX2 J6))) _
  refine V.cv (c := 34) (na := 5) (o := 4) (a := 44) [aR 41, aR 36, aR 10, aR 3] [aR 44, aR 0] (by decide +kernel) rfl rfl rfl rfl rfl ((k_X4 (N := N)).mono (fun rv M1 q => ?_))
  obtain ⟨rfl, rfl⟩ := q
  show V 64 (145, [some (aR 0)], [aR 44, aR 0], MG 48 60 N (iX4 (ni (iX0 (ni (iX7 (ni (iX2 (ni (iX1 (ni (iX3 (ni I6 10)) 22)) 31)) 36)) 41)) 44)) (jX7 (jX2 J6))) _
  refine V.blk [(145, .putfield 9007, 3)] (ps := []) (z' := (148, [some (aR 0)], [], (48, cutS N 48, ma (cutR 60) 0 (ma (cutR 60 0) 7 (some 44)), iX4 (ni (iX0 (ni (iX7 (ni (iX2 (ni (iX1 (ni (iX3 (ni I6 10)) 22)) 31)) 36)) 41)) 44), jX7 (jX2 J6)))) (by decide +kernel) rfl trivial ?_
  refine V.mem (mq_ref (n := 48) (t := 60) (by decide +kernel)) ?_
  show V 64 (148, [some (aR 0)], [], MG 48 61 N (iX4 (ni (iX0 (ni (iX7 (ni (iX2 (ni (iX1 (ni (iX3 (ni I6 10)) 22)) 31)) 36)) 41)) 44)) (jX7 (jX2 J6))) _
  refine V.blk [(148, .aload 0, 1), (149, .new 5, 3), (152, .dup, 1)] (ps := []) (z' := (153, [some (aR 0)], [aR 48, aR 48, aR 0], (49, ma (cutS N 48) 48 (8, 2), ma (cutR 61) 48 (fun _ => none), ni (iX4 (ni (iX0 (ni (iX7 (ni (iX2 (ni (iX1 (ni (iX3 (ni I6 10)) 22)) 31)) 36)) 41)) 44)) 48, jX7 (jX2 J6)))) (by decide +kernel) rfl trivial ?_
  refine V.mem (mq_new (n := 48) (t := 61) (by decide) rfl (by decide +kernel)) ?_
  show V 64 (153, [some (aR 0)], [aR 48, aR 48, aR 0], MG 49 61 N (ni (iX4 (ni (iX0 (ni (iX7 (ni (iX2 (ni (iX1 (ni (iX3 (ni I6 10)) 22)) 31)) 36)) 41)) 44)) 48) (jX7 (jX2 J6))) _
  refine V.cv (c := 41) (na := 1) (o := 5) (a := 48) [] [aR 48, aR 0] (by decide +kernel) rfl rfl rfl rfl rfl ((k_X5 (N := N)).mono (fun rv M1 q => ?_))
  obtain ⟨rfl, rfl⟩ := q
  show V 64 (156, [some (aR 0)], [aR 48, aR 0], MG 50 62 N (iX5 (ni (iX4 (ni (iX0 (ni (iX7 (ni (iX2 (ni (iX1 (ni (iX3 (ni I6 10)) 22)) 31)) 36)) 41)) 44)) 48)) (jX7 (jX2 J6))) _
  refine V.blk [(156, .putfield 9008, 3)] (ps := []) (z' := (159, [some (aR 0)], [], (50, cutS N 50, ma (cutR 62) 0 (ma (cutR 62 0) 8 (some 48)), iX5 (ni (iX4 (ni (iX0 (ni (iX7 (ni (iX2 (ni (iX1 (ni (iX3 (ni I6 10)) 22)) 31)) 36)) 41)) 44)) 48), jX7 (jX2 J6)))) (by decide +kernel) rfl trivial ?_
  refine V.mem (mq_ref (n := 50) (t := 62) (by decide +kernel)) ?_
  show V 64 (159, [some (aR 0)], [], MG 50 63 N (iX5 (ni (iX4 (ni (iX0 (ni (iX7 (ni (iX2 (ni (iX1 (ni (iX3 (ni I6 10)) 22)) 31)) 36)) 41)) 44)) 48)) (jX7 (jX2 J6))) _
  refine V.blk [(159, .aload 0, 1), (160, .bipush 320, 3), (163, .newarray .long, 2), (165, .putfield 9009, 3)] (ps := []) (z' := (168, [some (aR 0)], [], (51, ma (cutS N 50) 50 (1, 320), ma (cutR 63) 0 (ma (cutR 63 0) 9 (some 50)), iX5 (ni (iX4 (ni (iX0 (ni (iX7 (ni (iX2 (ni (iX1 (ni (iX3 (ni I6 10)) 22)) 31)) 36)) 41)) 44)) 48), nj (jX7 (jX2 J6)) 50))) (by decide +kernel) rfl trivial ?_
  refine V.mem (mq_arr (n := 50) (t := 63) (by decide) rfl (by decide +kernel)) ?_
  show V 64 (168, [some (aR 0)], [], MG 51 64 N (iX5 (ni (iX4 (ni (iX0 (ni (iX7 (ni (iX2 (ni (iX1 (ni (iX3 (ni I6 10)) 22)) 31)) 36)) 41)) 44)) 48)) (nj (jX7 (jX2 J6)) 50)) _
  refine V.blk [(168, .aload 0, 1), (169, .bipush 8, 2), (171, .newarray .int, 2), (173, .putfield 9010, 3)] (ps := []) (z' := (176, [some (aR 0)], [], (52, ma (cutS N 51) 51 (0, 8), ma (cutR 64) 0 (ma (cutR 64 0) 10 (some 51)), ni (iX5 (ni (iX4 (ni (iX0 (ni (iX7 (ni (iX2 (ni (iX1 (ni (iX3 (ni I6 10)) 22)) 31)) 36)) 41)) 44)) 48)) 51, nj (jX7 (jX2 J6)) 50))) (by decide +kernel) rfl trivial ?_
  refine V.mem (mq_arr (n := 51) (t := 64) (by decide) rfl (by decide +kernel)) ?_
  show V 64 (176, [some (aR 0)], [], MG 52 65 N (ni (iX5 (ni (iX4 (ni (iX0 (ni (iX7 (ni (iX2 (ni (iX1 (ni (iX3 (ni I6 10)) 22)) 31)) 36)) 41)) 44)) 48)) 51) (nj (jX7 (jX2 J6)) 50)) _
  refine V.blk [(176, .aload 0, 1), (177, .bipush 0, 1), (178, .putfield 9011, 3), (181, .aload 0, 1), (182, .bipush (-1), 1), (183, .putfield 9012, 3), (186, .aload 0, 1), (187, .bipush (-1), 1), (188, .putfield 9013, 3)] (ps := []) (z' := (191, [some (aR 0)], [], MG 52 65 N (sf (sf (sf (ni (iX5 (ni (iX4 (ni (iX0 (ni (iX7 (ni (iX2 (ni (iX1 (ni (iX3 (ni I6 10)) 22)) 31)) 36)) 41)) 44)) 48)) 51) 0 11 0) 0 12 (-1)) 0 13 (-1)) (nj (jX7 (jX2 J6)) 50))) (by decide +kernel) rfl trivial ?_
  refine V.rv (by decide +kernel) ?_
  have q1 : I6 1 = iX8 (ni I 1) 1 := (h6o 1 (by decide)).trans rfl
  have q2 : I6 2 = iX8 (ni I 1) 2 := (h6o 2 (by decide)).trans rfl
  have q3 : I6 SCR = I SCR := (h6o SCR (by decide)).trans rfl
  refine ⟨rfl, _, _, rfl, ⟨h64, h67, h6s, ⟨?_, ?_⟩, ⟨rfl, rfl, rfl, rfl⟩, ⟨rfl, rfl⟩, ⟨rfl, rfl⟩, ⟨rfl, rfl⟩, rfl, rfl⟩, ?_⟩
  · show I6 1 1 = 0
    rw [q1]
    rfl
  · show I6 2 = _
    rw [q2]
    rfl
  · exact q3
def iX10 (I : MI) : MI := sf (ni (ni (ni (ni (ni (ni (ni (ni (ni (ni (sf (sf (ni (ni (ni (ni (ni (ni (sf (ni (ni (ni (ni (ni (ni (ni (ni (ni (ni (ni (ni (ni (ni (ni (ni (ni (ni (ni (ni (ni (ni (ni (ni I 53) 54) 55) 56) 57) 58) 59) 60) 61) 62) 63) 64) 65) 66) 67) 68) 69) 70) 71) 72) 73) 74) 75) 76) 52 31 (-1)) 77) 78) 79) 80) 81) 82) 52 40 1) 52 43 (-1)) 86) 87) 88) 89) 90) 91) 92) 93) 94) 95) 52 64 (-1)
def jX10 (J : MJ) : MJ := nj (nj (nj J 83) 84) 85
theorem iX10_ne (I : MI) {i : Nat} (h : i < 52) : iX10 I i = I i := by
  unfold iX10
  rw [sf_ne _ _ _ (show i ≠ 52 by omega), ni_ne _ (show i ≠ 95 by omega), ni_ne _ (show i ≠ 94 by omega), ni_ne _ (show i ≠ 93 by omega), ni_ne _ (show i ≠ 92 by omega), ni_ne _ (show i ≠ 91 by omega), ni_ne _ (show i ≠ 90 by omega), ni_ne _ (show i ≠ 89 by omega), ni_ne _ (show i ≠ 88 by omega), ni_ne _ (show i ≠ 87 by omega), ni_ne _ (show i ≠ 86 by omega), sf_ne _ _ _ (show i ≠ 52 by omega), sf_ne _ _ _ (show i ≠ 52 by omega), ni_ne _ (show i ≠ 82 by omega), ni_ne _ (show i ≠ 81 by omega), ni_ne _ (show i ≠ 80 by omega), ni_ne _ (show i ≠ 79 by omega), ni_ne _ (show i ≠ 78 by omega), ni_ne _ (show i ≠ 77 by omega), sf_ne _ _ _ (show i ≠ 52 by omega), ni_ne _ (show i ≠ 76 by omega), ni_ne _ (show i ≠ 75 by omega), ni_ne _ (show i ≠ 74 by omega), ni_ne _ (show i ≠ 73 by omega), ni_ne _ (show i ≠ 72 by omega), ni_ne _ (show i ≠ 71 by omega), ni_ne _ (show i ≠ 70 by omega), ni_ne _ (show i ≠ 69 by omega), ni_ne _ (show i ≠ 68 by omega), ni_ne _ (show i ≠ 67 by omega), ni_ne _ (show i ≠ 66 by omega), ni_ne _ (show i ≠ 65 by omega), ni_ne _ (show i ≠ 64 by omega), ni_ne _ (show i ≠ 63 by omega), ni_ne _ (show i ≠ 62 by omega), ni_ne _ (show i ≠ 61 by omega), ni_ne _ (show i ≠ 60 by omega), ni_ne _ (show i ≠ 59 by omega), ni_ne _ (show i ≠ 58 by omega), ni_ne _ (show i ≠ 57 by omega), ni_ne _ (show i ≠ 56 by omega), ni_ne _ (show i ≠ 55 by omega), ni_ne _ (show i ≠ 54 by omega), ni_ne _ (show i ≠ 53 by omega)]
theorem jX10_ne (J : MJ) {i : Nat} (h : i < 52) : jX10 J i = J i := by
  unfold jX10
  rw [nj_ne _ (show i ≠ 85 by omega), nj_ne _ (show i ≠ 84 by omega), nj_ne _ (show i ≠ 83 by omega)]
theorem l_mk_54 {N : Nat} {I : Nat → Nat → Int} {J : Nat → Nat → Int64} {Q : Option AV → M5 → Prop} (cont : ∀ I', (∀ k, k < 64 → I' 54 k = -1) → (∀ i, i ≠ 54 → I' i = I i) → V 114 (408, [some (aR 52), some (aI 64)], [], MM N I' J) Q) : ∀ (m k : Nat) (I' : MI), 65 ≤ m + k → k ≤ 64 → (∀ q, q < k → I' 54 q = -1) → (∀ i, i ≠ 54 → I' i = I i) → V 114 (389, [some (aR 52), some (aI (k : Int))], [], MM N I' J) Q := by
  intro m
  induction m with
  | zero => intro k I' h1 h2; exfalso; omega
  | succ m ih =>
    intro k I' h1 h2 ha ho
    refine V.blk [(389, .iload 1, 1), (390, .bipush 64, 2), (392, .if_icmp .ge 408, 3)] (ps := []) (z' := (brc .ge (k : Int) 64 408 395, [some (aR 52), some (aI (k : Int))], [], MM N I' J)) (by decide +kernel) rfl trivial ?_
    refine V.ge (fun h1 => ?_) (fun h2 => ?_)
    · skip
      have e : k = 64 := by omega
      subst e
      exact cont _ ha ho
    · skip
      refine V.blk [(395, .aload 0, 1), (396, .getfield 10002, 3), (399, .iload 1, 1), (400, .bipush (-1), 1), (401, .iastore, 1), (402, .iinc 1 1, 3), (405, .goto 389, 3)] (ps := [0 ≤ (k : Int) ∧ (k : Int) < 64, inR ((k : Int) + 1)]) (z' := (389, [some (aR 52), some (aI ((k + 1 : Nat) : Int))], [], MM N (ma I' 54 (ma (I' 54) k (-1))) J)) (by decide +kernel) rfl (show (0 ≤ (k : Int) ∧ (k : Int) < 64) ∧ (inR ((k : Int) + 1)) from ⟨(by omega), (by unfold inR; omega)⟩) ?_
      refine V.nI (fun I3 eI3 => ?_)
      refine ih (k + 1) _ (by omega) (by omega) ?_ ?_
      · intro q hq
        subst eI3
        simp only [ma_self]
        unfold ma
        split
        · rfl
        · exact ha q (by omega)
      · intro i hi
        subst eI3
        rw [ma_ne _ _ hi]
        exact ho i hi
theorem l_mk_58 {N : Nat} {I : Nat → Nat → Int} {J : Nat → Nat → Int64} {Q : Option AV → M5 → Prop} (cont : ∀ I', (∀ k, k < 48 → I' 58 k = -1) → (∀ i, i ≠ 58 → I' i = I i) → V 114 (429, [some (aR 52), some (aI 48)], [], MM N I' J) Q) : ∀ (m k : Nat) (I' : MI), 49 ≤ m + k → k ≤ 48 → (∀ q, q < k → I' 58 q = -1) → (∀ i, i ≠ 58 → I' i = I i) → V 114 (410, [some (aR 52), some (aI (k : Int))], [], MM N I' J) Q := by
  intro m
  induction m with
  | zero => intro k I' h1 h2; exfalso; omega
  | succ m ih =>
    intro k I' h1 h2 ha ho
    refine V.blk [(410, .iload 1, 1), (411, .bipush 48, 2), (413, .if_icmp .ge 429, 3)] (ps := []) (z' := (brc .ge (k : Int) 48 429 416, [some (aR 52), some (aI (k : Int))], [], MM N I' J)) (by decide +kernel) rfl trivial ?_
    refine V.ge (fun h1 => ?_) (fun h2 => ?_)
    · skip
      have e : k = 48 := by omega
      subst e
      exact cont _ ha ho
    · skip
      refine V.blk [(416, .aload 0, 1), (417, .getfield 10006, 3), (420, .iload 1, 1), (421, .bipush (-1), 1), (422, .iastore, 1), (423, .iinc 1 1, 3), (426, .goto 410, 3)] (ps := [0 ≤ (k : Int) ∧ (k : Int) < 48, inR ((k : Int) + 1)]) (z' := (410, [some (aR 52), some (aI ((k + 1 : Nat) : Int))], [], MM N (ma I' 58 (ma (I' 58) k (-1))) J)) (by decide +kernel) rfl (show (0 ≤ (k : Int) ∧ (k : Int) < 48) ∧ (inR ((k : Int) + 1)) from ⟨(by omega), (by unfold inR; omega)⟩) ?_
      refine V.nI (fun I3 eI3 => ?_)
      refine ih (k + 1) _ (by omega) (by omega) ?_ ?_
      · intro q hq
        subst eI3
        simp only [ma_self]
        unfold ma
        split
        · rfl
        · exact ha q (by omega)
      · intro i hi
        subst eI3
        rw [ma_ne _ _ hi]
        exact ho i hi
/-- what the reference's constructor makes -/
def mkM (I : MI) : Prop := (∀ p, p < 64 → I 54 p = -1) ∧ (∀ k, k < 48 → I 58 k = -1) ∧ (I 52 1 = 0 ∧ I 52 13 = 0 ∧ I 52 17 = 0 ∧ I 52 18 = 0 ∧ I 52 19 = 0 ∧ I 52 29 = 0 ∧ I 52 30 = 0 ∧ I 52 31 = -1 ∧ I 52 37 = 0 ∧ I 52 40 = 1 ∧ I 52 41 = 0 ∧ I 52 43 = -1 ∧ I 52 56 = 0 ∧ I 52 61 = 0 ∧ I 52 64 = -1) ∧ I 77 = fun _ => 0
theorem k_X10 {N : Nat} {I : MI} {J : MJ} (h0 : I 52 = fun _ => 0) : CT 114 [aR 52] (MG 53 65 N I J) (fun r M' => r = none ∧ ∃ I' J', M' = MM N I' J' ∧ mkM I' ∧ (∀ i, i < 52 → I' i = I i ∧ J' i = J i) ∧ I' SCR = I SCR) := by
  refine CT.ofV (n := 2) (ls := [some (aR 52), none]) rfl rfl rfl ?_
  refine V.blk [(0, .aload 0, 1), (1, .invokestatic 1003, 3), (4, .aload 0, 1), (5, .bipush 40, 2), (7, .newarray .int, 2), (9, .putfield 10000, 3)] (ps := []) (z' := (12, [some (aR 52), none], [], (54, ma (cutS N 53) 53 (0, 40), ma (cutR 65) 52 (ma (cutR 65 52) 0 (some 53)), ni I 53, J))) (by decide +kernel) rfl trivial ?_
  refine V.mem (mq_arr (n := 53) (t := 65) (by decide) rfl (by decide +kernel)) ?_
  show V 114 (12, [some (aR 52), none], [], MG 54 66 N (ni I 53) J) _
  refine V.blk [(12, .aload 0, 1), (13, .bipush 64, 2), (15, .newarray .int, 2), (17, .putfield 10002, 3)] (ps := []) (z' := (20, [some (aR 52), none], [], (55, ma (cutS N 54) 54 (0, 64), ma (cutR 66) 52 (ma (cutR 66 52) 2 (some 54)), ni (ni I 53) 54, J))) (by decide +kernel) rfl trivial ?_
  refine V.mem (mq_arr (n := 54) (t := 66) (by decide) rfl (by decide +kernel)) ?_
  show V 114 (20, [some (aR 52), none], [], MG 55 67 N (ni (ni I 53) 54) J) _
  refine V.blk [(20, .aload 0, 1), (21, .bipush 64, 2), (23, .newarray .int, 2), (25, .putfield 10003, 3)] (ps := []) (z' := (28, [some (aR 52), none], [], (56, ma (cutS N 55) 55 (0, 64), ma (cutR 67) 52 (ma (cutR 67 52) 3 (some 55)), ni (ni (ni I 53) 54) 55, J))) (by decide +kernel) rfl trivial ?_
  refine V.mem (mq_arr (n := 55) (t := 67) (by decide) rfl (by decide +kernel)) ?_
  show V 114 (28, [some (aR 52), none], [], MG 56 68 N (ni (ni (ni I 53) 54) 55) J) _
  refine V.blk [(28, .aload 0, 1), (29, .bipush 64, 2), (31, .newarray .int, 2), (33, .putfield 10004, 3)] (ps := []) (z' := (36, [some (aR 52), none], [], (57, ma (cutS N 56) 56 (0, 64), ma (cutR 68) 52 (ma (cutR 68 52) 4 (some 56)), ni (ni (ni (ni I 53) 54) 55) 56, J))) (by decide +kernel) rfl trivial ?_
  refine V.mem (mq_arr (n := 56) (t := 68) (by decide) rfl (by decide +kernel)) ?_
  show V 114 (36, [some (aR 52), none], [], MG 57 69 N (ni (ni (ni (ni I 53) 54) 55) 56) J) _
  refine V.blk [(36, .aload 0, 1), (37, .bipush 64, 2), (39, .newarray .int, 2), (41, .putfield 10005, 3)] (ps := []) (z' := (44, [some (aR 52), none], [], (58, ma (cutS N 57) 57 (0, 64), ma (cutR 69) 52 (ma (cutR 69 52) 5 (some 57)), ni (ni (ni (ni (ni I 53) 54) 55) 56) 57, J))) (by decide +kernel) rfl trivial ?_
  refine V.mem (mq_arr (n := 57) (t := 69) (by decide) rfl (by decide +kernel)) ?_
  show V 114 (44, [some (aR 52), none], [], MG 58 70 N (ni (ni (ni (ni (ni I 53) 54) 55) 56) 57) J) _
  refine V.blk [(44, .aload 0, 1), (45, .bipush 48, 2), (47, .newarray .int, 2), (49, .putfield 10006, 3)] (ps := []) (z' := (52, [some (aR 52), none], [], (59, ma (cutS N 58) 58 (0, 48), ma (cutR 70) 52 (ma (cutR 70 52) 6 (some 58)), ni (ni (ni (ni (ni (ni I 53) 54) 55) 56) 57) 58, J))) (by decide +kernel) rfl trivial ?_
  refine V.mem (mq_arr (n := 58) (t := 70) (by decide) rfl (by decide +kernel)) ?_
  show V 114 (52, [some (aR 52), none], [], MG 59 71 N (ni (ni (ni (ni (ni (ni I 53) 54) 55) 56) 57) 58) J) _
  refine V.blk [(52, .aload 0, 1), (53, .bipush 420, 3), (56, .newarray .int, 2), (58, .putfield 10007, 3)] (ps := []) (z' := (61, [some (aR 52), none], [], (60, ma (cutS N 59) 59 (0, 420), ma (cutR 71) 52 (ma (cutR 71 52) 7 (some 59)), ni (ni (ni (ni (ni (ni (ni I 53) 54) 55) 56) 57) 58) 59, J))) (by decide +kernel) rfl trivial ?_
  refine V.mem (mq_arr (n := 59) (t := 71) (by decide) rfl (by decide +kernel)) ?_
  show V 114 (61, [some (aR 52), none], [], MG 60 72 N (ni (ni (ni (ni (ni (ni (ni I 53) 54) 55) 56) 57) 58) 59) J) _
  refine V.blk [(61, .aload 0, 1), (62, .bipush 420, 3), (65, .newarray .int, 2), (67, .putfield 10008, 3)] (ps := []) (z' := (70, [some (aR 52), none], [], (61, ma (cutS N 60) 60 (0, 420), ma (cutR 72) 52 (ma (cutR 72 52) 8 (some 60)), ni (ni (ni (ni (ni (ni (ni (ni I 53) 54) 55) 56) 57) 58) 59) 60, J))) (by decide +kernel) rfl trivial ?_
  refine V.mem (mq_arr (n := 60) (t := 72) (by decide) rfl (by decide +kernel)) ?_
  show V 114 (70, [some (aR 52), none], [], MG 61 73 N (ni (ni (ni (ni (ni (ni (ni (ni I 53) 54) 55) 56) 57) 58) 59) 60) J) _
  refine V.blk [(70, .aload 0, 1), (71, .bipush 420, 3), (74, .newarray .int, 2), (76, .putfield 10009, 3)] (ps := []) (z' := (79, [some (aR 52), none], [], (62, ma (cutS N 61) 61 (0, 420), ma (cutR 73) 52 (ma (cutR 73 52) 9 (some 61)), ni (ni (ni (ni (ni (ni (ni (ni (ni I 53) 54) 55) 56) 57) 58) 59) 60) 61, J))) (by decide +kernel) rfl trivial ?_
  refine V.mem (mq_arr (n := 61) (t := 73) (by decide) rfl (by decide +kernel)) ?_
  show V 114 (79, [some (aR 52), none], [], MG 62 74 N (ni (ni (ni (ni (ni (ni (ni (ni (ni I 53) 54) 55) 56) 57) 58) 59) 60) 61) J) _
  refine V.blk [(79, .aload 0, 1), (80, .bipush 420, 3), (83, .newarray .int, 2), (85, .putfield 10010, 3)] (ps := []) (z' := (88, [some (aR 52), none], [], (63, ma (cutS N 62) 62 (0, 420), ma (cutR 74) 52 (ma (cutR 74 52) 10 (some 62)), ni (ni (ni (ni (ni (ni (ni (ni (ni (ni I 53) 54) 55) 56) 57) 58) 59) 60) 61) 62, J))) (by decide +kernel) rfl trivial ?_
  refine V.mem (mq_arr (n := 62) (t := 74) (by decide) rfl (by decide +kernel)) ?_
  show V 114 (88, [some (aR 52), none], [], MG 63 75 N (ni (ni (ni (ni (ni (ni (ni (ni (ni (ni I 53) 54) 55) 56) 57) 58) 59) 60) 61) 62) J) _
  refine V.blk [(88, .aload 0, 1), (89, .bipush 420, 3), (92, .newarray .int, 2), (94, .putfield 10011, 3)] (ps := []) (z' := (97, [some (aR 52), none], [], (64, ma (cutS N 63) 63 (0, 420), ma (cutR 75) 52 (ma (cutR 75 52) 11 (some 63)), ni (ni (ni (ni (ni (ni (ni (ni (ni (ni (ni I 53) 54) 55) 56) 57) 58) 59) 60) 61) 62) 63, J))) (by decide +kernel) rfl trivial ?_
  refine V.mem (mq_arr (n := 63) (t := 75) (by decide) rfl (by decide +kernel)) ?_
  show V 114 (97, [some (aR 52), none], [], MG 64 76 N (ni (ni (ni (ni (ni (ni (ni (ni (ni (ni (ni I 53) 54) 55) 56) 57) 58) 59) 60) 61) 62) 63) J) _
  refine V.blk [(97, .aload 0, 1), (98, .bipush 420, 3), (101, .newarray .int, 2), (103, .putfield 10012, 3)] (ps := []) (z' := (106, [some (aR 52), none], [], (65, ma (cutS N 64) 64 (0, 420), ma (cutR 76) 52 (ma (cutR 76 52) 12 (some 64)), ni (ni (ni (ni (ni (ni (ni (ni (ni (ni (ni (ni I 53) 54) 55) 56) 57) 58) 59) 60) 61) 62) 63) 64, J))) (by decide +kernel) rfl trivial ?_
  refine V.mem (mq_arr (n := 64) (t := 76) (by decide) rfl (by decide +kernel)) ?_
  show V 114 (106, [some (aR 52), none], [], MG 65 77 N (ni (ni (ni (ni (ni (ni (ni (ni (ni (ni (ni (ni I 53) 54) 55) 56) 57) 58) 59) 60) 61) 62) 63) 64) J) _
  refine V.blk [(106, .aload 0, 1), (107, .bipush 4020, 3), (110, .newarray .int, 2), (112, .putfield 10014, 3)] (ps := []) (z' := (115, [some (aR 52), none], [], (66, ma (cutS N 65) 65 (0, 4020), ma (cutR 77) 52 (ma (cutR 77 52) 14 (some 65)), ni (ni (ni (ni (ni (ni (ni (ni (ni (ni (ni (ni (ni I 53) 54) 55) 56) 57) 58) 59) 60) 61) 62) 63) 64) 65, J))) (by decide +kernel) rfl trivial ?_
  refine V.mem (mq_arr (n := 65) (t := 77) (by decide) rfl (by decide +kernel)) ?_
  show V 114 (115, [some (aR 52), none], [], MG 66 78 N (ni (ni (ni (ni (ni (ni (ni (ni (ni (ni (ni (ni (ni I 53) 54) 55) 56) 57) 58) 59) 60) 61) 62) 63) 64) 65) J) _
  refine V.blk [(115, .aload 0, 1), (116, .bipush 4020, 3), (119, .newarray .int, 2), (121, .putfield 10015, 3)] (ps := []) (z' := (124, [some (aR 52), none], [], (67, ma (cutS N 66) 66 (0, 4020), ma (cutR 78) 52 (ma (cutR 78 52) 15 (some 66)), ni (ni (ni (ni (ni (ni (ni (ni (ni (ni (ni (ni (ni (ni I 53) 54) 55) 56) 57) 58) 59) 60) 61) 62) 63) 64) 65) 66, J))) (by decide +kernel) rfl trivial ?_
  refine V.mem (mq_arr (n := 66) (t := 78) (by decide) rfl (by decide +kernel)) ?_
  show V 114 (124, [some (aR 52), none], [], MG 67 79 N (ni (ni (ni (ni (ni (ni (ni (ni (ni (ni (ni (ni (ni (ni I 53) 54) 55) 56) 57) 58) 59) 60) 61) 62) 63) 64) 65) 66) J) _
  refine V.blk [(124, .aload 0, 1), (125, .bipush 4020, 3), (128, .newarray .boolean, 2), (130, .putfield 10016, 3)] (ps := []) (z' := (133, [some (aR 52), none], [], (68, ma (cutS N 67) 67 (2, 4020), ma (cutR 79) 52 (ma (cutR 79 52) 16 (some 67)), ni (ni (ni (ni (ni (ni (ni (ni (ni (ni (ni (ni (ni (ni (ni I 53) 54) 55) 56) 57) 58) 59) 60) 61) 62) 63) 64) 65) 66) 67, J))) (by decide +kernel) rfl trivial ?_
  refine V.mem (mq_arr (n := 67) (t := 79) (by decide) rfl (by decide +kernel)) ?_
  show V 114 (133, [some (aR 52), none], [], MG 68 80 N (ni (ni (ni (ni (ni (ni (ni (ni (ni (ni (ni (ni (ni (ni (ni I 53) 54) 55) 56) 57) 58) 59) 60) 61) 62) 63) 64) 65) 66) 67) J) _
  refine V.blk [(133, .aload 0, 1), (134, .bipush 20, 2), (136, .newarray .boolean, 2), (138, .putfield 10020, 3)] (ps := []) (z' := (141, [some (aR 52), none], [], (69, ma (cutS N 68) 68 (2, 20), ma (cutR 80) 52 (ma (cutR 80 52) 20 (some 68)), ni (ni (ni (ni (ni (ni (ni (ni (ni (ni (ni (ni (ni (ni (ni (ni I 53) 54) 55) 56) 57) 58) 59) 60) 61) 62) 63) 64) 65) 66) 67) 68, J))) (by decide +kernel) rfl trivial ?_
  refine V.mem (mq_arr (n := 68) (t := 80) (by decide) rfl (by decide +kernel)) ?_
  show V 114 (141, [some (aR 52), none], [], MG 69 81 N (ni (ni (ni (ni (ni (ni (ni (ni (ni (ni (ni (ni (ni (ni (ni (ni I 53) 54) 55) 56) 57) 58) 59) 60) 61) 62) 63) 64) 65) 66) 67) 68) J) _
  refine V.blk [(141, .aload 0, 1), (142, .bipush 10, 2), (144, .newarray .boolean, 2), (146, .putfield 10021, 3)] (ps := []) (z' := (149, [some (aR 52), none], [], (70, ma (cutS N 69) 69 (2, 10), ma (cutR 81) 52 (ma (cutR 81 52) 21 (some 69)), ni (ni (ni (ni (ni (ni (ni (ni (ni (ni (ni (ni (ni (ni (ni (ni (ni I 53) 54) 55) 56) 57) 58) 59) 60) 61) 62) 63) 64) 65) 66) 67) 68) 69, J))) (by decide +kernel) rfl trivial ?_
  refine V.mem (mq_arr (n := 69) (t := 81) (by decide) rfl (by decide +kernel)) ?_
  show V 114 (149, [some (aR 52), none], [], MG 70 82 N (ni (ni (ni (ni (ni (ni (ni (ni (ni (ni (ni (ni (ni (ni (ni (ni (ni I 53) 54) 55) 56) 57) 58) 59) 60) 61) 62) 63) 64) 65) 66) 67) 68) 69) J) _
  refine V.blk [(149, .aload 0, 1), (150, .bipush 20, 2), (152, .newarray .int, 2), (154, .putfield 10022, 3)] (ps := []) (z' := (157, [some (aR 52), none], [], (71, ma (cutS N 70) 70 (0, 20), ma (cutR 82) 52 (ma (cutR 82 52) 22 (some 70)), ni (ni (ni (ni (ni (ni (ni (ni (ni (ni (ni (ni (ni (ni (ni (ni (ni (ni I 53) 54) 55) 56) 57) 58) 59) 60) 61) 62) 63) 64) 65) 66) 67) 68) 69) 70, J))) (by decide +kernel) rfl trivial ?_
  refine V.mem (mq_arr (n := 70) (t := 82) (by decide) rfl (by decide +kernel)) ?_
  show V 114 (157, [some (aR 52), none], [], MG 71 83 N (ni (ni (ni (ni (ni (ni (ni (ni (ni (ni (ni (ni (ni (ni (ni (ni (ni (ni I 53) 54) 55) 56) 57) 58) 59) 60) 61) 62) 63) 64) 65) 66) 67) 68) 69) 70) J) _
  refine V.blk [(157, .aload 0, 1), (158, .bipush 20, 2), (160, .newarray .int, 2), (162, .putfield 10023, 3)] (ps := []) (z' := (165, [some (aR 52), none], [], (72, ma (cutS N 71) 71 (0, 20), ma (cutR 83) 52 (ma (cutR 83 52) 23 (some 71)), ni (ni (ni (ni (ni (ni (ni (ni (ni (ni (ni (ni (ni (ni (ni (ni (ni (ni (ni I 53) 54) 55) 56) 57) 58) 59) 60) 61) 62) 63) 64) 65) 66) 67) 68) 69) 70) 71, J))) (by decide +kernel) rfl trivial ?_
  refine V.mem (mq_arr (n := 71) (t := 83) (by decide) rfl (by decide +kernel)) ?_
  show V 114 (165, [some (aR 52), none], [], MG 72 84 N (ni (ni (ni (ni (ni (ni (ni (ni (ni (ni (ni (ni (ni (ni (ni (ni (ni (ni (ni I 53) 54) 55) 56) 57) 58) 59) 60) 61) 62) 63) 64) 65) 66) 67) 68) 69) 70) 71) J) _
  refine V.blk [(165, .aload 0, 1), (166, .bipush 20, 2), (168, .newarray .int, 2), (170, .putfield 10024, 3)] (ps := []) (z' := (173, [some (aR 52), none], [], (73, ma (cutS N 72) 72 (0, 20), ma (cutR 84) 52 (ma (cutR 84 52) 24 (some 72)), ni (ni (ni (ni (ni (ni (ni (ni (ni (ni (ni (ni (ni (ni (ni (ni (ni (ni (ni (ni I 53) 54) 55) 56) 57) 58) 59) 60) 61) 62) 63) 64) 65) 66) 67) 68) 69) 70) 71) 72, J))) (by decide +kernel) rfl trivial ?_
  refine V.mem (mq_arr (n := 72) (t := 84) (by decide) rfl (by decide +kernel)) ?_
  show V 114 (173, [some (aR 52), none], [], MG 73 85 N (ni (ni (ni (ni (ni (ni (ni (ni (ni (ni (ni (ni (ni (ni (ni (ni (ni (ni (ni (ni I 53) 54) 55) 56) 57) 58) 59) 60) 61) 62) 63) 64) 65) 66) 67) 68) 69) 70) 71) 72) J) _
  refine V.blk [(173, .aload 0, 1), (174, .bipush 20, 2), (176, .newarray .int, 2), (178, .putfield 10025, 3)] (ps := []) (z' := (181, [some (aR 52), none], [], (74, ma (cutS N 73) 73 (0, 20), ma (cutR 85) 52 (ma (cutR 85 52) 25 (some 73)), ni (ni (ni (ni (ni (ni (ni (ni (ni (ni (ni (ni (ni (ni (ni (ni (ni (ni (ni (ni (ni I 53) 54) 55) 56) 57) 58) 59) 60) 61) 62) 63) 64) 65) 66) 67) 68) 69) 70) 71) 72) 73, J))) (by decide +kernel) rfl trivial ?_
  refine V.mem (mq_arr (n := 73) (t := 85) (by decide) rfl (by decide +kernel)) ?_
  show V 114 (181, [some (aR 52), none], [], MG 74 86 N (ni (ni (ni (ni (ni (ni (ni (ni (ni (ni (ni (ni (ni (ni (ni (ni (ni (ni (ni (ni (ni I 53) 54) 55) 56) 57) 58) 59) 60) 61) 62) 63) 64) 65) 66) 67) 68) 69) 70) 71) 72) 73) J) _
  refine V.blk [(181, .aload 0, 1), (182, .bipush 10, 2), (184, .newarray .int, 2), (186, .putfield 10026, 3)] (ps := []) (z' := (189, [some (aR 52), none], [], (75, ma (cutS N 74) 74 (0, 10), ma (cutR 86) 52 (ma (cutR 86 52) 26 (some 74)), ni (ni (ni (ni (ni (ni (ni (ni (ni (ni (ni (ni (ni (ni (ni (ni (ni (ni (ni (ni (ni (ni I 53) 54) 55) 56) 57) 58) 59) 60) 61) 62) 63) 64) 65) 66) 67) 68) 69) 70) 71) 72) 73) 74, J))) (by decide +kernel) rfl trivial ?_
  refine V.mem (mq_arr (n := 74) (t := 86) (by decide) rfl (by decide +kernel)) ?_
  show V 114 (189, [some (aR 52), none], [], MG 75 87 N (ni (ni (ni (ni (ni (ni (ni (ni (ni (ni (ni (ni (ni (ni (ni (ni (ni (ni (ni (ni (ni (ni I 53) 54) 55) 56) 57) 58) 59) 60) 61) 62) 63) 64) 65) 66) 67) 68) 69) 70) 71) 72) 73) 74) J) _
  refine V.blk [(189, .aload 0, 1), (190, .bipush 10, 2), (192, .newarray .int, 2), (194, .putfield 10027, 3)] (ps := []) (z' := (197, [some (aR 52), none], [], (76, ma (cutS N 75) 75 (0, 10), ma (cutR 87) 52 (ma (cutR 87 52) 27 (some 75)), ni (ni (ni (ni (ni (ni (ni (ni (ni (ni (ni (ni (ni (ni (ni (ni (ni (ni (ni (ni (ni (ni (ni I 53) 54) 55) 56) 57) 58) 59) 60) 61) 62) 63) 64) 65) 66) 67) 68) 69) 70) 71) 72) 73) 74) 75, J))) (by decide +kernel) rfl trivial ?_
  refine V.mem (mq_arr (n := 75) (t := 87) (by decide) rfl (by decide +kernel)) ?_
  show V 114 (197, [some (aR 52), none], [], MG 76 88 N (ni (ni (ni (ni (ni (ni (ni (ni (ni (ni (ni (ni (ni (ni (ni (ni (ni (ni (ni (ni (ni (ni (ni I 53) 54) 55) 56) 57) 58) 59) 60) 61) 62) 63) 64) 65) 66) 67) 68) 69) 70) 71) 72) 73) 74) 75) J) _
  refine V.blk [(197, .aload 0, 1), (198, .bipush 10, 2), (200, .newarray .int, 2), (202, .putfield 10028, 3)] (ps := []) (z' := (205, [some (aR 52), none], [], (77, ma (cutS N 76) 76 (0, 10), ma (cutR 88) 52 (ma (cutR 88 52) 28 (some 76)), ni (ni (ni (ni (ni (ni (ni (ni (ni (ni (ni (ni (ni (ni (ni (ni (ni (ni (ni (ni (ni (ni (ni (ni I 53) 54) 55) 56) 57) 58) 59) 60) 61) 62) 63) 64) 65) 66) 67) 68) 69) 70) 71) 72) 73) 74) 75) 76, J))) (by decide +kernel) rfl trivial ?_
  refine V.mem (mq_arr (n := 76) (t := 88) (by decide) rfl (by decide +kernel)) ?_
  show V 114 (205, [some (aR 52), none], [], MG 77 89 N (ni (ni (ni (ni (ni (ni (ni (ni (ni (ni (ni (ni (ni (ni (ni (ni (ni (ni (ni (ni (ni (ni (ni (ni I 53) 54) 55) 56) 57) 58) 59) 60) 61) 62) 63) 64) 65) 66) 67) 68) 69) 70) 71) 72) 73) 74) 75) 76) J) _
  refine V.blk [(205, .aload 0, 1), (206, .bipush (-1), 1), (207, .putfield 10031, 3), (210, .aload 0, 1), (211, .bipush 10, 2), (213, .newarray .int, 2), (215, .putfield 10032, 3)] (ps := []) (z' := (218, [some (aR 52), none], [], (78, ma (cutS N 77) 77 (0, 10), ma (cutR 89) 52 (ma (cutR 89 52) 32 (some 77)), ni (sf (ni (ni (ni (ni (ni (ni (ni (ni (ni (ni (ni (ni (ni (ni (ni (ni (ni (ni (ni (ni (ni (ni (ni (ni I 53) 54) 55) 56) 57) 58) 59) 60) 61) 62) 63) 64) 65) 66) 67) 68) 69) 70) 71) 72) 73) 74) 75) 76) 52 31 (-1)) 77, J))) (by decide +kernel) rfl trivial ?_
  refine V.mem (mq_arr (n := 77) (t := 89) (by decide) rfl (by decide +kernel)) ?_
  show V 114 (218, [some (aR 52), none], [], MG 78 90 N (ni (sf (ni (ni (ni (ni (ni (ni (ni (ni (ni (ni (ni (ni (ni (ni (ni (ni (ni (ni (ni (ni (ni (ni (ni (ni I 53) 54) 55) 56) 57) 58) 59) 60) 61) 62) 63) 64) 65) 66) 67) 68) 69) 70) 71) 72) 73) 74) 75) 76) 52 31 (-1)) 77) J) _
  refine V.blk [(218, .aload 0, 1), (219, .bipush 2304, 3), (222, .newarray .boolean, 2), (224, .putfield 10033, 3)] (ps := []) (z' := (227, [some (aR 52), none], [], (79, ma (cutS N 78) 78 (2, 2304), ma (cutR 90) 52 (ma (cutR 90 52) 33 (some 78)), ni (ni (sf (ni (ni (ni (ni (ni (ni (ni (ni (ni (ni (ni (ni (ni (ni (ni (ni (ni (ni (ni (ni (ni (ni (ni (ni I 53) 54) 55) 56) 57) 58) 59) 60) 61) 62) 63) 64) 65) 66) 67) 68) 69) 70) 71) 72) 73) 74) 75) 76) 52 31 (-1)) 77) 78, J))) (by decide +kernel) rfl trivial ?_
  refine V.mem (mq_arr (n := 78) (t := 90) (by decide) rfl (by decide +kernel)) ?_
  show V 114 (227, [some (aR 52), none], [], MG 79 91 N (ni (ni (sf (ni (ni (ni (ni (ni (ni (ni (ni (ni (ni (ni (ni (ni (ni (ni (ni (ni (ni (ni (ni (ni (ni (ni (ni I 53) 54) 55) 56) 57) 58) 59) 60) 61) 62) 63) 64) 65) 66) 67) 68) 69) 70) 71) 72) 73) 74) 75) 76) 52 31 (-1)) 77) 78) J) _
  refine V.blk [(227, .aload 0, 1), (228, .bipush 2304, 3), (231, .newarray .boolean, 2), (233, .putfield 10034, 3)] (ps := []) (z' := (236, [some (aR 52), none], [], (80, ma (cutS N 79) 79 (2, 2304), ma (cutR 91) 52 (ma (cutR 91 52) 34 (some 79)), ni (ni (ni (sf (ni (ni (ni (ni (ni (ni (ni (ni (ni (ni (ni (ni (ni (ni (ni (ni (ni (ni (ni (ni (ni (ni (ni (ni I 53) 54) 55) 56) 57) 58) 59) 60) 61) 62) 63) 64) 65) 66) 67) 68) 69) 70) 71) 72) 73) 74) 75) 76) 52 31 (-1)) 77) 78) 79, J))) (by decide +kernel) rfl trivial ?_
  refine V.mem (mq_arr (n := 79) (t := 91) (by decide) rfl (by decide +kernel)) ?_
  show V 114 (236, [some (aR 52), none], [], MG 80 92 N (ni (ni (ni (sf (ni (ni (ni (ni (ni (ni (ni (ni (ni (ni (ni (ni (ni (ni (ni (ni (ni (ni (ni (ni (ni (ni (ni (ni I 53) 54) 55) 56) 57) 58) 59) 60) 61) 62) 63) 64) 65) 66) 67) 68) 69) 70) 71) 72) 73) 74) 75) 76) 52 31 (-1)) 77) 78) 79) J) _
  refine V.blk [(236, .aload 0, 1), (237, .bipush 64, 2), (239, .newarray .boolean, 2), (241, .putfield 10035, 3)] (ps := []) (z' := (244, [some (aR 52), none], [], (81, ma (cutS N 80) 80 (2, 64), ma (cutR 92) 52 (ma (cutR 92 52) 35 (some 80)), ni (ni (ni (ni (sf (ni (ni (ni (ni (ni (ni (ni (ni (ni (ni (ni (ni (ni (ni (ni (ni (ni (ni (ni (ni (ni (ni (ni (ni I 53) 54) 55) 56) 57) 58) 59) 60) 61) 62) 63) 64) 65) 66) 67) 68) 69) 70) 71) 72) 73) 74) 75) 76) 52 31 (-1)) 77) 78) 79) 80, J))) (by decide +kernel) rfl trivial ?_
  refine V.mem (mq_arr (n := 80) (t := 92) (by decide) rfl (by decide +kernel)) ?_
  show V 114 (244, [some (aR 52), none], [], MG 81 93 N (ni (ni (ni (ni (sf (ni (ni (ni (ni (ni (ni (ni (ni (ni (ni (ni (ni (ni (ni (ni (ni (ni (ni (ni (ni (ni (ni (ni (ni I 53) 54) 55) 56) 57) 58) 59) 60) 61) 62) 63) 64) 65) 66) 67) 68) 69) 70) 71) 72) 73) 74) 75) 76) 52 31 (-1)) 77) 78) 79) 80) J) _
  refine V.blk [(244, .aload 0, 1), (245, .bipush 64, 2), (247, .newarray .boolean, 2), (249, .putfield 10036, 3)] (ps := []) (z' := (252, [some (aR 52), none], [], (82, ma (cutS N 81) 81 (2, 64), ma (cutR 93) 52 (ma (cutR 93 52) 36 (some 81)), ni (ni (ni (ni (ni (sf (ni (ni (ni (ni (ni (ni (ni (ni (ni (ni (ni (ni (ni (ni (ni (ni (ni (ni (ni (ni (ni (ni (ni (ni I 53) 54) 55) 56) 57) 58) 59) 60) 61) 62) 63) 64) 65) 66) 67) 68) 69) 70) 71) 72) 73) 74) 75) 76) 52 31 (-1)) 77) 78) 79) 80) 81, J))) (by decide +kernel) rfl trivial ?_
  refine V.mem (mq_arr (n := 81) (t := 93) (by decide) rfl (by decide +kernel)) ?_
  show V 114 (252, [some (aR 52), none], [], MG 82 94 N (ni (ni (ni (ni (ni (sf (ni (ni (ni (ni (ni (ni (ni (ni (ni (ni (ni (ni (ni (ni (ni (ni (ni (ni (ni (ni (ni (ni (ni (ni I 53) 54) 55) 56) 57) 58) 59) 60) 61) 62) 63) 64) 65) 66) 67) 68) 69) 70) 71) 72) 73) 74) 75) 76) 52 31 (-1)) 77) 78) 79) 80) 81) J) _
  refine V.blk [(252, .aload 0, 1), (253, .bipush 2304, 3), (256, .newarray .boolean, 2), (258, .putfield 10038, 3)] (ps := []) (z' := (261, [some (aR 52), none], [], (83, ma (cutS N 82) 82 (2, 2304), ma (cutR 94) 52 (ma (cutR 94 52) 38 (some 82)), ni (ni (ni (ni (ni (ni (sf (ni (ni (ni (ni (ni (ni (ni (ni (ni (ni (ni (ni (ni (ni (ni (ni (ni (ni (ni (ni (ni (ni (ni (ni I 53) 54) 55) 56) 57) 58) 59) 60) 61) 62) 63) 64) 65) 66) 67) 68) 69) 70) 71) 72) 73) 74) 75) 76) 52 31 (-1)) 77) 78) 79) 80) 81) 82, J))) (by decide +kernel) rfl trivial ?_
  refine V.mem (mq_arr (n := 82) (t := 94) (by decide) rfl (by decide +kernel)) ?_
  show V 114 (261, [some (aR 52), none], [], MG 83 95 N (ni (ni (ni (ni (ni (ni (sf (ni (ni (ni (ni (ni (ni (ni (ni (ni (ni (ni (ni (ni (ni (ni (ni (ni (ni (ni (ni (ni (ni (ni (ni I 53) 54) 55) 56) 57) 58) 59) 60) 61) 62) 63) 64) 65) 66) 67) 68) 69) 70) 71) 72) 73) 74) 75) 76) 52 31 (-1)) 77) 78) 79) 80) 81) 82) J) _
  refine V.blk [(261, .aload 0, 1), (262, .bipush 1, 1), (263, .putfield 10040, 3), (266, .aload 0, 1), (267, .bipush (-1), 1), (268, .putfield 10043, 3), (271, .aload 0, 1), (272, .bipush 320, 3), (275, .newarray .long, 2), (277, .putfield 10044, 3)] (ps := []) (z' := (280, [some (aR 52), none], [], (84, ma (cutS N 83) 83 (1, 320), ma (cutR 95) 52 (ma (cutR 95 52) 44 (some 83)), sf (sf (ni (ni (ni (ni (ni (ni (sf (ni (ni (ni (ni (ni (ni (ni (ni (ni (ni (ni (ni (ni (ni (ni (ni (ni (ni (ni (ni (ni (ni (ni (ni I 53) 54) 55) 56) 57) 58) 59) 60) 61) 62) 63) 64) 65) 66) 67) 68) 69) 70) 71) 72) 73) 74) 75) 76) 52 31 (-1)) 77) 78) 79) 80) 81) 82) 52 40 1) 52 43 (-1), nj J 83))) (by decide +kernel) rfl trivial ?_
  refine V.mem (mq_arr (n := 83) (t := 95) (by decide) rfl (by decide +kernel)) ?_
  show V 114 (280, [some (aR 52), none], [], MG 84 96 N (sf (sf (ni (ni (ni (ni (ni (ni (sf (ni (ni (ni (ni (ni (ni (ni (ni (ni (ni (ni (ni (ni (ni (ni (ni (ni (ni (ni (ni (ni (ni (ni (ni I 53) 54) 55) 56) 57) 58) 59) 60) 61) 62) 63) 64) 65) 66) 67) 68) 69) 70) 71) 72) 73) 74) 75) 76) 52 31 (-1)) 77) 78) 79) 80) 81) 82) 52 40 1) 52 43 (-1)) (nj J 83)) _
  refine V.blk [(280, .aload 0, 1), (281, .bipush 320, 3), (284, .newarray .long, 2), (286, .putfield 10045, 3)] (ps := []) (z' := (289, [some (aR 52), none], [], (85, ma (cutS N 84) 84 (1, 320), ma (cutR 96) 52 (ma (cutR 96 52) 45 (some 84)), sf (sf (ni (ni (ni (ni (ni (ni (sf (ni (ni (ni (ni (ni (ni (ni (ni (ni (ni (ni (ni (ni (ni (ni (ni (ni (ni (ni (ni (ni (ni (ni (ni I 53) 54) 55) 56) 57) 58) 59) 60) 61) 62) 63) 64) 65) 66) 67) 68) 69) 70) 71) 72) 73) 74) 75) 76) 52 31 (-1)) 77) 78) 79) 80) 81) 82) 52 40 1) 52 43 (-1), nj (nj J 83) 84))) (by decide +kernel) rfl trivial ?_
  refine V.mem (mq_arr (n := 84) (t := 96) (by decide) rfl (by decide +kernel)) ?_
  show V 114 (289, [some (aR 52), none], [], MG 85 97 N (sf (sf (ni (ni (ni (ni (ni (ni (sf (ni (ni (ni (ni (ni (ni (ni (ni (ni (ni (ni (ni (ni (ni (ni (ni (ni (ni (ni (ni (ni (ni (ni (ni I 53) 54) 55) 56) 57) 58) 59) 60) 61) 62) 63) 64) 65) 66) 67) 68) 69) 70) 71) 72) 73) 74) 75) 76) 52 31 (-1)) 77) 78) 79) 80) 81) 82) 52 40 1) 52 43 (-1)) (nj (nj J 83) 84)) _
  refine V.blk [(289, .aload 0, 1), (290, .bipush 64, 2), (292, .newarray .long, 2), (294, .putfield 10046, 3)] (ps := []) (z' := (297, [some (aR 52), none], [], (86, ma (cutS N 85) 85 (1, 64), ma (cutR 97) 52 (ma (cutR 97 52) 46 (some 85)), sf (sf (ni (ni (ni (ni (ni (ni (sf (ni (ni (ni (ni (ni (ni (ni (ni (ni (ni (ni (ni (ni (ni (ni (ni (ni (ni (ni (ni (ni (ni (ni (ni I 53) 54) 55) 56) 57) 58) 59) 60) 61) 62) 63) 64) 65) 66) 67) 68) 69) 70) 71) 72) 73) 74) 75) 76) 52 31 (-1)) 77) 78) 79) 80) 81) 82) 52 40 1) 52 43 (-1), nj (nj (nj J 83) 84) 85))) (by decide +kernel) rfl trivial ?_
  refine V.mem (mq_arr (n := 85) (t := 97) (by decide) rfl (by decide +kernel)) ?_
  show V 114 (297, [some (aR 52), none], [], MG 86 98 N (sf (sf (ni (ni (ni (ni (ni (ni (sf (ni (ni (ni (ni (ni (ni (ni (ni (ni (ni (ni (ni (ni (ni (ni (ni (ni (ni (ni (ni (ni (ni (ni (ni I 53) 54) 55) 56) 57) 58) 59) 60) 61) 62) 63) 64) 65) 66) 67) 68) 69) 70) 71) 72) 73) 74) 75) 76) 52 31 (-1)) 77) 78) 79) 80) 81) 82) 52 40 1) 52 43 (-1)) (nj (nj (nj J 83) 84) 85)) _
  refine V.blk [(297, .aload 0, 1), (298, .bipush 48, 2), (300, .newarray .int, 2), (302, .putfield 10047, 3)] (ps := []) (z' := (305, [some (aR 52), none], [], (87, ma (cutS N 86) 86 (0, 48), ma (cutR 98) 52 (ma (cutR 98 52) 47 (some 86)), ni (sf (sf (ni (ni (ni (ni (ni (ni (sf (ni (ni (ni (ni (ni (ni (ni (ni (ni (ni (ni (ni (ni (ni (ni (ni (ni (ni (ni (ni (ni (ni (ni (ni I 53) 54) 55) 56) 57) 58) 59) 60) 61) 62) 63) 64) 65) 66) 67) 68) 69) 70) 71) 72) 73) 74) 75) 76) 52 31 (-1)) 77) 78) 79) 80) 81) 82) 52 40 1) 52 43 (-1)) 86, nj (nj (nj J 83) 84) 85))) (by decide +kernel) rfl trivial ?_
  refine V.mem (mq_arr (n := 86) (t := 98) (by decide) rfl (by decide +kernel)) ?_
  show V 114 (305, [some (aR 52), none], [], MG 87 99 N (ni (sf (sf (ni (ni (ni (ni (ni (ni (sf (ni (ni (ni (ni (ni (ni (ni (ni (ni (ni (ni (ni (ni (ni (ni (ni (ni (ni (ni (ni (ni (ni (ni (ni I 53) 54) 55) 56) 57) 58) 59) 60) 61) 62) 63) 64) 65) 66) 67) 68) 69) 70) 71) 72) 73) 74) 75) 76) 52 31 (-1)) 77) 78) 79) 80) 81) 82) 52 40 1) 52 43 (-1)) 86) (nj (nj (nj J 83) 84) 85)) _
  refine V.blk [(305, .aload 0, 1), (306, .bipush 320, 3), (309, .newarray .int, 2), (311, .putfield 10048, 3)] (ps := []) (z' := (314, [some (aR 52), none], [], (88, ma (cutS N 87) 87 (0, 320), ma (cutR 99) 52 (ma (cutR 99 52) 48 (some 87)), ni (ni (sf (sf (ni (ni (ni (ni (ni (ni (sf (ni (ni (ni (ni (ni (ni (ni (ni (ni (ni (ni (ni (ni (ni (ni (ni (ni (ni (ni (ni (ni (ni (ni (ni I 53) 54) 55) 56) 57) 58) 59) 60) 61) 62) 63) 64) 65) 66) 67) 68) 69) 70) 71) 72) 73) 74) 75) 76) 52 31 (-1)) 77) 78) 79) 80) 81) 82) 52 40 1) 52 43 (-1)) 86) 87, nj (nj (nj J 83) 84) 85))) (by decide +kernel) rfl trivial ?_
  refine V.mem (mq_arr (n := 87) (t := 99) (by decide) rfl (by decide +kernel)) ?_
  show V 114 (314, [some (aR 52), none], [], MG 88 100 N (ni (ni (sf (sf (ni (ni (ni (ni (ni (ni (sf (ni (ni (ni (ni (ni (ni (ni (ni (ni (ni (ni (ni (ni (ni (ni (ni (ni (ni (ni (ni (ni (ni (ni (ni I 53) 54) 55) 56) 57) 58) 59) 60) 61) 62) 63) 64) 65) 66) 67) 68) 69) 70) 71) 72) 73) 74) 75) 76) 52 31 (-1)) 77) 78) 79) 80) 81) 82) 52 40 1) 52 43 (-1)) 86) 87) (nj (nj (nj J 83) 84) 85)) _
  refine V.blk [(314, .aload 0, 1), (315, .bipush 420, 3), (318, .newarray .int, 2), (320, .putfield 10049, 3)] (ps := []) (z' := (323, [some (aR 52), none], [], (89, ma (cutS N 88) 88 (0, 420), ma (cutR 100) 52 (ma (cutR 100 52) 49 (some 88)), ni (ni (ni (sf (sf (ni (ni (ni (ni (ni (ni (sf (ni (ni (ni (ni (ni (ni (ni (ni (ni (ni (ni (ni (ni (ni (ni (ni (ni (ni (ni (ni (ni (ni (ni (ni I 53) 54) 55) 56) 57) 58) 59) 60) 61) 62) 63) 64) 65) 66) 67) 68) 69) 70) 71) 72) 73) 74) 75) 76) 52 31 (-1)) 77) 78) 79) 80) 81) 82) 52 40 1) 52 43 (-1)) 86) 87) 88, nj (nj (nj J 83) 84) 85))) (by decide +kernel) rfl trivial ?_
  refine V.mem (mq_arr (n := 88) (t := 100) (by decide) rfl (by decide +kernel)) ?_
  show V 114 (323, [some (aR 52), none], [], MG 89 101 N (ni (ni (ni (sf (sf (ni (ni (ni (ni (ni (ni (sf (ni (ni (ni (ni (ni (ni (ni (ni (ni (ni (ni (ni (ni (ni (ni (ni (ni (ni (ni (ni (ni (ni (ni (ni I 53) 54) 55) 56) 57) 58) 59) 60) 61) 62) 63) 64) 65) 66) 67) 68) 69) 70) 71) 72) 73) 74) 75) 76) 52 31 (-1)) 77) 78) 79) 80) 81) 82) 52 40 1) 52 43 (-1)) 86) 87) 88) (nj (nj (nj J 83) 84) 85)) _
  refine V.blk [(323, .aload 0, 1), (324, .bipush 320, 3), (327, .newarray .int, 2), (329, .putfield 10050, 3)] (ps := []) (z' := (332, [some (aR 52), none], [], (90, ma (cutS N 89) 89 (0, 320), ma (cutR 101) 52 (ma (cutR 101 52) 50 (some 89)), ni (ni (ni (ni (sf (sf (ni (ni (ni (ni (ni (ni (sf (ni (ni (ni (ni (ni (ni (ni (ni (ni (ni (ni (ni (ni (ni (ni (ni (ni (ni (ni (ni (ni (ni (ni (ni I 53) 54) 55) 56) 57) 58) 59) 60) 61) 62) 63) 64) 65) 66) 67) 68) 69) 70) 71) 72) 73) 74) 75) 76) 52 31 (-1)) 77) 78) 79) 80) 81) 82) 52 40 1) 52 43 (-1)) 86) 87) 88) 89, nj (nj (nj J 83) 84) 85))) (by decide +kernel) rfl trivial ?_
  refine V.mem (mq_arr (n := 89) (t := 101) (by decide) rfl (by decide +kernel)) ?_
  show V 114 (332, [some (aR 52), none], [], MG 90 102 N (ni (ni (ni (ni (sf (sf (ni (ni (ni (ni (ni (ni (sf (ni (ni (ni (ni (ni (ni (ni (ni (ni (ni (ni (ni (ni (ni (ni (ni (ni (ni (ni (ni (ni (ni (ni (ni I 53) 54) 55) 56) 57) 58) 59) 60) 61) 62) 63) 64) 65) 66) 67) 68) 69) 70) 71) 72) 73) 74) 75) 76) 52 31 (-1)) 77) 78) 79) 80) 81) 82) 52 40 1) 52 43 (-1)) 86) 87) 88) 89) (nj (nj (nj J 83) 84) 85)) _
  refine V.blk [(332, .aload 0, 1), (333, .bipush 64, 2), (335, .newarray .int, 2), (337, .putfield 10051, 3)] (ps := []) (z' := (340, [some (aR 52), none], [], (91, ma (cutS N 90) 90 (0, 64), ma (cutR 102) 52 (ma (cutR 102 52) 51 (some 90)), ni (ni (ni (ni (ni (sf (sf (ni (ni (ni (ni (ni (ni (sf (ni (ni (ni (ni (ni (ni (ni (ni (ni (ni (ni (ni (ni (ni (ni (ni (ni (ni (ni (ni (ni (ni (ni (ni I 53) 54) 55) 56) 57) 58) 59) 60) 61) 62) 63) 64) 65) 66) 67) 68) 69) 70) 71) 72) 73) 74) 75) 76) 52 31 (-1)) 77) 78) 79) 80) 81) 82) 52 40 1) 52 43 (-1)) 86) 87) 88) 89) 90, nj (nj (nj J 83) 84) 85))) (by decide +kernel) rfl trivial ?_
  refine V.mem (mq_arr (n := 90) (t := 102) (by decide) rfl (by decide +kernel)) ?_
  show V 114 (340, [some (aR 52), none], [], MG 91 103 N (ni (ni (ni (ni (ni (sf (sf (ni (ni (ni (ni (ni (ni (sf (ni (ni (ni (ni (ni (ni (ni (ni (ni (ni (ni (ni (ni (ni (ni (ni (ni (ni (ni (ni (ni (ni (ni (ni I 53) 54) 55) 56) 57) 58) 59) 60) 61) 62) 63) 64) 65) 66) 67) 68) 69) 70) 71) 72) 73) 74) 75) 76) 52 31 (-1)) 77) 78) 79) 80) 81) 82) 52 40 1) 52 43 (-1)) 86) 87) 88) 89) 90) (nj (nj (nj J 83) 84) 85)) _
  refine V.blk [(340, .aload 0, 1), (341, .bipush 20800, 3), (344, .newarray .int, 2), (346, .putfield 10052, 3)] (ps := []) (z' := (349, [some (aR 52), none], [], (92, ma (cutS N 91) 91 (0, 20800), ma (cutR 103) 52 (ma (cutR 103 52) 52 (some 91)), ni (ni (ni (ni (ni (ni (sf (sf (ni (ni (ni (ni (ni (ni (sf (ni (ni (ni (ni (ni (ni (ni (ni (ni (ni (ni (ni (ni (ni (ni (ni (ni (ni (ni (ni (ni (ni (ni (ni I 53) 54) 55) 56) 57) 58) 59) 60) 61) 62) 63) 64) 65) 66) 67) 68) 69) 70) 71) 72) 73) 74) 75) 76) 52 31 (-1)) 77) 78) 79) 80) 81) 82) 52 40 1) 52 43 (-1)) 86) 87) 88) 89) 90) 91, nj (nj (nj J 83) 84) 85))) (by decide +kernel) rfl trivial ?_
  refine V.mem (mq_arr (n := 91) (t := 103) (by decide) rfl (by decide +kernel)) ?_
  show V 114 (349, [some (aR 52), none], [], MG 92 104 N (ni (ni (ni (ni (ni (ni (sf (sf (ni (ni (ni (ni (ni (ni (sf (ni (ni (ni (ni (ni (ni (ni (ni (ni (ni (ni (ni (ni (ni (ni (ni (ni (ni (ni (ni (ni (ni (ni (ni I 53) 54) 55) 56) 57) 58) 59) 60) 61) 62) 63) 64) 65) 66) 67) 68) 69) 70) 71) 72) 73) 74) 75) 76) 52 31 (-1)) 77) 78) 79) 80) 81) 82) 52 40 1) 52 43 (-1)) 86) 87) 88) 89) 90) 91) (nj (nj (nj J 83) 84) 85)) _
  refine V.blk [(349, .aload 0, 1), (350, .bipush 20800, 3), (353, .newarray .int, 2), (355, .putfield 10053, 3)] (ps := []) (z' := (358, [some (aR 52), none], [], (93, ma (cutS N 92) 92 (0, 20800), ma (cutR 104) 52 (ma (cutR 104 52) 53 (some 92)), ni (ni (ni (ni (ni (ni (ni (sf (sf (ni (ni (ni (ni (ni (ni (sf (ni (ni (ni (ni (ni (ni (ni (ni (ni (ni (ni (ni (ni (ni (ni (ni (ni (ni (ni (ni (ni (ni (ni (ni I 53) 54) 55) 56) 57) 58) 59) 60) 61) 62) 63) 64) 65) 66) 67) 68) 69) 70) 71) 72) 73) 74) 75) 76) 52 31 (-1)) 77) 78) 79) 80) 81) 82) 52 40 1) 52 43 (-1)) 86) 87) 88) 89) 90) 91) 92, nj (nj (nj J 83) 84) 85))) (by decide +kernel) rfl trivial ?_
  refine V.mem (mq_arr (n := 92) (t := 104) (by decide) rfl (by decide +kernel)) ?_
  show V 114 (358, [some (aR 52), none], [], MG 93 105 N (ni (ni (ni (ni (ni (ni (ni (sf (sf (ni (ni (ni (ni (ni (ni (sf (ni (ni (ni (ni (ni (ni (ni (ni (ni (ni (ni (ni (ni (ni (ni (ni (ni (ni (ni (ni (ni (ni (ni (ni I 53) 54) 55) 56) 57) 58) 59) 60) 61) 62) 63) 64) 65) 66) 67) 68) 69) 70) 71) 72) 73) 74) 75) 76) 52 31 (-1)) 77) 78) 79) 80) 81) 82) 52 40 1) 52 43 (-1)) 86) 87) 88) 89) 90) 91) 92) (nj (nj (nj J 83) 84) 85)) _
  refine V.blk [(358, .aload 0, 1), (359, .bipush 60, 2), (361, .newarray .int, 2), (363, .putfield 10055, 3)] (ps := []) (z' := (366, [some (aR 52), none], [], (94, ma (cutS N 93) 93 (0, 60), ma (cutR 105) 52 (ma (cutR 105 52) 55 (some 93)), ni (ni (ni (ni (ni (ni (ni (ni (sf (sf (ni (ni (ni (ni (ni (ni (sf (ni (ni (ni (ni (ni (ni (ni (ni (ni (ni (ni (ni (ni (ni (ni (ni (ni (ni (ni (ni (ni (ni (ni (ni I 53) 54) 55) 56) 57) 58) 59) 60) 61) 62) 63) 64) 65) 66) 67) 68) 69) 70) 71) 72) 73) 74) 75) 76) 52 31 (-1)) 77) 78) 79) 80) 81) 82) 52 40 1) 52 43 (-1)) 86) 87) 88) 89) 90) 91) 92) 93, nj (nj (nj J 83) 84) 85))) (by decide +kernel) rfl trivial ?_
  refine V.mem (mq_arr (n := 93) (t := 105) (by decide) rfl (by decide +kernel)) ?_
  show V 114 (366, [some (aR 52), none], [], MG 94 106 N (ni (ni (ni (ni (ni (ni (ni (ni (sf (sf (ni (ni (ni (ni (ni (ni (sf (ni (ni (ni (ni (ni (ni (ni (ni (ni (ni (ni (ni (ni (ni (ni (ni (ni (ni (ni (ni (ni (ni (ni (ni I 53) 54) 55) 56) 57) 58) 59) 60) 61) 62) 63) 64) 65) 66) 67) 68) 69) 70) 71) 72) 73) 74) 75) 76) 52 31 (-1)) 77) 78) 79) 80) 81) 82) 52 40 1) 52 43 (-1)) 86) 87) 88) 89) 90) 91) 92) 93) (nj (nj (nj J 83) 84) 85)) _
  refine V.blk [(366, .aload 0, 1), (367, .bipush 40, 2), (369, .newarray .int, 2), (371, .putfield 10062, 3)] (ps := []) (z' := (374, [some (aR 52), none], [], (95, ma (cutS N 94) 94 (0, 40), ma (cutR 106) 52 (ma (cutR 106 52) 62 (some 94)), ni (ni (ni (ni (ni (ni (ni (ni (ni (sf (sf (ni (ni (ni (ni (ni (ni (sf (ni (ni (ni (ni (ni (ni (ni (ni (ni (ni (ni (ni (ni (ni (ni (ni (ni (ni (ni (ni (ni (ni (ni (ni I 53) 54) 55) 56) 57) 58) 59) 60) 61) 62) 63) 64) 65) 66) 67) 68) 69) 70) 71) 72) 73) 74) 75) 76) 52 31 (-1)) 77) 78) 79) 80) 81) 82) 52 40 1) 52 43 (-1)) 86) 87) 88) 89) 90) 91) 92) 93) 94, nj (nj (nj J 83) 84) 85))) (by decide +kernel) rfl trivial ?_
  refine V.mem (mq_arr (n := 94) (t := 106) (by decide) rfl (by decide +kernel)) ?_
  show V 114 (374, [some (aR 52), none], [], MG 95 107 N (ni (ni (ni (ni (ni (ni (ni (ni (ni (sf (sf (ni (ni (ni (ni (ni (ni (sf (ni (ni (ni (ni (ni (ni (ni (ni (ni (ni (ni (ni (ni (ni (ni (ni (ni (ni (ni (ni (ni (ni (ni (ni I 53) 54) 55) 56) 57) 58) 59) 60) 61) 62) 63) 64) 65) 66) 67) 68) 69) 70) 71) 72) 73) 74) 75) 76) 52 31 (-1)) 77) 78) 79) 80) 81) 82) 52 40 1) 52 43 (-1)) 86) 87) 88) 89) 90) 91) 92) 93) 94) (nj (nj (nj J 83) 84) 85)) _
  refine V.blk [(374, .aload 0, 1), (375, .bipush 40, 2), (377, .newarray .int, 2), (379, .putfield 10063, 3)] (ps := []) (z' := (382, [some (aR 52), none], [], (96, ma (cutS N 95) 95 (0, 40), ma (cutR 107) 52 (ma (cutR 107 52) 63 (some 95)), ni (ni (ni (ni (ni (ni (ni (ni (ni (ni (sf (sf (ni (ni (ni (ni (ni (ni (sf (ni (ni (ni (ni (ni (ni (ni (ni (ni (ni (ni (ni (ni (ni (ni (ni (ni (ni (ni (ni (ni (ni (ni (ni I 53) 54) 55) 56) 57) 58) 59) 60) 61) 62) 63) 64) 65) 66) 67) 68) 69) 70) 71) 72) 73) 74) 75) 76) 52 31 (-1)) 77) 78) 79) 80) 81) 82) 52 40 1) 52 43 (-1)) 86) 87) 88) 89) 90) 91) 92) 93) 94) 95, nj (nj (nj J 83) 84) 85))) (by decide +kernel) rfl trivial ?_
  refine V.mem (mq_arr (n := 95) (t := 107) (by decide) rfl (by decide +kernel)) ?_
  show V 114 (382, [some (aR 52), none], [], MG 96 108 N (ni (ni (ni (ni (ni (ni (ni (ni (ni (ni (sf (sf (ni (ni (ni (ni (ni (ni (sf (ni (ni (ni (ni (ni (ni (ni (ni (ni (ni (ni (ni (ni (ni (ni (ni (ni (ni (ni (ni (ni (ni (ni (ni I 53) 54) 55) 56) 57) 58) 59) 60) 61) 62) 63) 64) 65) 66) 67) 68) 69) 70) 71) 72) 73) 74) 75) 76) 52 31 (-1)) 77) 78) 79) 80) 81) 82) 52 40 1) 52 43 (-1)) 86) 87) 88) 89) 90) 91) 92) 93) 94) 95) (nj (nj (nj J 83) 84) 85)) _
  refine V.blk [(382, .aload 0, 1), (383, .bipush (-1), 1), (384, .putfield 10064, 3)] (ps := []) (z' := (387, [some (aR 52), none], [], MG 96 108 N (sf (ni (ni (ni (ni (ni (ni (ni (ni (ni (ni (sf (sf (ni (ni (ni (ni (ni (ni (sf (ni (ni (ni (ni (ni (ni (ni (ni (ni (ni (ni (ni (ni (ni (ni (ni (ni (ni (ni (ni (ni (ni (ni (ni I 53) 54) 55) 56) 57) 58) 59) 60) 61) 62) 63) 64) 65) 66) 67) 68) 69) 70) 71) 72) 73) 74) 75) 76) 52 31 (-1)) 77) 78) 79) 80) 81) 82) 52 40 1) 52 43 (-1)) 86) 87) 88) 89) 90) 91) 92) 93) 94) 95) 52 64 (-1)) (nj (nj (nj J 83) 84) 85))) (by decide +kernel) rfl trivial ?_
  refine V.mem mq_all ?_
  show V 114 (387, [some (aR 52), none], [], MM N (iX10 I) (jX10 J)) _
  refine V.blk [(387, .bipush 0, 1), (388, .istore 1, 1)] (ps := []) (z' := (389, [some (aR 52), some (aI 0)], [], MM N (iX10 I) (jX10 J))) (by decide +kernel) rfl trivial ?_
  refine l_mk_54 (fun I1 h1 h2 => ?_) 65 0 _ (by omega) (by omega) (fun q hq => by omega) (fun i _ => rfl)
  refine V.blk [(408, .bipush 0, 1), (409, .istore 1, 1)] (ps := []) (z' := (410, [some (aR 52), some (aI 0)], [], MM N I1 (jX10 J))) (by decide +kernel) rfl trivial ?_
  refine l_mk_58 (fun I2 h3 h4 => ?_) 49 0 _ (by omega) (by omega) (fun q hq => by omega) (fun i _ => rfl)
  refine V.rv (by decide +kernel) ?_
  have g : ∀ i, i ≠ 54 → i ≠ 58 → I2 i = iX10 I i := fun i a b => (h4 i b).trans (h2 i a)
  refine ⟨rfl, I2, jX10 J, rfl, ⟨fun p hp => ?_, h3, ?_, ?_⟩, fun i hi => ⟨?_, jX10_ne J hi⟩, ?_⟩
  · rw [h4 54 (by decide)]
    exact h1 p hp
  · rw [g 52 (by decide) (by decide), show iX10 I 52 = ma (ma (ma (ma (I 52) 31 (-1)) 40 1) 43 (-1)) 64 (-1) from rfl, h0]
    exact ⟨rfl, rfl, rfl, rfl, rfl, rfl, rfl, rfl, rfl, rfl, rfl, rfl, rfl, rfl, rfl⟩
  · rw [g 77 (by decide) (by decide)]
    rfl
  · rw [g i (by omega) (by omega)]
    exact iX10_ne I hi
  · rw [g SCR (by decide) (by decide)]
    rfl
