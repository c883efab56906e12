/-! the law: from the head of its loop to a case, and back. Written by wip/prog/gen_simple2.py -/
set_option maxHeartbeats 4000000 in
set_option maxRecDepth 100000 in
/-- GameTextLaw.law([I)Z -/
theorem lh_0_0 {d : Nat} {σ : st_S} {q : vz_O × vz_H} {n L : Nat} {xs : Nat → Int32} (hs : gF σ 0 = .inl (0, L, .inl xs)) (hn : n + 6 ≤ L) (hL : L ≤ 3072) (c_1 : ¬ (((Int32.ofNat L) - 6) < (nI n))) (c_2 : ((xs (n)) &&& 15) = 0) (k : vz_ev P0 (d + 1) 0 112 [(4, .int (nI n)), (3, .ref 187), (2, .ref 66), (1, .ref 1), (0, .ref 0)] [] (hp (σ)) q) : vz_ev P0 (d + 1) 0 23 [(4, .int (nI n)), (3, .ref 187), (2, .ref 66), (1, .ref 1), (0, .ref 0)] [] (hp σ) q := by
  refine ev_x (i := .iload 4) (len := 2) (p' := 25) (s' := [.int (nI n)]) rfl rfl rfl ?_
  refine ev_x (i := .aload_n 0) (len := 1) (p' := 26) (s' := [.ref 0, .int (nI n)]) rfl rfl rfl ?_
  refine ev_sl (p' := 27) rfl rfl hs rfl ?_
  refine ev_x (i := .bipush 6) (len := 2) (p' := 29) (s' := [.int 6, .int (Int32.ofNat L), .int (nI n)]) rfl rfl rfl ?_
  refine ev_x (i := .isub) (len := 1) (p' := 30) (s' := [.int ((Int32.ofNat L) - 6), .int (nI n)]) rfl rfl rfl ?_
  refine ev_b2 (t := 621) (p' := 33) rfl rfl rfl (if_neg c_1) ?_
  refine ev_x (i := .aload_n 0) (len := 1) (p' := 34) (s' := [.ref 0]) rfl rfl rfl ?_
  refine ev_x (i := .iload 4) (len := 2) (p' := 36) (s' := [.int (nI n), .ref 0]) rfl rfl rfl ?_
  refine ev_sg (p' := 37) rfl rfl hs (vp_in_nI (by omega) (by omega)) rfl ?_
  refine ev_st (st' := [.int (xs (n))]) (congrArg (fun z => Value.int (xs z) :: []) (nI_clamp (n := n) (by omega))) ?_
  refine ev_x (i := .bipush 15) (len := 2) (p' := 39) (s' := [.int 15, .int (xs (n))]) rfl rfl rfl ?_
  refine ev_x (i := .iand) (len := 1) (p' := 40) (s' := [.int ((xs (n)) &&& 15)]) rfl rfl rfl ?_
  refine ev_st (st' := [.int 0]) (congrArg (fun z => Value.int z :: []) c_2) ?_
  refine ev_ts (off := 72) (t := 112) rfl rfl (by decide) rfl ?_
  exact k
set_option maxHeartbeats 4000000 in
set_option maxRecDepth 100000 in
/-- GameTextLaw.law([I)Z -/
theorem lh_1_0 {d : Nat} {σ : st_S} {q : vz_O × vz_H} {n L : Nat} {xs : Nat → Int32} (hs : gF σ 0 = .inl (0, L, .inl xs)) (hn : n + 6 ≤ L) (hL : L ≤ 3072) (c_1 : ¬ (((Int32.ofNat L) - 6) < (nI n))) (c_2 : ((xs (n)) &&& 15) = 1) (k : vz_ev P0 (d + 1) 0 185 [(4, .int (nI n)), (3, .ref 187), (2, .ref 66), (1, .ref 1), (0, .ref 0)] [] (hp (σ)) q) : vz_ev P0 (d + 1) 0 23 [(4, .int (nI n)), (3, .ref 187), (2, .ref 66), (1, .ref 1), (0, .ref 0)] [] (hp σ) q := by
  refine ev_x (i := .iload 4) (len := 2) (p' := 25) (s' := [.int (nI n)]) rfl rfl rfl ?_
  refine ev_x (i := .aload_n 0) (len := 1) (p' := 26) (s' := [.ref 0, .int (nI n)]) rfl rfl rfl ?_
  refine ev_sl (p' := 27) rfl rfl hs rfl ?_
  refine ev_x (i := .bipush 6) (len := 2) (p' := 29) (s' := [.int 6, .int (Int32.ofNat L), .int (nI n)]) rfl rfl rfl ?_
  refine ev_x (i := .isub) (len := 1) (p' := 30) (s' := [.int ((Int32.ofNat L) - 6), .int (nI n)]) rfl rfl rfl ?_
  refine ev_b2 (t := 621) (p' := 33) rfl rfl rfl (if_neg c_1) ?_
  refine ev_x (i := .aload_n 0) (len := 1) (p' := 34) (s' := [.ref 0]) rfl rfl rfl ?_
  refine ev_x (i := .iload 4) (len := 2) (p' := 36) (s' := [.int (nI n), .ref 0]) rfl rfl rfl ?_
  refine ev_sg (p' := 37) rfl rfl hs (vp_in_nI (by omega) (by omega)) rfl ?_
  refine ev_st (st' := [.int (xs (n))]) (congrArg (fun z => Value.int (xs z) :: []) (nI_clamp (n := n) (by omega))) ?_
  refine ev_x (i := .bipush 15) (len := 2) (p' := 39) (s' := [.int 15, .int (xs (n))]) rfl rfl rfl ?_
  refine ev_x (i := .iand) (len := 1) (p' := 40) (s' := [.int ((xs (n)) &&& 15)]) rfl rfl rfl ?_
  refine ev_st (st' := [.int 1]) (congrArg (fun z => Value.int z :: []) c_2) ?_
  refine ev_ts (off := 145) (t := 185) rfl rfl (by decide) rfl ?_
  exact k
set_option maxHeartbeats 4000000 in
set_option maxRecDepth 100000 in
/-- GameTextLaw.law([I)Z -/
theorem lh_2_0 {d : Nat} {σ : st_S} {q : vz_O × vz_H} {n L : Nat} {xs : Nat → Int32} (hs : gF σ 0 = .inl (0, L, .inl xs)) (hn : n + 6 ≤ L) (hL : L ≤ 3072) (c_1 : ¬ (((Int32.ofNat L) - 6) < (nI n))) (c_2 : ((xs (n)) &&& 15) = 2) (k : vz_ev P0 (d + 1) 0 241 [(4, .int (nI n)), (3, .ref 187), (2, .ref 66), (1, .ref 1), (0, .ref 0)] [] (hp (σ)) q) : vz_ev P0 (d + 1) 0 23 [(4, .int (nI n)), (3, .ref 187), (2, .ref 66), (1, .ref 1), (0, .ref 0)] [] (hp σ) q := by
  refine ev_x (i := .iload 4) (len := 2) (p' := 25) (s' := [.int (nI n)]) rfl rfl rfl ?_
  refine ev_x (i := .aload_n 0) (len := 1) (p' := 26) (s' := [.ref 0, .int (nI n)]) rfl rfl rfl ?_
  refine ev_sl (p' := 27) rfl rfl hs rfl ?_
  refine ev_x (i := .bipush 6) (len := 2) (p' := 29) (s' := [.int 6, .int (Int32.ofNat L), .int (nI n)]) rfl rfl rfl ?_
  refine ev_x (i := .isub) (len := 1) (p' := 30) (s' := [.int ((Int32.ofNat L) - 6), .int (nI n)]) rfl rfl rfl ?_
  refine ev_b2 (t := 621) (p' := 33) rfl rfl rfl (if_neg c_1) ?_
  refine ev_x (i := .aload_n 0) (len := 1) (p' := 34) (s' := [.ref 0]) rfl rfl rfl ?_
  refine ev_x (i := .iload 4) (len := 2) (p' := 36) (s' := [.int (nI n), .ref 0]) rfl rfl rfl ?_
  refine ev_sg (p' := 37) rfl rfl hs (vp_in_nI (by omega) (by omega)) rfl ?_
  refine ev_st (st' := [.int (xs (n))]) (congrArg (fun z => Value.int (xs z) :: []) (nI_clamp (n := n) (by omega))) ?_
  refine ev_x (i := .bipush 15) (len := 2) (p' := 39) (s' := [.int 15, .int (xs (n))]) rfl rfl rfl ?_
  refine ev_x (i := .iand) (len := 1) (p' := 40) (s' := [.int ((xs (n)) &&& 15)]) rfl rfl rfl ?_
  refine ev_st (st' := [.int 2]) (congrArg (fun z => Value.int z :: []) c_2) ?_
  refine ev_ts (off := 201) (t := 241) rfl rfl (by decide) rfl ?_
  exact k
set_option maxHeartbeats 4000000 in
set_option maxRecDepth 100000 in
/-- GameTextLaw.law([I)Z -/
theorem lh_3_0 {d : Nat} {σ : st_S} {q : vz_O × vz_H} {n L : Nat} {xs : Nat → Int32} (hs : gF σ 0 = .inl (0, L, .inl xs)) (hn : n + 6 ≤ L) (hL : L ≤ 3072) (c_1 : ¬ (((Int32.ofNat L) - 6) < (nI n))) (c_2 : ((xs (n)) &&& 15) = 3) (k : vz_ev P0 (d + 1) 0 254 [(4, .int (nI n)), (3, .ref 187), (2, .ref 66), (1, .ref 1), (0, .ref 0)] [] (hp (σ)) q) : vz_ev P0 (d + 1) 0 23 [(4, .int (nI n)), (3, .ref 187), (2, .ref 66), (1, .ref 1), (0, .ref 0)] [] (hp σ) q := by
  refine ev_x (i := .iload 4) (len := 2) (p' := 25) (s' := [.int (nI n)]) rfl rfl rfl ?_
  refine ev_x (i := .aload_n 0) (len := 1) (p' := 26) (s' := [.ref 0, .int (nI n)]) rfl rfl rfl ?_
  refine ev_sl (p' := 27) rfl rfl hs rfl ?_
  refine ev_x (i := .bipush 6) (len := 2) (p' := 29) (s' := [.int 6, .int (Int32.ofNat L), .int (nI n)]) rfl rfl rfl ?_
  refine ev_x (i := .isub) (len := 1) (p' := 30) (s' := [.int ((Int32.ofNat L) - 6), .int (nI n)]) rfl rfl rfl ?_
  refine ev_b2 (t := 621) (p' := 33) rfl rfl rfl (if_neg c_1) ?_
  refine ev_x (i := .aload_n 0) (len := 1) (p' := 34) (s' := [.ref 0]) rfl rfl rfl ?_
  refine ev_x (i := .iload 4) (len := 2) (p' := 36) (s' := [.int (nI n), .ref 0]) rfl rfl rfl ?_
  refine ev_sg (p' := 37) rfl rfl hs (vp_in_nI (by omega) (by omega)) rfl ?_
  refine ev_st (st' := [.int (xs (n))]) (congrArg (fun z => Value.int (xs z) :: []) (nI_clamp (n := n) (by omega))) ?_
  refine ev_x (i := .bipush 15) (len := 2) (p' := 39) (s' := [.int 15, .int (xs (n))]) rfl rfl rfl ?_
  refine ev_x (i := .iand) (len := 1) (p' := 40) (s' := [.int ((xs (n)) &&& 15)]) rfl rfl rfl ?_
  refine ev_st (st' := [.int 3]) (congrArg (fun z => Value.int z :: []) c_2) ?_
  refine ev_ts (off := 214) (t := 254) rfl rfl (by decide) rfl ?_
  exact k
set_option maxHeartbeats 4000000 in
set_option maxRecDepth 100000 in
/-- GameTextLaw.law([I)Z -/
theorem lh_4_0 {d : Nat} {σ : st_S} {q : vz_O × vz_H} {n L : Nat} {xs : Nat → Int32} (hs : gF σ 0 = .inl (0, L, .inl xs)) (hn : n + 6 ≤ L) (hL : L ≤ 3072) (c_1 : ¬ (((Int32.ofNat L) - 6) < (nI n))) (c_2 : ((xs (n)) &&& 15) = 4) (k : vz_ev P0 (d + 1) 0 267 [(4, .int (nI n)), (3, .ref 187), (2, .ref 66), (1, .ref 1), (0, .ref 0)] [] (hp (σ)) q) : vz_ev P0 (d + 1) 0 23 [(4, .int (nI n)), (3, .ref 187), (2, .ref 66), (1, .ref 1), (0, .ref 0)] [] (hp σ) q := by
  refine ev_x (i := .iload 4) (len := 2) (p' := 25) (s' := [.int (nI n)]) rfl rfl rfl ?_
  refine ev_x (i := .aload_n 0) (len := 1) (p' := 26) (s' := [.ref 0, .int (nI n)]) rfl rfl rfl ?_
  refine ev_sl (p' := 27) rfl rfl hs rfl ?_
  refine ev_x (i := .bipush 6) (len := 2) (p' := 29) (s' := [.int 6, .int (Int32.ofNat L), .int (nI n)]) rfl rfl rfl ?_
  refine ev_x (i := .isub) (len := 1) (p' := 30) (s' := [.int ((Int32.ofNat L) - 6), .int (nI n)]) rfl rfl rfl ?_
  refine ev_b2 (t := 621) (p' := 33) rfl rfl rfl (if_neg c_1) ?_
  refine ev_x (i := .aload_n 0) (len := 1) (p' := 34) (s' := [.ref 0]) rfl rfl rfl ?_
  refine ev_x (i := .iload 4) (len := 2) (p' := 36) (s' := [.int (nI n), .ref 0]) rfl rfl rfl ?_
  refine ev_sg (p' := 37) rfl rfl hs (vp_in_nI (by omega) (by omega)) rfl ?_
  refine ev_st (st' := [.int (xs (n))]) (congrArg (fun z => Value.int (xs z) :: []) (nI_clamp (n := n) (by omega))) ?_
  refine ev_x (i := .bipush 15) (len := 2) (p' := 39) (s' := [.int 15, .int (xs (n))]) rfl rfl rfl ?_
  refine ev_x (i := .iand) (len := 1) (p' := 40) (s' := [.int ((xs (n)) &&& 15)]) rfl rfl rfl ?_
  refine ev_st (st' := [.int 4]) (congrArg (fun z => Value.int z :: []) c_2) ?_
  refine ev_ts (off := 227) (t := 267) rfl rfl (by decide) rfl ?_
  exact k
set_option maxHeartbeats 4000000 in
set_option maxRecDepth 100000 in
/-- GameTextLaw.law([I)Z -/
theorem lh_5_0 {d : Nat} {σ : st_S} {q : vz_O × vz_H} {n L : Nat} {xs : Nat → Int32} (hs : gF σ 0 = .inl (0, L, .inl xs)) (hn : n + 6 ≤ L) (hL : L ≤ 3072) (c_1 : ¬ (((Int32.ofNat L) - 6) < (nI n))) (c_2 : ((xs (n)) &&& 15) = 5) (k : vz_ev P0 (d + 1) 0 292 [(4, .int (nI n)), (3, .ref 187), (2, .ref 66), (1, .ref 1), (0, .ref 0)] [] (hp (σ)) q) : vz_ev P0 (d + 1) 0 23 [(4, .int (nI n)), (3, .ref 187), (2, .ref 66), (1, .ref 1), (0, .ref 0)] [] (hp σ) q := by
  refine ev_x (i := .iload 4) (len := 2) (p' := 25) (s' := [.int (nI n)]) rfl rfl rfl ?_
  refine ev_x (i := .aload_n 0) (len := 1) (p' := 26) (s' := [.ref 0, .int (nI n)]) rfl rfl rfl ?_
  refine ev_sl (p' := 27) rfl rfl hs rfl ?_
  refine ev_x (i := .bipush 6) (len := 2) (p' := 29) (s' := [.int 6, .int (Int32.ofNat L), .int (nI n)]) rfl rfl rfl ?_
  refine ev_x (i := .isub) (len := 1) (p' := 30) (s' := [.int ((Int32.ofNat L) - 6), .int (nI n)]) rfl rfl rfl ?_
  refine ev_b2 (t := 621) (p' := 33) rfl rfl rfl (if_neg c_1) ?_
  refine ev_x (i := .aload_n 0) (len := 1) (p' := 34) (s' := [.ref 0]) rfl rfl rfl ?_
  refine ev_x (i := .iload 4) (len := 2) (p' := 36) (s' := [.int (nI n), .ref 0]) rfl rfl rfl ?_
  refine ev_sg (p' := 37) rfl rfl hs (vp_in_nI (by omega) (by omega)) rfl ?_
  refine ev_st (st' := [.int (xs (n))]) (congrArg (fun z => Value.int (xs z) :: []) (nI_clamp (n := n) (by omega))) ?_
  refine ev_x (i := .bipush 15) (len := 2) (p' := 39) (s' := [.int 15, .int (xs (n))]) rfl rfl rfl ?_
  refine ev_x (i := .iand) (len := 1) (p' := 40) (s' := [.int ((xs (n)) &&& 15)]) rfl rfl rfl ?_
  refine ev_st (st' := [.int 5]) (congrArg (fun z => Value.int z :: []) c_2) ?_
  refine ev_ts (off := 252) (t := 292) rfl rfl (by decide) rfl ?_
  exact k
set_option maxHeartbeats 4000000 in
set_option maxRecDepth 100000 in
/-- GameTextLaw.law([I)Z -/
theorem lh_6_0 {d : Nat} {σ : st_S} {q : vz_O × vz_H} {n L : Nat} {xs : Nat → Int32} (hs : gF σ 0 = .inl (0, L, .inl xs)) (hn : n + 6 ≤ L) (hL : L ≤ 3072) (c_1 : ¬ (((Int32.ofNat L) - 6) < (nI n))) (c_2 : ((xs (n)) &&& 15) = 6) (k : vz_ev P0 (d + 1) 0 336 [(4, .int (nI n)), (3, .ref 187), (2, .ref 66), (1, .ref 1), (0, .ref 0)] [] (hp (σ)) q) : vz_ev P0 (d + 1) 0 23 [(4, .int (nI n)), (3, .ref 187), (2, .ref 66), (1, .ref 1), (0, .ref 0)] [] (hp σ) q := by
  refine ev_x (i := .iload 4) (len := 2) (p' := 25) (s' := [.int (nI n)]) rfl rfl rfl ?_
  refine ev_x (i := .aload_n 0) (len := 1) (p' := 26) (s' := [.ref 0, .int (nI n)]) rfl rfl rfl ?_
  refine ev_sl (p' := 27) rfl rfl hs rfl ?_
  refine ev_x (i := .bipush 6) (len := 2) (p' := 29) (s' := [.int 6, .int (Int32.ofNat L), .int (nI n)]) rfl rfl rfl ?_
  refine ev_x (i := .isub) (len := 1) (p' := 30) (s' := [.int ((Int32.ofNat L) - 6), .int (nI n)]) rfl rfl rfl ?_
  refine ev_b2 (t := 621) (p' := 33) rfl rfl rfl (if_neg c_1) ?_
  refine ev_x (i := .aload_n 0) (len := 1) (p' := 34) (s' := [.ref 0]) rfl rfl rfl ?_
  refine ev_x (i := .iload 4) (len := 2) (p' := 36) (s' := [.int (nI n), .ref 0]) rfl rfl rfl ?_
  refine ev_sg (p' := 37) rfl rfl hs (vp_in_nI (by omega) (by omega)) rfl ?_
  refine ev_st (st' := [.int (xs (n))]) (congrArg (fun z => Value.int (xs z) :: []) (nI_clamp (n := n) (by omega))) ?_
  refine ev_x (i := .bipush 15) (len := 2) (p' := 39) (s' := [.int 15, .int (xs (n))]) rfl rfl rfl ?_
  refine ev_x (i := .iand) (len := 1) (p' := 40) (s' := [.int ((xs (n)) &&& 15)]) rfl rfl rfl ?_
  refine ev_st (st' := [.int 6]) (congrArg (fun z => Value.int z :: []) c_2) ?_
  refine ev_ts (off := 296) (t := 336) rfl rfl (by decide) rfl ?_
  exact k
set_option maxHeartbeats 4000000 in
set_option maxRecDepth 100000 in
/-- GameTextLaw.law([I)Z -/
theorem lh_7_0 {d : Nat} {σ : st_S} {q : vz_O × vz_H} {n L : Nat} {xs : Nat → Int32} (hs : gF σ 0 = .inl (0, L, .inl xs)) (hn : n + 6 ≤ L) (hL : L ≤ 3072) (c_1 : ¬ (((Int32.ofNat L) - 6) < (nI n))) (c_2 : ((xs (n)) &&& 15) = 7) (k : vz_ev P0 (d + 1) 0 349 [(4, .int (nI n)), (3, .ref 187), (2, .ref 66), (1, .ref 1), (0, .ref 0)] [] (hp (σ)) q) : vz_ev P0 (d + 1) 0 23 [(4, .int (nI n)), (3, .ref 187), (2, .ref 66), (1, .ref 1), (0, .ref 0)] [] (hp σ) q := by
  refine ev_x (i := .iload 4) (len := 2) (p' := 25) (s' := [.int (nI n)]) rfl rfl rfl ?_
  refine ev_x (i := .aload_n 0) (len := 1) (p' := 26) (s' := [.ref 0, .int (nI n)]) rfl rfl rfl ?_
  refine ev_sl (p' := 27) rfl rfl hs rfl ?_
  refine ev_x (i := .bipush 6) (len := 2) (p' := 29) (s' := [.int 6, .int (Int32.ofNat L), .int (nI n)]) rfl rfl rfl ?_
  refine ev_x (i := .isub) (len := 1) (p' := 30) (s' := [.int ((Int32.ofNat L) - 6), .int (nI n)]) rfl rfl rfl ?_
  refine ev_b2 (t := 621) (p' := 33) rfl rfl rfl (if_neg c_1) ?_
  refine ev_x (i := .aload_n 0) (len := 1) (p' := 34) (s' := [.ref 0]) rfl rfl rfl ?_
  refine ev_x (i := .iload 4) (len := 2) (p' := 36) (s' := [.int (nI n), .ref 0]) rfl rfl rfl ?_
  refine ev_sg (p' := 37) rfl rfl hs (vp_in_nI (by omega) (by omega)) rfl ?_
  refine ev_st (st' := [.int (xs (n))]) (congrArg (fun z => Value.int (xs z) :: []) (nI_clamp (n := n) (by omega))) ?_
  refine ev_x (i := .bipush 15) (len := 2) (p' := 39) (s' := [.int 15, .int (xs (n))]) rfl rfl rfl ?_
  refine ev_x (i := .iand) (len := 1) (p' := 40) (s' := [.int ((xs (n)) &&& 15)]) rfl rfl rfl ?_
  refine ev_st (st' := [.int 7]) (congrArg (fun z => Value.int z :: []) c_2) ?_
  refine ev_ts (off := 309) (t := 349) rfl rfl (by decide) rfl ?_
  exact k
set_option maxHeartbeats 4000000 in
set_option maxRecDepth 100000 in
/-- GameTextLaw.law([I)Z -/
theorem lh_8_0 {d : Nat} {σ : st_S} {q : vz_O × vz_H} {n L : Nat} {xs : Nat → Int32} (hs : gF σ 0 = .inl (0, L, .inl xs)) (hn : n + 6 ≤ L) (hL : L ≤ 3072) (c_1 : ¬ (((Int32.ofNat L) - 6) < (nI n))) (c_2 : ((xs (n)) &&& 15) = 8) (k : vz_ev P0 (d + 1) 0 362 [(4, .int (nI n)), (3, .ref 187), (2, .ref 66), (1, .ref 1), (0, .ref 0)] [] (hp (σ)) q) : vz_ev P0 (d + 1) 0 23 [(4, .int (nI n)), (3, .ref 187), (2, .ref 66), (1, .ref 1), (0, .ref 0)] [] (hp σ) q := by
  refine ev_x (i := .iload 4) (len := 2) (p' := 25) (s' := [.int (nI n)]) rfl rfl rfl ?_
  refine ev_x (i := .aload_n 0) (len := 1) (p' := 26) (s' := [.ref 0, .int (nI n)]) rfl rfl rfl ?_
  refine ev_sl (p' := 27) rfl rfl hs rfl ?_
  refine ev_x (i := .bipush 6) (len := 2) (p' := 29) (s' := [.int 6, .int (Int32.ofNat L), .int (nI n)]) rfl rfl rfl ?_
  refine ev_x (i := .isub) (len := 1) (p' := 30) (s' := [.int ((Int32.ofNat L) - 6), .int (nI n)]) rfl rfl rfl ?_
  refine ev_b2 (t := 621) (p' := 33) rfl rfl rfl (if_neg c_1) ?_
  refine ev_x (i := .aload_n 0) (len := 1) (p' := 34) (s' := [.ref 0]) rfl rfl rfl ?_
  refine ev_x (i := .iload 4) (len := 2) (p' := 36) (s' := [.int (nI n), .ref 0]) rfl rfl rfl ?_
  refine ev_sg (p' := 37) rfl rfl hs (vp_in_nI (by omega) (by omega)) rfl ?_
  refine ev_st (st' := [.int (xs (n))]) (congrArg (fun z => Value.int (xs z) :: []) (nI_clamp (n := n) (by omega))) ?_
  refine ev_x (i := .bipush 15) (len := 2) (p' := 39) (s' := [.int 15, .int (xs (n))]) rfl rfl rfl ?_
  refine ev_x (i := .iand) (len := 1) (p' := 40) (s' := [.int ((xs (n)) &&& 15)]) rfl rfl rfl ?_
  refine ev_st (st' := [.int 8]) (congrArg (fun z => Value.int z :: []) c_2) ?_
  refine ev_ts (off := 322) (t := 362) rfl rfl (by decide) rfl ?_
  exact k
set_option maxHeartbeats 4000000 in
set_option maxRecDepth 100000 in
/-- GameTextLaw.law([I)Z -/
theorem lh_9_0 {d : Nat} {σ : st_S} {q : vz_O × vz_H} {n L : Nat} {xs : Nat → Int32} (hs : gF σ 0 = .inl (0, L, .inl xs)) (hn : n + 6 ≤ L) (hL : L ≤ 3072) (c_1 : ¬ (((Int32.ofNat L) - 6) < (nI n))) (c_2 : ((xs (n)) &&& 15) = 9) (k : vz_ev P0 (d + 1) 0 430 [(4, .int (nI n)), (3, .ref 187), (2, .ref 66), (1, .ref 1), (0, .ref 0)] [] (hp (σ)) q) : vz_ev P0 (d + 1) 0 23 [(4, .int (nI n)), (3, .ref 187), (2, .ref 66), (1, .ref 1), (0, .ref 0)] [] (hp σ) q := by
  refine ev_x (i := .iload 4) (len := 2) (p' := 25) (s' := [.int (nI n)]) rfl rfl rfl ?_
  refine ev_x (i := .aload_n 0) (len := 1) (p' := 26) (s' := [.ref 0, .int (nI n)]) rfl rfl rfl ?_
  refine ev_sl (p' := 27) rfl rfl hs rfl ?_
  refine ev_x (i := .bipush 6) (len := 2) (p' := 29) (s' := [.int 6, .int (Int32.ofNat L), .int (nI n)]) rfl rfl rfl ?_
  refine ev_x (i := .isub) (len := 1) (p' := 30) (s' := [.int ((Int32.ofNat L) - 6), .int (nI n)]) rfl rfl rfl ?_
  refine ev_b2 (t := 621) (p' := 33) rfl rfl rfl (if_neg c_1) ?_
  refine ev_x (i := .aload_n 0) (len := 1) (p' := 34) (s' := [.ref 0]) rfl rfl rfl ?_
  refine ev_x (i := .iload 4) (len := 2) (p' := 36) (s' := [.int (nI n), .ref 0]) rfl rfl rfl ?_
  refine ev_sg (p' := 37) rfl rfl hs (vp_in_nI (by omega) (by omega)) rfl ?_
  refine ev_st (st' := [.int (xs (n))]) (congrArg (fun z => Value.int (xs z) :: []) (nI_clamp (n := n) (by omega))) ?_
  refine ev_x (i := .bipush 15) (len := 2) (p' := 39) (s' := [.int 15, .int (xs (n))]) rfl rfl rfl ?_
  refine ev_x (i := .iand) (len := 1) (p' := 40) (s' := [.int ((xs (n)) &&& 15)]) rfl rfl rfl ?_
  refine ev_st (st' := [.int 9]) (congrArg (fun z => Value.int z :: []) c_2) ?_
  refine ev_ts (off := 390) (t := 430) rfl rfl (by decide) rfl ?_
  exact k
set_option maxHeartbeats 4000000 in
set_option maxRecDepth 100000 in
/-- GameTextLaw.law([I)Z -/
theorem lh_10_0 {d : Nat} {σ : st_S} {q : vz_O × vz_H} {n L : Nat} {xs : Nat → Int32} (hs : gF σ 0 = .inl (0, L, .inl xs)) (hn : n + 6 ≤ L) (hL : L ≤ 3072) (c_1 : ¬ (((Int32.ofNat L) - 6) < (nI n))) (c_2 : ((xs (n)) &&& 15) = 10) (k : vz_ev P0 (d + 1) 0 455 [(4, .int (nI n)), (3, .ref 187), (2, .ref 66), (1, .ref 1), (0, .ref 0)] [] (hp (σ)) q) : vz_ev P0 (d + 1) 0 23 [(4, .int (nI n)), (3, .ref 187), (2, .ref 66), (1, .ref 1), (0, .ref 0)] [] (hp σ) q := by
  refine ev_x (i := .iload 4) (len := 2) (p' := 25) (s' := [.int (nI n)]) rfl rfl rfl ?_
  refine ev_x (i := .aload_n 0) (len := 1) (p' := 26) (s' := [.ref 0, .int (nI n)]) rfl rfl rfl ?_
  refine ev_sl (p' := 27) rfl rfl hs rfl ?_
  refine ev_x (i := .bipush 6) (len := 2) (p' := 29) (s' := [.int 6, .int (Int32.ofNat L), .int (nI n)]) rfl rfl rfl ?_
  refine ev_x (i := .isub) (len := 1) (p' := 30) (s' := [.int ((Int32.ofNat L) - 6), .int (nI n)]) rfl rfl rfl ?_
  refine ev_b2 (t := 621) (p' := 33) rfl rfl rfl (if_neg c_1) ?_
  refine ev_x (i := .aload_n 0) (len := 1) (p' := 34) (s' := [.ref 0]) rfl rfl rfl ?_
  refine ev_x (i := .iload 4) (len := 2) (p' := 36) (s' := [.int (nI n), .ref 0]) rfl rfl rfl ?_
  refine ev_sg (p' := 37) rfl rfl hs (vp_in_nI (by omega) (by omega)) rfl ?_
  refine ev_st (st' := [.int (xs (n))]) (congrArg (fun z => Value.int (xs z) :: []) (nI_clamp (n := n) (by omega))) ?_
  refine ev_x (i := .bipush 15) (len := 2) (p' := 39) (s' := [.int 15, .int (xs (n))]) rfl rfl rfl ?_
  refine ev_x (i := .iand) (len := 1) (p' := 40) (s' := [.int ((xs (n)) &&& 15)]) rfl rfl rfl ?_
  refine ev_st (st' := [.int 10]) (congrArg (fun z => Value.int z :: []) c_2) ?_
  refine ev_ts (off := 415) (t := 455) rfl rfl (by decide) rfl ?_
  exact k
set_option maxHeartbeats 4000000 in
set_option maxRecDepth 100000 in
/-- GameTextLaw.law([I)Z -/
theorem lh_11_0 {d : Nat} {σ : st_S} {q : vz_O × vz_H} {n L : Nat} {xs : Nat → Int32} (hs : gF σ 0 = .inl (0, L, .inl xs)) (hn : n + 6 ≤ L) (hL : L ≤ 3072) (c_1 : ¬ (((Int32.ofNat L) - 6) < (nI n))) (c_2 : ((xs (n)) &&& 15) = 11) (k : vz_ev P0 (d + 1) 0 480 [(4, .int (nI n)), (3, .ref 187), (2, .ref 66), (1, .ref 1), (0, .ref 0)] [] (hp (σ)) q) : vz_ev P0 (d + 1) 0 23 [(4, .int (nI n)), (3, .ref 187), (2, .ref 66), (1, .ref 1), (0, .ref 0)] [] (hp σ) q := by
  refine ev_x (i := .iload 4) (len := 2) (p' := 25) (s' := [.int (nI n)]) rfl rfl rfl ?_
  refine ev_x (i := .aload_n 0) (len := 1) (p' := 26) (s' := [.ref 0, .int (nI n)]) rfl rfl rfl ?_
  refine ev_sl (p' := 27) rfl rfl hs rfl ?_
  refine ev_x (i := .bipush 6) (len := 2) (p' := 29) (s' := [.int 6, .int (Int32.ofNat L), .int (nI n)]) rfl rfl rfl ?_
  refine ev_x (i := .isub) (len := 1) (p' := 30) (s' := [.int ((Int32.ofNat L) - 6), .int (nI n)]) rfl rfl rfl ?_
  refine ev_b2 (t := 621) (p' := 33) rfl rfl rfl (if_neg c_1) ?_
  refine ev_x (i := .aload_n 0) (len := 1) (p' := 34) (s' := [.ref 0]) rfl rfl rfl ?_
  refine ev_x (i := .iload 4) (len := 2) (p' := 36) (s' := [.int (nI n), .ref 0]) rfl rfl rfl ?_
  refine ev_sg (p' := 37) rfl rfl hs (vp_in_nI (by omega) (by omega)) rfl ?_
  refine ev_st (st' := [.int (xs (n))]) (congrArg (fun z => Value.int (xs z) :: []) (nI_clamp (n := n) (by omega))) ?_
  refine ev_x (i := .bipush 15) (len := 2) (p' := 39) (s' := [.int 15, .int (xs (n))]) rfl rfl rfl ?_
  refine ev_x (i := .iand) (len := 1) (p' := 40) (s' := [.int ((xs (n)) &&& 15)]) rfl rfl rfl ?_
  refine ev_st (st' := [.int 11]) (congrArg (fun z => Value.int z :: []) c_2) ?_
  refine ev_ts (off := 440) (t := 480) rfl rfl (by decide) rfl ?_
  exact k
set_option maxHeartbeats 4000000 in
set_option maxRecDepth 100000 in
/-- GameTextLaw.law([I)Z -/
theorem lh_12_0 {d : Nat} {σ : st_S} {q : vz_O × vz_H} {n L : Nat} {xs : Nat → Int32} (hs : gF σ 0 = .inl (0, L, .inl xs)) (hn : n + 6 ≤ L) (hL : L ≤ 3072) (c_1 : ¬ (((Int32.ofNat L) - 6) < (nI n))) (c_2 : ((xs (n)) &&& 15) = 12) (k : vz_ev P0 (d + 1) 0 517 [(4, .int (nI n)), (3, .ref 187), (2, .ref 66), (1, .ref 1), (0, .ref 0)] [] (hp (σ)) q) : vz_ev P0 (d + 1) 0 23 [(4, .int (nI n)), (3, .ref 187), (2, .ref 66), (1, .ref 1), (0, .ref 0)] [] (hp σ) q := by
  refine ev_x (i := .iload 4) (len := 2) (p' := 25) (s' := [.int (nI n)]) rfl rfl rfl ?_
  refine ev_x (i := .aload_n 0) (len := 1) (p' := 26) (s' := [.ref 0, .int (nI n)]) rfl rfl rfl ?_
  refine ev_sl (p' := 27) rfl rfl hs rfl ?_
  refine ev_x (i := .bipush 6) (len := 2) (p' := 29) (s' := [.int 6, .int (Int32.ofNat L), .int (nI n)]) rfl rfl rfl ?_
  refine ev_x (i := .isub) (len := 1) (p' := 30) (s' := [.int ((Int32.ofNat L) - 6), .int (nI n)]) rfl rfl rfl ?_
  refine ev_b2 (t := 621) (p' := 33) rfl rfl rfl (if_neg c_1) ?_
  refine ev_x (i := .aload_n 0) (len := 1) (p' := 34) (s' := [.ref 0]) rfl rfl rfl ?_
  refine ev_x (i := .iload 4) (len := 2) (p' := 36) (s' := [.int (nI n), .ref 0]) rfl rfl rfl ?_
  refine ev_sg (p' := 37) rfl rfl hs (vp_in_nI (by omega) (by omega)) rfl ?_
  refine ev_st (st' := [.int (xs (n))]) (congrArg (fun z => Value.int (xs z) :: []) (nI_clamp (n := n) (by omega))) ?_
  refine ev_x (i := .bipush 15) (len := 2) (p' := 39) (s' := [.int 15, .int (xs (n))]) rfl rfl rfl ?_
  refine ev_x (i := .iand) (len := 1) (p' := 40) (s' := [.int ((xs (n)) &&& 15)]) rfl rfl rfl ?_
  refine ev_st (st' := [.int 12]) (congrArg (fun z => Value.int z :: []) c_2) ?_
  refine ev_ts (off := 477) (t := 517) rfl rfl (by decide) rfl ?_
  exact k
set_option maxHeartbeats 4000000 in
set_option maxRecDepth 100000 in
/-- GameTextLaw.law([I)Z -/
theorem lh_13_0 {d : Nat} {σ : st_S} {q : vz_O × vz_H} {n L : Nat} {xs : Nat → Int32} (hs : gF σ 0 = .inl (0, L, .inl xs)) (hn : n + 6 ≤ L) (hL : L ≤ 3072) (c_1 : ¬ (((Int32.ofNat L) - 6) < (nI n))) (c_2 : ((xs (n)) &&& 15) = 13) (k : vz_ev P0 (d + 1) 0 554 [(4, .int (nI n)), (3, .ref 187), (2, .ref 66), (1, .ref 1), (0, .ref 0)] [] (hp (σ)) q) : vz_ev P0 (d + 1) 0 23 [(4, .int (nI n)), (3, .ref 187), (2, .ref 66), (1, .ref 1), (0, .ref 0)] [] (hp σ) q := by
  refine ev_x (i := .iload 4) (len := 2) (p' := 25) (s' := [.int (nI n)]) rfl rfl rfl ?_
  refine ev_x (i := .aload_n 0) (len := 1) (p' := 26) (s' := [.ref 0, .int (nI n)]) rfl rfl rfl ?_
  refine ev_sl (p' := 27) rfl rfl hs rfl ?_
  refine ev_x (i := .bipush 6) (len := 2) (p' := 29) (s' := [.int 6, .int (Int32.ofNat L), .int (nI n)]) rfl rfl rfl ?_
  refine ev_x (i := .isub) (len := 1) (p' := 30) (s' := [.int ((Int32.ofNat L) - 6), .int (nI n)]) rfl rfl rfl ?_
  refine ev_b2 (t := 621) (p' := 33) rfl rfl rfl (if_neg c_1) ?_
  refine ev_x (i := .aload_n 0) (len := 1) (p' := 34) (s' := [.ref 0]) rfl rfl rfl ?_
  refine ev_x (i := .iload 4) (len := 2) (p' := 36) (s' := [.int (nI n), .ref 0]) rfl rfl rfl ?_
  refine ev_sg (p' := 37) rfl rfl hs (vp_in_nI (by omega) (by omega)) rfl ?_
  refine ev_st (st' := [.int (xs (n))]) (congrArg (fun z => Value.int (xs z) :: []) (nI_clamp (n := n) (by omega))) ?_
  refine ev_x (i := .bipush 15) (len := 2) (p' := 39) (s' := [.int 15, .int (xs (n))]) rfl rfl rfl ?_
  refine ev_x (i := .iand) (len := 1) (p' := 40) (s' := [.int ((xs (n)) &&& 15)]) rfl rfl rfl ?_
  refine ev_st (st' := [.int 13]) (congrArg (fun z => Value.int z :: []) c_2) ?_
  refine ev_ts (off := 514) (t := 554) rfl rfl (by decide) rfl ?_
  exact k
set_option maxHeartbeats 4000000 in
set_option maxRecDepth 100000 in
/-- GameTextLaw.law([I)Z -/
theorem lh_14_0 {d : Nat} {σ : st_S} {q : vz_O × vz_H} {n L : Nat} {xs : Nat → Int32} (hs : gF σ 0 = .inl (0, L, .inl xs)) (hn : n + 6 ≤ L) (hL : L ≤ 3072) (c_1 : ¬ (((Int32.ofNat L) - 6) < (nI n))) (c_2 : (((xs (n)) &&& 15) : Int32).toInt < 0 ∨ 13 < (((xs (n)) &&& 15) : Int32).toInt) (k : vz_ev P0 (d + 1) 0 615 [(4, .int (nI n)), (3, .ref 187), (2, .ref 66), (1, .ref 1), (0, .ref 0)] [] (hp (σ)) q) : vz_ev P0 (d + 1) 0 23 [(4, .int (nI n)), (3, .ref 187), (2, .ref 66), (1, .ref 1), (0, .ref 0)] [] (hp σ) q := by
  refine ev_x (i := .iload 4) (len := 2) (p' := 25) (s' := [.int (nI n)]) rfl rfl rfl ?_
  refine ev_x (i := .aload_n 0) (len := 1) (p' := 26) (s' := [.ref 0, .int (nI n)]) rfl rfl rfl ?_
  refine ev_sl (p' := 27) rfl rfl hs rfl ?_
  refine ev_x (i := .bipush 6) (len := 2) (p' := 29) (s' := [.int 6, .int (Int32.ofNat L), .int (nI n)]) rfl rfl rfl ?_
  refine ev_x (i := .isub) (len := 1) (p' := 30) (s' := [.int ((Int32.ofNat L) - 6), .int (nI n)]) rfl rfl rfl ?_
  refine ev_b2 (t := 621) (p' := 33) rfl rfl rfl (if_neg c_1) ?_
  refine ev_x (i := .aload_n 0) (len := 1) (p' := 34) (s' := [.ref 0]) rfl rfl rfl ?_
  refine ev_x (i := .iload 4) (len := 2) (p' := 36) (s' := [.int (nI n), .ref 0]) rfl rfl rfl ?_
  refine ev_sg (p' := 37) rfl rfl hs (vp_in_nI (by omega) (by omega)) rfl ?_
  refine ev_st (st' := [.int (xs (n))]) (congrArg (fun z => Value.int (xs z) :: []) (nI_clamp (n := n) (by omega))) ?_
  refine ev_x (i := .bipush 15) (len := 2) (p' := 39) (s' := [.int 15, .int (xs (n))]) rfl rfl rfl ?_
  refine ev_x (i := .iand) (len := 1) (p' := 40) (s' := [.int ((xs (n)) &&& 15)]) rfl rfl rfl ?_
  refine ev_ts (off := 575) (t := 615) rfl rfl (if_pos c_2) rfl ?_
  exact k
set_option maxHeartbeats 4000000 in
set_option maxRecDepth 100000 in
/-- GameTextLaw.law([I)Z -/
theorem lh_0_1 {d : Nat} {σ : st_S} {x_b x_k : Int32} {q : vz_O × vz_H} {n L : Nat} {xs : Nat → Int32} (hs : gF σ 0 = .inl (0, L, .inl xs)) (hn : n + 6 ≤ L) (hL : L ≤ 3072) (c_1 : ¬ (((Int32.ofNat L) - 6) < (nI n))) (c_2 : ((xs (n)) &&& 15) = 0) (k : vz_ev P0 (d + 1) 0 112 [(4, .int (nI n)), (6, .int x_b), (5, .int x_k), (3, .ref 187), (2, .ref 66), (1, .ref 1), (0, .ref 0)] [] (hp (σ)) q) : vz_ev P0 (d + 1) 0 23 [(4, .int (nI n)), (6, .int x_b), (5, .int x_k), (3, .ref 187), (2, .ref 66), (1, .ref 1), (0, .ref 0)] [] (hp σ) q := by
  refine ev_x (i := .iload 4) (len := 2) (p' := 25) (s' := [.int (nI n)]) rfl rfl rfl ?_
  refine ev_x (i := .aload_n 0) (len := 1) (p' := 26) (s' := [.ref 0, .int (nI n)]) rfl rfl rfl ?_
  refine ev_sl (p' := 27) rfl rfl hs rfl ?_
  refine ev_x (i := .bipush 6) (len := 2) (p' := 29) (s' := [.int 6, .int (Int32.ofNat L), .int (nI n)]) rfl rfl rfl ?_
  refine ev_x (i := .isub) (len := 1) (p' := 30) (s' := [.int ((Int32.ofNat L) - 6), .int (nI n)]) rfl rfl rfl ?_
  refine ev_b2 (t := 621) (p' := 33) rfl rfl rfl (if_neg c_1) ?_
  refine ev_x (i := .aload_n 0) (len := 1) (p' := 34) (s' := [.ref 0]) rfl rfl rfl ?_
  refine ev_x (i := .iload 4) (len := 2) (p' := 36) (s' := [.int (nI n), .ref 0]) rfl rfl rfl ?_
  refine ev_sg (p' := 37) rfl rfl hs (vp_in_nI (by omega) (by omega)) rfl ?_
  refine ev_st (st' := [.int (xs (n))]) (congrArg (fun z => Value.int (xs z) :: []) (nI_clamp (n := n) (by omega))) ?_
  refine ev_x (i := .bipush 15) (len := 2) (p' := 39) (s' := [.int 15, .int (xs (n))]) rfl rfl rfl ?_
  refine ev_x (i := .iand) (len := 1) (p' := 40) (s' := [.int ((xs (n)) &&& 15)]) rfl rfl rfl ?_
  refine ev_st (st' := [.int 0]) (congrArg (fun z => Value.int z :: []) c_2) ?_
  refine ev_ts (off := 72) (t := 112) rfl rfl (by decide) rfl ?_
  exact k
set_option maxHeartbeats 4000000 in
set_option maxRecDepth 100000 in
/-- GameTextLaw.law([I)Z -/
theorem lh_1_1 {d : Nat} {σ : st_S} {x_b x_k : Int32} {q : vz_O × vz_H} {n L : Nat} {xs : Nat → Int32} (hs : gF σ 0 = .inl (0, L, .inl xs)) (hn : n + 6 ≤ L) (hL : L ≤ 3072) (c_1 : ¬ (((Int32.ofNat L) - 6) < (nI n))) (c_2 : ((xs (n)) &&& 15) = 1) (k : vz_ev P0 (d + 1) 0 185 [(4, .int (nI n)), (6, .int x_b), (5, .int x_k), (3, .ref 187), (2, .ref 66), (1, .ref 1), (0, .ref 0)] [] (hp (σ)) q) : vz_ev P0 (d + 1) 0 23 [(4, .int (nI n)), (6, .int x_b), (5, .int x_k), (3, .ref 187), (2, .ref 66), (1, .ref 1), (0, .ref 0)] [] (hp σ) q := by
  refine ev_x (i := .iload 4) (len := 2) (p' := 25) (s' := [.int (nI n)]) rfl rfl rfl ?_
  refine ev_x (i := .aload_n 0) (len := 1) (p' := 26) (s' := [.ref 0, .int (nI n)]) rfl rfl rfl ?_
  refine ev_sl (p' := 27) rfl rfl hs rfl ?_
  refine ev_x (i := .bipush 6) (len := 2) (p' := 29) (s' := [.int 6, .int (Int32.ofNat L), .int (nI n)]) rfl rfl rfl ?_
  refine ev_x (i := .isub) (len := 1) (p' := 30) (s' := [.int ((Int32.ofNat L) - 6), .int (nI n)]) rfl rfl rfl ?_
  refine ev_b2 (t := 621) (p' := 33) rfl rfl rfl (if_neg c_1) ?_
  refine ev_x (i := .aload_n 0) (len := 1) (p' := 34) (s' := [.ref 0]) rfl rfl rfl ?_
  refine ev_x (i := .iload 4) (len := 2) (p' := 36) (s' := [.int (nI n), .ref 0]) rfl rfl rfl ?_
  refine ev_sg (p' := 37) rfl rfl hs (vp_in_nI (by omega) (by omega)) rfl ?_
  refine ev_st (st' := [.int (xs (n))]) (congrArg (fun z => Value.int (xs z) :: []) (nI_clamp (n := n) (by omega))) ?_
  refine ev_x (i := .bipush 15) (len := 2) (p' := 39) (s' := [.int 15, .int (xs (n))]) rfl rfl rfl ?_
  refine ev_x (i := .iand) (len := 1) (p' := 40) (s' := [.int ((xs (n)) &&& 15)]) rfl rfl rfl ?_
  refine ev_st (st' := [.int 1]) (congrArg (fun z => Value.int z :: []) c_2) ?_
  refine ev_ts (off := 145) (t := 185) rfl rfl (by decide) rfl ?_
  exact k
set_option maxHeartbeats 4000000 in
set_option maxRecDepth 100000 in
/-- GameTextLaw.law([I)Z -/
theorem lh_2_1 {d : Nat} {σ : st_S} {x_b x_k : Int32} {q : vz_O × vz_H} {n L : Nat} {xs : Nat → Int32} (hs : gF σ 0 = .inl (0, L, .inl xs)) (hn : n + 6 ≤ L) (hL : L ≤ 3072) (c_1 : ¬ (((Int32.ofNat L) - 6) < (nI n))) (c_2 : ((xs (n)) &&& 15) = 2) (k : vz_ev P0 (d + 1) 0 241 [(4, .int (nI n)), (6, .int x_b), (5, .int x_k), (3, .ref 187), (2, .ref 66), (1, .ref 1), (0, .ref 0)] [] (hp (σ)) q) : vz_ev P0 (d + 1) 0 23 [(4, .int (nI n)), (6, .int x_b), (5, .int x_k), (3, .ref 187), (2, .ref 66), (1, .ref 1), (0, .ref 0)] [] (hp σ) q := by
  refine ev_x (i := .iload 4) (len := 2) (p' := 25) (s' := [.int (nI n)]) rfl rfl rfl ?_
  refine ev_x (i := .aload_n 0) (len := 1) (p' := 26) (s' := [.ref 0, .int (nI n)]) rfl rfl rfl ?_
  refine ev_sl (p' := 27) rfl rfl hs rfl ?_
  refine ev_x (i := .bipush 6) (len := 2) (p' := 29) (s' := [.int 6, .int (Int32.ofNat L), .int (nI n)]) rfl rfl rfl ?_
  refine ev_x (i := .isub) (len := 1) (p' := 30) (s' := [.int ((Int32.ofNat L) - 6), .int (nI n)]) rfl rfl rfl ?_
  refine ev_b2 (t := 621) (p' := 33) rfl rfl rfl (if_neg c_1) ?_
  refine ev_x (i := .aload_n 0) (len := 1) (p' := 34) (s' := [.ref 0]) rfl rfl rfl ?_
  refine ev_x (i := .iload 4) (len := 2) (p' := 36) (s' := [.int (nI n), .ref 0]) rfl rfl rfl ?_
  refine ev_sg (p' := 37) rfl rfl hs (vp_in_nI (by omega) (by omega)) rfl ?_
  refine ev_st (st' := [.int (xs (n))]) (congrArg (fun z => Value.int (xs z) :: []) (nI_clamp (n := n) (by omega))) ?_
  refine ev_x (i := .bipush 15) (len := 2) (p' := 39) (s' := [.int 15, .int (xs (n))]) rfl rfl rfl ?_
  refine ev_x (i := .iand) (len := 1) (p' := 40) (s' := [.int ((xs (n)) &&& 15)]) rfl rfl rfl ?_
  refine ev_st (st' := [.int 2]) (congrArg (fun z => Value.int z :: []) c_2) ?_
  refine ev_ts (off := 201) (t := 241) rfl rfl (by decide) rfl ?_
  exact k
set_option maxHeartbeats 4000000 in
set_option maxRecDepth 100000 in
/-- GameTextLaw.law([I)Z -/
theorem lh_3_1 {d : Nat} {σ : st_S} {x_b x_k : Int32} {q : vz_O × vz_H} {n L : Nat} {xs : Nat → Int32} (hs : gF σ 0 = .inl (0, L, .inl xs)) (hn : n + 6 ≤ L) (hL : L ≤ 3072) (c_1 : ¬ (((Int32.ofNat L) - 6) < (nI n))) (c_2 : ((xs (n)) &&& 15) = 3) (k : vz_ev P0 (d + 1) 0 254 [(4, .int (nI n)), (6, .int x_b), (5, .int x_k), (3, .ref 187), (2, .ref 66), (1, .ref 1), (0, .ref 0)] [] (hp (σ)) q) : vz_ev P0 (d + 1) 0 23 [(4, .int (nI n)), (6, .int x_b), (5, .int x_k), (3, .ref 187), (2, .ref 66), (1, .ref 1), (0, .ref 0)] [] (hp σ) q := by
  refine ev_x (i := .iload 4) (len := 2) (p' := 25) (s' := [.int (nI n)]) rfl rfl rfl ?_
  refine ev_x (i := .aload_n 0) (len := 1) (p' := 26) (s' := [.ref 0, .int (nI n)]) rfl rfl rfl ?_
  refine ev_sl (p' := 27) rfl rfl hs rfl ?_
  refine ev_x (i := .bipush 6) (len := 2) (p' := 29) (s' := [.int 6, .int (Int32.ofNat L), .int (nI n)]) rfl rfl rfl ?_
  refine ev_x (i := .isub) (len := 1) (p' := 30) (s' := [.int ((Int32.ofNat L) - 6), .int (nI n)]) rfl rfl rfl ?_
  refine ev_b2 (t := 621) (p' := 33) rfl rfl rfl (if_neg c_1) ?_
  refine ev_x (i := .aload_n 0) (len := 1) (p' := 34) (s' := [.ref 0]) rfl rfl rfl ?_
  refine ev_x (i := .iload 4) (len := 2) (p' := 36) (s' := [.int (nI n), .ref 0]) rfl rfl rfl ?_
  refine ev_sg (p' := 37) rfl rfl hs (vp_in_nI (by omega) (by omega)) rfl ?_
  refine ev_st (st' := [.int (xs (n))]) (congrArg (fun z => Value.int (xs z) :: []) (nI_clamp (n := n) (by omega))) ?_
  refine ev_x (i := .bipush 15) (len := 2) (p' := 39) (s' := [.int 15, .int (xs (n))]) rfl rfl rfl ?_
  refine ev_x (i := .iand) (len := 1) (p' := 40) (s' := [.int ((xs (n)) &&& 15)]) rfl rfl rfl ?_
  refine ev_st (st' := [.int 3]) (congrArg (fun z => Value.int z :: []) c_2) ?_
  refine ev_ts (off := 214) (t := 254) rfl rfl (by decide) rfl ?_
  exact k
set_option maxHeartbeats 4000000 in
set_option maxRecDepth 100000 in
/-- GameTextLaw.law([I)Z -/
theorem lh_4_1 {d : Nat} {σ : st_S} {x_b x_k : Int32} {q : vz_O × vz_H} {n L : Nat} {xs : Nat → Int32} (hs : gF σ 0 = .inl (0, L, .inl xs)) (hn : n + 6 ≤ L) (hL : L ≤ 3072) (c_1 : ¬ (((Int32.ofNat L) - 6) < (nI n))) (c_2 : ((xs (n)) &&& 15) = 4) (k : vz_ev P0 (d + 1) 0 267 [(4, .int (nI n)), (6, .int x_b), (5, .int x_k), (3, .ref 187), (2, .ref 66), (1, .ref 1), (0, .ref 0)] [] (hp (σ)) q) : vz_ev P0 (d + 1) 0 23 [(4, .int (nI n)), (6, .int x_b), (5, .int x_k), (3, .ref 187), (2, .ref 66), (1, .ref 1), (0, .ref 0)] [] (hp σ) q := by
  refine ev_x (i := .iload 4) (len := 2) (p' := 25) (s' := [.int (nI n)]) rfl rfl rfl ?_
  refine ev_x (i := .aload_n 0) (len := 1) (p' := 26) (s' := [.ref 0, .int (nI n)]) rfl rfl rfl ?_
  refine ev_sl (p' := 27) rfl rfl hs rfl ?_
  refine ev_x (i := .bipush 6) (len := 2) (p' := 29) (s' := [.int 6, .int (Int32.ofNat L), .int (nI n)]) rfl rfl rfl ?_
  refine ev_x (i := .isub) (len := 1) (p' := 30) (s' := [.int ((Int32.ofNat L) - 6), .int (nI n)]) rfl rfl rfl ?_
  refine ev_b2 (t := 621) (p' := 33) rfl rfl rfl (if_neg c_1) ?_
  refine ev_x (i := .aload_n 0) (len := 1) (p' := 34) (s' := [.ref 0]) rfl rfl rfl ?_
  refine ev_x (i := .iload 4) (len := 2) (p' := 36) (s' := [.int (nI n), .ref 0]) rfl rfl rfl ?_
  refine ev_sg (p' := 37) rfl rfl hs (vp_in_nI (by omega) (by omega)) rfl ?_
  refine ev_st (st' := [.int (xs (n))]) (congrArg (fun z => Value.int (xs z) :: []) (nI_clamp (n := n) (by omega))) ?_
  refine ev_x (i := .bipush 15) (len := 2) (p' := 39) (s' := [.int 15, .int (xs (n))]) rfl rfl rfl ?_
  refine ev_x (i := .iand) (len := 1) (p' := 40) (s' := [.int ((xs (n)) &&& 15)]) rfl rfl rfl ?_
  refine ev_st (st' := [.int 4]) (congrArg (fun z => Value.int z :: []) c_2) ?_
  refine ev_ts (off := 227) (t := 267) rfl rfl (by decide) rfl ?_
  exact k
set_option maxHeartbeats 4000000 in
set_option maxRecDepth 100000 in
/-- GameTextLaw.law([I)Z -/
theorem lh_5_1 {d : Nat} {σ : st_S} {x_b x_k : Int32} {q : vz_O × vz_H} {n L : Nat} {xs : Nat → Int32} (hs : gF σ 0 = .inl (0, L, .inl xs)) (hn : n + 6 ≤ L) (hL : L ≤ 3072) (c_1 : ¬ (((Int32.ofNat L) - 6) < (nI n))) (c_2 : ((xs (n)) &&& 15) = 5) (k : vz_ev P0 (d + 1) 0 292 [(4, .int (nI n)), (6, .int x_b), (5, .int x_k), (3, .ref 187), (2, .ref 66), (1, .ref 1), (0, .ref 0)] [] (hp (σ)) q) : vz_ev P0 (d + 1) 0 23 [(4, .int (nI n)), (6, .int x_b), (5, .int x_k), (3, .ref 187), (2, .ref 66), (1, .ref 1), (0, .ref 0)] [] (hp σ) q := by
  refine ev_x (i := .iload 4) (len := 2) (p' := 25) (s' := [.int (nI n)]) rfl rfl rfl ?_
  refine ev_x (i := .aload_n 0) (len := 1) (p' := 26) (s' := [.ref 0, .int (nI n)]) rfl rfl rfl ?_
  refine ev_sl (p' := 27) rfl rfl hs rfl ?_
  refine ev_x (i := .bipush 6) (len := 2) (p' := 29) (s' := [.int 6, .int (Int32.ofNat L), .int (nI n)]) rfl rfl rfl ?_
  refine ev_x (i := .isub) (len := 1) (p' := 30) (s' := [.int ((Int32.ofNat L) - 6), .int (nI n)]) rfl rfl rfl ?_
  refine ev_b2 (t := 621) (p' := 33) rfl rfl rfl (if_neg c_1) ?_
  refine ev_x (i := .aload_n 0) (len := 1) (p' := 34) (s' := [.ref 0]) rfl rfl rfl ?_
  refine ev_x (i := .iload 4) (len := 2) (p' := 36) (s' := [.int (nI n), .ref 0]) rfl rfl rfl ?_
  refine ev_sg (p' := 37) rfl rfl hs (vp_in_nI (by omega) (by omega)) rfl ?_
  refine ev_st (st' := [.int (xs (n))]) (congrArg (fun z => Value.int (xs z) :: []) (nI_clamp (n := n) (by omega))) ?_
  refine ev_x (i := .bipush 15) (len := 2) (p' := 39) (s' := [.int 15, .int (xs (n))]) rfl rfl rfl ?_
  refine ev_x (i := .iand) (len := 1) (p' := 40) (s' := [.int ((xs (n)) &&& 15)]) rfl rfl rfl ?_
  refine ev_st (st' := [.int 5]) (congrArg (fun z => Value.int z :: []) c_2) ?_
  refine ev_ts (off := 252) (t := 292) rfl rfl (by decide) rfl ?_
  exact k
set_option maxHeartbeats 4000000 in
set_option maxRecDepth 100000 in
/-- GameTextLaw.law([I)Z -/
theorem lh_6_1 {d : Nat} {σ : st_S} {x_b x_k : Int32} {q : vz_O × vz_H} {n L : Nat} {xs : Nat → Int32} (hs : gF σ 0 = .inl (0, L, .inl xs)) (hn : n + 6 ≤ L) (hL : L ≤ 3072) (c_1 : ¬ (((Int32.ofNat L) - 6) < (nI n))) (c_2 : ((xs (n)) &&& 15) = 6) (k : vz_ev P0 (d + 1) 0 336 [(4, .int (nI n)), (6, .int x_b), (5, .int x_k), (3, .ref 187), (2, .ref 66), (1, .ref 1), (0, .ref 0)] [] (hp (σ)) q) : vz_ev P0 (d + 1) 0 23 [(4, .int (nI n)), (6, .int x_b), (5, .int x_k), (3, .ref 187), (2, .ref 66), (1, .ref 1), (0, .ref 0)] [] (hp σ) q := by
  refine ev_x (i := .iload 4) (len := 2) (p' := 25) (s' := [.int (nI n)]) rfl rfl rfl ?_
  refine ev_x (i := .aload_n 0) (len := 1) (p' := 26) (s' := [.ref 0, .int (nI n)]) rfl rfl rfl ?_
  refine ev_sl (p' := 27) rfl rfl hs rfl ?_
  refine ev_x (i := .bipush 6) (len := 2) (p' := 29) (s' := [.int 6, .int (Int32.ofNat L), .int (nI n)]) rfl rfl rfl ?_
  refine ev_x (i := .isub) (len := 1) (p' := 30) (s' := [.int ((Int32.ofNat L) - 6), .int (nI n)]) rfl rfl rfl ?_
  refine ev_b2 (t := 621) (p' := 33) rfl rfl rfl (if_neg c_1) ?_
  refine ev_x (i := .aload_n 0) (len := 1) (p' := 34) (s' := [.ref 0]) rfl rfl rfl ?_
  refine ev_x (i := .iload 4) (len := 2) (p' := 36) (s' := [.int (nI n), .ref 0]) rfl rfl rfl ?_
  refine ev_sg (p' := 37) rfl rfl hs (vp_in_nI (by omega) (by omega)) rfl ?_
  refine ev_st (st' := [.int (xs (n))]) (congrArg (fun z => Value.int (xs z) :: []) (nI_clamp (n := n) (by omega))) ?_
  refine ev_x (i := .bipush 15) (len := 2) (p' := 39) (s' := [.int 15, .int (xs (n))]) rfl rfl rfl ?_
  refine ev_x (i := .iand) (len := 1) (p' := 40) (s' := [.int ((xs (n)) &&& 15)]) rfl rfl rfl ?_
  refine ev_st (st' := [.int 6]) (congrArg (fun z => Value.int z :: []) c_2) ?_
  refine ev_ts (off := 296) (t := 336) rfl rfl (by decide) rfl ?_
  exact k
set_option maxHeartbeats 4000000 in
set_option maxRecDepth 100000 in
/-- GameTextLaw.law([I)Z -/
theorem lh_7_1 {d : Nat} {σ : st_S} {x_b x_k : Int32} {q : vz_O × vz_H} {n L : Nat} {xs : Nat → Int32} (hs : gF σ 0 = .inl (0, L, .inl xs)) (hn : n + 6 ≤ L) (hL : L ≤ 3072) (c_1 : ¬ (((Int32.ofNat L) - 6) < (nI n))) (c_2 : ((xs (n)) &&& 15) = 7) (k : vz_ev P0 (d + 1) 0 349 [(4, .int (nI n)), (6, .int x_b), (5, .int x_k), (3, .ref 187), (2, .ref 66), (1, .ref 1), (0, .ref 0)] [] (hp (σ)) q) : vz_ev P0 (d + 1) 0 23 [(4, .int (nI n)), (6, .int x_b), (5, .int x_k), (3, .ref 187), (2, .ref 66), (1, .ref 1), (0, .ref 0)] [] (hp σ) q := by
  refine ev_x (i := .iload 4) (len := 2) (p' := 25) (s' := [.int (nI n)]) rfl rfl rfl ?_
  refine ev_x (i := .aload_n 0) (len := 1) (p' := 26) (s' := [.ref 0, .int (nI n)]) rfl rfl rfl ?_
  refine ev_sl (p' := 27) rfl rfl hs rfl ?_
  refine ev_x (i := .bipush 6) (len := 2) (p' := 29) (s' := [.int 6, .int (Int32.ofNat L), .int (nI n)]) rfl rfl rfl ?_
  refine ev_x (i := .isub) (len := 1) (p' := 30) (s' := [.int ((Int32.ofNat L) - 6), .int (nI n)]) rfl rfl rfl ?_
  refine ev_b2 (t := 621) (p' := 33) rfl rfl rfl (if_neg c_1) ?_
  refine ev_x (i := .aload_n 0) (len := 1) (p' := 34) (s' := [.ref 0]) rfl rfl rfl ?_
  refine ev_x (i := .iload 4) (len := 2) (p' := 36) (s' := [.int (nI n), .ref 0]) rfl rfl rfl ?_
  refine ev_sg (p' := 37) rfl rfl hs (vp_in_nI (by omega) (by omega)) rfl ?_
  refine ev_st (st' := [.int (xs (n))]) (congrArg (fun z => Value.int (xs z) :: []) (nI_clamp (n := n) (by omega))) ?_
  refine ev_x (i := .bipush 15) (len := 2) (p' := 39) (s' := [.int 15, .int (xs (n))]) rfl rfl rfl ?_
  refine ev_x (i := .iand) (len := 1) (p' := 40) (s' := [.int ((xs (n)) &&& 15)]) rfl rfl rfl ?_
  refine ev_st (st' := [.int 7]) (congrArg (fun z => Value.int z :: []) c_2) ?_
  refine ev_ts (off := 309) (t := 349) rfl rfl (by decide) rfl ?_
  exact k
set_option maxHeartbeats 4000000 in
set_option maxRecDepth 100000 in
/-- GameTextLaw.law([I)Z -/
theorem lh_8_1 {d : Nat} {σ : st_S} {x_b x_k : Int32} {q : vz_O × vz_H} {n L : Nat} {xs : Nat → Int32} (hs : gF σ 0 = .inl (0, L, .inl xs)) (hn : n + 6 ≤ L) (hL : L ≤ 3072) (c_1 : ¬ (((Int32.ofNat L) - 6) < (nI n))) (c_2 : ((xs (n)) &&& 15) = 8) (k : vz_ev P0 (d + 1) 0 362 [(4, .int (nI n)), (6, .int x_b), (5, .int x_k), (3, .ref 187), (2, .ref 66), (1, .ref 1), (0, .ref 0)] [] (hp (σ)) q) : vz_ev P0 (d + 1) 0 23 [(4, .int (nI n)), (6, .int x_b), (5, .int x_k), (3, .ref 187), (2, .ref 66), (1, .ref 1), (0, .ref 0)] [] (hp σ) q := by
  refine ev_x (i := .iload 4) (len := 2) (p' := 25) (s' := [.int (nI n)]) rfl rfl rfl ?_
  refine ev_x (i := .aload_n 0) (len := 1) (p' := 26) (s' := [.ref 0, .int (nI n)]) rfl rfl rfl ?_
  refine ev_sl (p' := 27) rfl rfl hs rfl ?_
  refine ev_x (i := .bipush 6) (len := 2) (p' := 29) (s' := [.int 6, .int (Int32.ofNat L), .int (nI n)]) rfl rfl rfl ?_
  refine ev_x (i := .isub) (len := 1) (p' := 30) (s' := [.int ((Int32.ofNat L) - 6), .int (nI n)]) rfl rfl rfl ?_
  refine ev_b2 (t := 621) (p' := 33) rfl rfl rfl (if_neg c_1) ?_
  refine ev_x (i := .aload_n 0) (len := 1) (p' := 34) (s' := [.ref 0]) rfl rfl rfl ?_
  refine ev_x (i := .iload 4) (len := 2) (p' := 36) (s' := [.int (nI n), .ref 0]) rfl rfl rfl ?_
  refine ev_sg (p' := 37) rfl rfl hs (vp_in_nI (by omega) (by omega)) rfl ?_
  refine ev_st (st' := [.int (xs (n))]) (congrArg (fun z => Value.int (xs z) :: []) (nI_clamp (n := n) (by omega))) ?_
  refine ev_x (i := .bipush 15) (len := 2) (p' := 39) (s' := [.int 15, .int (xs (n))]) rfl rfl rfl ?_
  refine ev_x (i := .iand) (len := 1) (p' := 40) (s' := [.int ((xs (n)) &&& 15)]) rfl rfl rfl ?_
  refine ev_st (st' := [.int 8]) (congrArg (fun z => Value.int z :: []) c_2) ?_
  refine ev_ts (off := 322) (t := 362) rfl rfl (by decide) rfl ?_
  exact k
set_option maxHeartbeats 4000000 in
set_option maxRecDepth 100000 in
/-- GameTextLaw.law([I)Z -/
theorem lh_9_1 {d : Nat} {σ : st_S} {x_b x_k : Int32} {q : vz_O × vz_H} {n L : Nat} {xs : Nat → Int32} (hs : gF σ 0 = .inl (0, L, .inl xs)) (hn : n + 6 ≤ L) (hL : L ≤ 3072) (c_1 : ¬ (((Int32.ofNat L) - 6) < (nI n))) (c_2 : ((xs (n)) &&& 15) = 9) (k : vz_ev P0 (d + 1) 0 430 [(4, .int (nI n)), (6, .int x_b), (5, .int x_k), (3, .ref 187), (2, .ref 66), (1, .ref 1), (0, .ref 0)] [] (hp (σ)) q) : vz_ev P0 (d + 1) 0 23 [(4, .int (nI n)), (6, .int x_b), (5, .int x_k), (3, .ref 187), (2, .ref 66), (1, .ref 1), (0, .ref 0)] [] (hp σ) q := by
  refine ev_x (i := .iload 4) (len := 2) (p' := 25) (s' := [.int (nI n)]) rfl rfl rfl ?_
  refine ev_x (i := .aload_n 0) (len := 1) (p' := 26) (s' := [.ref 0, .int (nI n)]) rfl rfl rfl ?_
  refine ev_sl (p' := 27) rfl rfl hs rfl ?_
  refine ev_x (i := .bipush 6) (len := 2) (p' := 29) (s' := [.int 6, .int (Int32.ofNat L), .int (nI n)]) rfl rfl rfl ?_
  refine ev_x (i := .isub) (len := 1) (p' := 30) (s' := [.int ((Int32.ofNat L) - 6), .int (nI n)]) rfl rfl rfl ?_
  refine ev_b2 (t := 621) (p' := 33) rfl rfl rfl (if_neg c_1) ?_
  refine ev_x (i := .aload_n 0) (len := 1) (p' := 34) (s' := [.ref 0]) rfl rfl rfl ?_
  refine ev_x (i := .iload 4) (len := 2) (p' := 36) (s' := [.int (nI n), .ref 0]) rfl rfl rfl ?_
  refine ev_sg (p' := 37) rfl rfl hs (vp_in_nI (by omega) (by omega)) rfl ?_
  refine ev_st (st' := [.int (xs (n))]) (congrArg (fun z => Value.int (xs z) :: []) (nI_clamp (n := n) (by omega))) ?_
  refine ev_x (i := .bipush 15) (len := 2) (p' := 39) (s' := [.int 15, .int (xs (n))]) rfl rfl rfl ?_
  refine ev_x (i := .iand) (len := 1) (p' := 40) (s' := [.int ((xs (n)) &&& 15)]) rfl rfl rfl ?_
  refine ev_st (st' := [.int 9]) (congrArg (fun z => Value.int z :: []) c_2) ?_
  refine ev_ts (off := 390) (t := 430) rfl rfl (by decide) rfl ?_
  exact k
set_option maxHeartbeats 4000000 in
set_option maxRecDepth 100000 in
/-- GameTextLaw.law([I)Z -/
theorem lh_10_1 {d : Nat} {σ : st_S} {x_b x_k : Int32} {q : vz_O × vz_H} {n L : Nat} {xs : Nat → Int32} (hs : gF σ 0 = .inl (0, L, .inl xs)) (hn : n + 6 ≤ L) (hL : L ≤ 3072) (c_1 : ¬ (((Int32.ofNat L) - 6) < (nI n))) (c_2 : ((xs (n)) &&& 15) = 10) (k : vz_ev P0 (d + 1) 0 455 [(4, .int (nI n)), (6, .int x_b), (5, .int x_k), (3, .ref 187), (2, .ref 66), (1, .ref 1), (0, .ref 0)] [] (hp (σ)) q) : vz_ev P0 (d + 1) 0 23 [(4, .int (nI n)), (6, .int x_b), (5, .int x_k), (3, .ref 187), (2, .ref 66), (1, .ref 1), (0, .ref 0)] [] (hp σ) q := by
  refine ev_x (i := .iload 4) (len := 2) (p' := 25) (s' := [.int (nI n)]) rfl rfl rfl ?_
  refine ev_x (i := .aload_n 0) (len := 1) (p' := 26) (s' := [.ref 0, .int (nI n)]) rfl rfl rfl ?_
  refine ev_sl (p' := 27) rfl rfl hs rfl ?_
  refine ev_x (i := .bipush 6) (len := 2) (p' := 29) (s' := [.int 6, .int (Int32.ofNat L), .int (nI n)]) rfl rfl rfl ?_
  refine ev_x (i := .isub) (len := 1) (p' := 30) (s' := [.int ((Int32.ofNat L) - 6), .int (nI n)]) rfl rfl rfl ?_
  refine ev_b2 (t := 621) (p' := 33) rfl rfl rfl (if_neg c_1) ?_
  refine ev_x (i := .aload_n 0) (len := 1) (p' := 34) (s' := [.ref 0]) rfl rfl rfl ?_
  refine ev_x (i := .iload 4) (len := 2) (p' := 36) (s' := [.int (nI n), .ref 0]) rfl rfl rfl ?_
  refine ev_sg (p' := 37) rfl rfl hs (vp_in_nI (by omega) (by omega)) rfl ?_
  refine ev_st (st' := [.int (xs (n))]) (congrArg (fun z => Value.int (xs z) :: []) (nI_clamp (n := n) (by omega))) ?_
  refine ev_x (i := .bipush 15) (len := 2) (p' := 39) (s' := [.int 15, .int (xs (n))]) rfl rfl rfl ?_
  refine ev_x (i := .iand) (len := 1) (p' := 40) (s' := [.int ((xs (n)) &&& 15)]) rfl rfl rfl ?_
  refine ev_st (st' := [.int 10]) (congrArg (fun z => Value.int z :: []) c_2) ?_
  refine ev_ts (off := 415) (t := 455) rfl rfl (by decide) rfl ?_
  exact k
set_option maxHeartbeats 4000000 in
set_option maxRecDepth 100000 in
/-- GameTextLaw.law([I)Z -/
theorem lh_11_1 {d : Nat} {σ : st_S} {x_b x_k : Int32} {q : vz_O × vz_H} {n L : Nat} {xs : Nat → Int32} (hs : gF σ 0 = .inl (0, L, .inl xs)) (hn : n + 6 ≤ L) (hL : L ≤ 3072) (c_1 : ¬ (((Int32.ofNat L) - 6) < (nI n))) (c_2 : ((xs (n)) &&& 15) = 11) (k : vz_ev P0 (d + 1) 0 480 [(4, .int (nI n)), (6, .int x_b), (5, .int x_k), (3, .ref 187), (2, .ref 66), (1, .ref 1), (0, .ref 0)] [] (hp (σ)) q) : vz_ev P0 (d + 1) 0 23 [(4, .int (nI n)), (6, .int x_b), (5, .int x_k), (3, .ref 187), (2, .ref 66), (1, .ref 1), (0, .ref 0)] [] (hp σ) q := by
  refine ev_x (i := .iload 4) (len := 2) (p' := 25) (s' := [.int (nI n)]) rfl rfl rfl ?_
  refine ev_x (i := .aload_n 0) (len := 1) (p' := 26) (s' := [.ref 0, .int (nI n)]) rfl rfl rfl ?_
  refine ev_sl (p' := 27) rfl rfl hs rfl ?_
  refine ev_x (i := .bipush 6) (len := 2) (p' := 29) (s' := [.int 6, .int (Int32.ofNat L), .int (nI n)]) rfl rfl rfl ?_
  refine ev_x (i := .isub) (len := 1) (p' := 30) (s' := [.int ((Int32.ofNat L) - 6), .int (nI n)]) rfl rfl rfl ?_
  refine ev_b2 (t := 621) (p' := 33) rfl rfl rfl (if_neg c_1) ?_
  refine ev_x (i := .aload_n 0) (len := 1) (p' := 34) (s' := [.ref 0]) rfl rfl rfl ?_
  refine ev_x (i := .iload 4) (len := 2) (p' := 36) (s' := [.int (nI n), .ref 0]) rfl rfl rfl ?_
  refine ev_sg (p' := 37) rfl rfl hs (vp_in_nI (by omega) (by omega)) rfl ?_
  refine ev_st (st' := [.int (xs (n))]) (congrArg (fun z => Value.int (xs z) :: []) (nI_clamp (n := n) (by omega))) ?_
  refine ev_x (i := .bipush 15) (len := 2) (p' := 39) (s' := [.int 15, .int (xs (n))]) rfl rfl rfl ?_
  refine ev_x (i := .iand) (len := 1) (p' := 40) (s' := [.int ((xs (n)) &&& 15)]) rfl rfl rfl ?_
  refine ev_st (st' := [.int 11]) (congrArg (fun z => Value.int z :: []) c_2) ?_
  refine ev_ts (off := 440) (t := 480) rfl rfl (by decide) rfl ?_
  exact k
set_option maxHeartbeats 4000000 in
set_option maxRecDepth 100000 in
/-- GameTextLaw.law([I)Z -/
theorem lh_12_1 {d : Nat} {σ : st_S} {x_b x_k : Int32} {q : vz_O × vz_H} {n L : Nat} {xs : Nat → Int32} (hs : gF σ 0 = .inl (0, L, .inl xs)) (hn : n + 6 ≤ L) (hL : L ≤ 3072) (c_1 : ¬ (((Int32.ofNat L) - 6) < (nI n))) (c_2 : ((xs (n)) &&& 15) = 12) (k : vz_ev P0 (d + 1) 0 517 [(4, .int (nI n)), (6, .int x_b), (5, .int x_k), (3, .ref 187), (2, .ref 66), (1, .ref 1), (0, .ref 0)] [] (hp (σ)) q) : vz_ev P0 (d + 1) 0 23 [(4, .int (nI n)), (6, .int x_b), (5, .int x_k), (3, .ref 187), (2, .ref 66), (1, .ref 1), (0, .ref 0)] [] (hp σ) q := by
  refine ev_x (i := .iload 4) (len := 2) (p' := 25) (s' := [.int (nI n)]) rfl rfl rfl ?_
  refine ev_x (i := .aload_n 0) (len := 1) (p' := 26) (s' := [.ref 0, .int (nI n)]) rfl rfl rfl ?_
  refine ev_sl (p' := 27) rfl rfl hs rfl ?_
  refine ev_x (i := .bipush 6) (len := 2) (p' := 29) (s' := [.int 6, .int (Int32.ofNat L), .int (nI n)]) rfl rfl rfl ?_
  refine ev_x (i := .isub) (len := 1) (p' := 30) (s' := [.int ((Int32.ofNat L) - 6), .int (nI n)]) rfl rfl rfl ?_
  refine ev_b2 (t := 621) (p' := 33) rfl rfl rfl (if_neg c_1) ?_
  refine ev_x (i := .aload_n 0) (len := 1) (p' := 34) (s' := [.ref 0]) rfl rfl rfl ?_
  refine ev_x (i := .iload 4) (len := 2) (p' := 36) (s' := [.int (nI n), .ref 0]) rfl rfl rfl ?_
  refine ev_sg (p' := 37) rfl rfl hs (vp_in_nI (by omega) (by omega)) rfl ?_
  refine ev_st (st' := [.int (xs (n))]) (congrArg (fun z => Value.int (xs z) :: []) (nI_clamp (n := n) (by omega))) ?_
  refine ev_x (i := .bipush 15) (len := 2) (p' := 39) (s' := [.int 15, .int (xs (n))]) rfl rfl rfl ?_
  refine ev_x (i := .iand) (len := 1) (p' := 40) (s' := [.int ((xs (n)) &&& 15)]) rfl rfl rfl ?_
  refine ev_st (st' := [.int 12]) (congrArg (fun z => Value.int z :: []) c_2) ?_
  refine ev_ts (off := 477) (t := 517) rfl rfl (by decide) rfl ?_
  exact k
set_option maxHeartbeats 4000000 in
set_option maxRecDepth 100000 in
/-- GameTextLaw.law([I)Z -/
theorem lh_13_1 {d : Nat} {σ : st_S} {x_b x_k : Int32} {q : vz_O × vz_H} {n L : Nat} {xs : Nat → Int32} (hs : gF σ 0 = .inl (0, L, .inl xs)) (hn : n + 6 ≤ L) (hL : L ≤ 3072) (c_1 : ¬ (((Int32.ofNat L) - 6) < (nI n))) (c_2 : ((xs (n)) &&& 15) = 13) (k : vz_ev P0 (d + 1) 0 554 [(4, .int (nI n)), (6, .int x_b), (5, .int x_k), (3, .ref 187), (2, .ref 66), (1, .ref 1), (0, .ref 0)] [] (hp (σ)) q) : vz_ev P0 (d + 1) 0 23 [(4, .int (nI n)), (6, .int x_b), (5, .int x_k), (3, .ref 187), (2, .ref 66), (1, .ref 1), (0, .ref 0)] [] (hp σ) q := by
  refine ev_x (i := .iload 4) (len := 2) (p' := 25) (s' := [.int (nI n)]) rfl rfl rfl ?_
  refine ev_x (i := .aload_n 0) (len := 1) (p' := 26) (s' := [.ref 0, .int (nI n)]) rfl rfl rfl ?_
  refine ev_sl (p' := 27) rfl rfl hs rfl ?_
  refine ev_x (i := .bipush 6) (len := 2) (p' := 29) (s' := [.int 6, .int (Int32.ofNat L), .int (nI n)]) rfl rfl rfl ?_
  refine ev_x (i := .isub) (len := 1) (p' := 30) (s' := [.int ((Int32.ofNat L) - 6), .int (nI n)]) rfl rfl rfl ?_
  refine ev_b2 (t := 621) (p' := 33) rfl rfl rfl (if_neg c_1) ?_
  refine ev_x (i := .aload_n 0) (len := 1) (p' := 34) (s' := [.ref 0]) rfl rfl rfl ?_
  refine ev_x (i := .iload 4) (len := 2) (p' := 36) (s' := [.int (nI n), .ref 0]) rfl rfl rfl ?_
  refine ev_sg (p' := 37) rfl rfl hs (vp_in_nI (by omega) (by omega)) rfl ?_
  refine ev_st (st' := [.int (xs (n))]) (congrArg (fun z => Value.int (xs z) :: []) (nI_clamp (n := n) (by omega))) ?_
  refine ev_x (i := .bipush 15) (len := 2) (p' := 39) (s' := [.int 15, .int (xs (n))]) rfl rfl rfl ?_
  refine ev_x (i := .iand) (len := 1) (p' := 40) (s' := [.int ((xs (n)) &&& 15)]) rfl rfl rfl ?_
  refine ev_st (st' := [.int 13]) (congrArg (fun z => Value.int z :: []) c_2) ?_
  refine ev_ts (off := 514) (t := 554) rfl rfl (by decide) rfl ?_
  exact k
set_option maxHeartbeats 4000000 in
set_option maxRecDepth 100000 in
/-- GameTextLaw.law([I)Z -/
theorem lh_14_1 {d : Nat} {σ : st_S} {x_b x_k : Int32} {q : vz_O × vz_H} {n L : Nat} {xs : Nat → Int32} (hs : gF σ 0 = .inl (0, L, .inl xs)) (hn : n + 6 ≤ L) (hL : L ≤ 3072) (c_1 : ¬ (((Int32.ofNat L) - 6) < (nI n))) (c_2 : (((xs (n)) &&& 15) : Int32).toInt < 0 ∨ 13 < (((xs (n)) &&& 15) : Int32).toInt) (k : vz_ev P0 (d + 1) 0 615 [(4, .int (nI n)), (6, .int x_b), (5, .int x_k), (3, .ref 187), (2, .ref 66), (1, .ref 1), (0, .ref 0)] [] (hp (σ)) q) : vz_ev P0 (d + 1) 0 23 [(4, .int (nI n)), (6, .int x_b), (5, .int x_k), (3, .ref 187), (2, .ref 66), (1, .ref 1), (0, .ref 0)] [] (hp σ) q := by
  refine ev_x (i := .iload 4) (len := 2) (p' := 25) (s' := [.int (nI n)]) rfl rfl rfl ?_
  refine ev_x (i := .aload_n 0) (len := 1) (p' := 26) (s' := [.ref 0, .int (nI n)]) rfl rfl rfl ?_
  refine ev_sl (p' := 27) rfl rfl hs rfl ?_
  refine ev_x (i := .bipush 6) (len := 2) (p' := 29) (s' := [.int 6, .int (Int32.ofNat L), .int (nI n)]) rfl rfl rfl ?_
  refine ev_x (i := .isub) (len := 1) (p' := 30) (s' := [.int ((Int32.ofNat L) - 6), .int (nI n)]) rfl rfl rfl ?_
  refine ev_b2 (t := 621) (p' := 33) rfl rfl rfl (if_neg c_1) ?_
  refine ev_x (i := .aload_n 0) (len := 1) (p' := 34) (s' := [.ref 0]) rfl rfl rfl ?_
  refine ev_x (i := .iload 4) (len := 2) (p' := 36) (s' := [.int (nI n), .ref 0]) rfl rfl rfl ?_
  refine ev_sg (p' := 37) rfl rfl hs (vp_in_nI (by omega) (by omega)) rfl ?_
  refine ev_st (st' := [.int (xs (n))]) (congrArg (fun z => Value.int (xs z) :: []) (nI_clamp (n := n) (by omega))) ?_
  refine ev_x (i := .bipush 15) (len := 2) (p' := 39) (s' := [.int 15, .int (xs (n))]) rfl rfl rfl ?_
  refine ev_x (i := .iand) (len := 1) (p' := 40) (s' := [.int ((xs (n)) &&& 15)]) rfl rfl rfl ?_
  refine ev_ts (off := 575) (t := 615) rfl rfl (if_pos c_2) rfl ?_
  exact k
set_option maxHeartbeats 4000000 in
set_option maxRecDepth 100000 in
/-- GameTextLaw.law([I)Z -/
theorem lq_0 {d : Nat} {σ : st_S} {q : vz_O × vz_H} {n : Nat}  (k : vz_ev P0 (d + 1) 0 23 [(4, .int (nI (n + 6))), (3, .ref 187), (2, .ref 66), (1, .ref 1), (0, .ref 0)] [] (hp (σ)) q) : vz_ev P0 (d + 1) 0 615 [(4, .int (nI n)), (3, .ref 187), (2, .ref 66), (1, .ref 1), (0, .ref 0)] [] (hp σ) q := by
  refine ev_x (i := .iinc 4 6) (len := 3) (p' := 618) (s' := []) (l' := [(4, .int ((nI n) + 6)), (3, .ref 187), (2, .ref 66), (1, .ref 1), (0, .ref 0)]) rfl rfl rfl ?_
  refine ev_lv (lv' := [(4, .int (nI (n + 6))), (3, .ref 187), (2, .ref 66), (1, .ref 1), (0, .ref 0)]) (congrArg (fun z => (4, Value.int z) :: [(3, .ref 187), (2, .ref 66), (1, .ref 1), (0, .ref 0)]) (nI_add n 6)) ?_
  refine ev_x (i := .goto (-595)) (len := 3) (p' := 23) (s' := []) rfl rfl rfl ?_
  exact k
set_option maxHeartbeats 4000000 in
set_option maxRecDepth 100000 in
/-- GameTextLaw.law([I)Z -/
theorem lq_1 {d : Nat} {σ : st_S} {x_b x_k : Int32} {q : vz_O × vz_H} {n : Nat}  (k : vz_ev P0 (d + 1) 0 23 [(4, .int (nI (n + 6))), (6, .int x_b), (5, .int x_k), (3, .ref 187), (2, .ref 66), (1, .ref 1), (0, .ref 0)] [] (hp (σ)) q) : vz_ev P0 (d + 1) 0 615 [(4, .int (nI n)), (6, .int x_b), (5, .int x_k), (3, .ref 187), (2, .ref 66), (1, .ref 1), (0, .ref 0)] [] (hp σ) q := by
  refine ev_x (i := .iinc 4 6) (len := 3) (p' := 618) (s' := []) (l' := [(4, .int ((nI n) + 6)), (6, .int x_b), (5, .int x_k), (3, .ref 187), (2, .ref 66), (1, .ref 1), (0, .ref 0)]) rfl rfl rfl ?_
  refine ev_lv (lv' := [(4, .int (nI (n + 6))), (6, .int x_b), (5, .int x_k), (3, .ref 187), (2, .ref 66), (1, .ref 1), (0, .ref 0)]) (congrArg (fun z => (4, Value.int z) :: [(6, .int x_b), (5, .int x_k), (3, .ref 187), (2, .ref 66), (1, .ref 1), (0, .ref 0)]) (nI_add n 6)) ?_
  refine ev_x (i := .goto (-595)) (len := 3) (p' := 23) (s' := []) rfl rfl rfl ?_
  exact k
set_option maxHeartbeats 4000000 in
set_option maxRecDepth 100000 in
/-- GameTextLaw.law([I)Z -/
theorem lq_2 {d : Nat} {σ : st_S} {x_b x_k : Int32} {q : vz_O × vz_H} {n : Nat}  (k : vz_ev P0 (d + 1) 0 23 [(4, .int (nI (n + 6))), (6, .int x_b), (5, .int x_k), (3, .ref 187), (2, .ref 66), (1, .ref 1), (0, .ref 0)] [] (hp (σ)) q) : vz_ev P0 (d + 1) 0 615 [(6, .int x_b), (5, .int x_k), (4, .int (nI n)), (3, .ref 187), (2, .ref 66), (1, .ref 1), (0, .ref 0)] [] (hp σ) q := by
  refine ev_x (i := .iinc 4 6) (len := 3) (p' := 618) (s' := []) (l' := [(4, .int ((nI n) + 6)), (6, .int x_b), (5, .int x_k), (3, .ref 187), (2, .ref 66), (1, .ref 1), (0, .ref 0)]) rfl rfl rfl ?_
  refine ev_lv (lv' := [(4, .int (nI (n + 6))), (6, .int x_b), (5, .int x_k), (3, .ref 187), (2, .ref 66), (1, .ref 1), (0, .ref 0)]) (congrArg (fun z => (4, Value.int z) :: [(6, .int x_b), (5, .int x_k), (3, .ref 187), (2, .ref 66), (1, .ref 1), (0, .ref 0)]) (nI_add n 6)) ?_
  refine ev_x (i := .goto (-595)) (len := 3) (p' := 23) (s' := []) rfl rfl rfl ?_
  exact k
