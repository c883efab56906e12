/-! indexOf of a text -/
/-- every text: its length is its list's; each entry is a small char -/
theorem ts_ok : ∀ i, i < 19 → ts_len.getD i 0 = (ts_byt.getD i []).length ∧ 0 < ts_len.getD i 0 ∧ ts_len.getD i 0 < 2 ^ 31 ∧ ∀ b ∈ ts_byt.getD i [], b.toInt8.toInt32 = b ∧ b &&& 255 = b := by decide +kernel
/-- the first place, from k on -/
def sv_f (c : Int32) : List Int32 → Nat → Int32
  | [], _ => -1
  | b :: r, k => if b = c then nI k else sv_f c r (k + 1)
section SXD
variable {l : Launch} {A : Nat → Prop} {adK adV : Nat → Nat}
theorem sv_enc {q : Nat} (hq : q < 256) : Met l sn_enc (Cond.code sn_enc prog_24_method_4_code 1 (some .boolean) :: tb_T) (k2_rm 0 0) (sx_P A adK adV [.int (nI q)]) (sx_Q (some (.int 1))) 0 0 (fun _ => False) := by
  refine sx_met sf_enc (Nat.le_of_ble_eq_true rfl) ?_
  intro p e s m below meth c ls S hr hlk hG hl
  obtain ⟨hx, hb, hml, hown, hts⟩ := id S
  refine sx hx hb sd_enc_0 rfl hl (fun ls hl => ?_)
  refine sx (pc' := 4) hx hb sd_enc_1 (by
    show some ((if nI q < 0 then 15 else 1 + 3 : Nat), _, _) = _
    rw [if_neg (nI_pos (by omega))]) hl (fun ls hl => ?_)
  refine sx hx hb sd_enc_4 rfl hl (fun ls hl => ?_)
  refine sx hx hb sd_enc_5 rfl hl (fun ls hl => ?_)
  refine sx (pc' := 11) hx hb sd_enc_8 (by
    show some ((if (Int16.ofInt 255).toInt32 < nI q then 15 else 8 + 3 : Nat), _, _) = _
    rw [if_neg (show ¬ (Int16.ofInt 255).toInt32 < nI q from (nI_nlt (a := 255) (b := q) (by omega) (by decide) : ¬ nI 255 < nI q))]) hl (fun ls hl => ?_)
  refine sx hx hb sd_enc_11 rfl hl (fun ls hl => ?_)
  refine sx hx hb sd_enc_12 rfl hl (fun ls hl => ?_)
  exact W.zret hx hb hr rfl (fun t ht hW => ⟨rfl, ht⟩) (fun q hq => nomatch hq) sd_enc_16
set_option maxHeartbeats 4000000 in
theorem sv_ioc {i q : Nat} (hi : i < 19) (hq : q < 256) : Met l sn_ioc (Cond.code sn_ioc prog_24_method_23_code 6 (some .int) :: tb_T) (k2_rm 0 0) (sx_P A adK adV [.ref (adV i), .int (nI q), .int 0, .int (nI (ts_len.getD i 0))]) (sx_Q (some (.int (sv_f (nI q) (ts_byt.getD i []) 0)))) 0 0 (fun _ => False) := by
  obtain ⟨k1, k2, k3, k4⟩ := ts_ok i hi
  refine sx_met sf_ioc (Nat.le_of_ble_eq_true rfl) ?_
  intro p e s m below meth c ls S hr hlk hG hl
  obtain ⟨hx, hb, hml, hown, hts⟩ := id S
  refine sx hx hb sd_ioc_0 rfl hl (fun ls hl => ?_)
  refine sx hx hb sd_ioc_1 rfl hl (fun ls hl => ?_)
  refine sx hx hb sd_ioc_2 rfl hl (fun ls hl => ?_)
  refine sx hx hb sd_ioc_4 rfl hl (fun ls hl => ?_)
  refine sx hx hb sd_ioc_5 rfl hl (fun ls hl => ?_)
  have loop : ∀ (r : List Int32) (j : Nat) (ls : Array Slot), (ts_byt.getD i []).drop j = r → j ≤ ts_len.getD i 0 → sv_f (nI q) r j = sv_f (nI q) (ts_byt.getD i []) 0 → lv_has ls 6 [(5, .int (nI j)), (4, .int (nI q).toInt8.toInt32), (0, .ref (adV i)), (1, .int (nI q)), (2, .int 0), (3, .int (nI (ts_len.getD i 0)))] →
      W p l e (k2_rm 0 0) s m [Value.ref (adV i), .int (nI q), .int 0, .int (nI (ts_len.getD i 0))].toArray below meth c s.heap [] 0 0 (MQ below (sx_Q (some (.int (sv_f (nI q) (ts_byt.getD i []) 0)))) [Value.ref (adV i), .int (nI q), .int 0, .int (nI (ts_len.getD i 0))].toArray s 0 0 (fun _ => False)) (F0 m 7 ls []) := by
    intro r
    induction r with
    | nil =>
      intro j ls hd hj hf hl
      have hge : ts_len.getD i 0 ≤ j := by rw [k1]; exact List.drop_eq_nil_iff.mp hd
      refine sx hx hb sd_ioc_7 rfl hl (fun ls hl => ?_)
      refine sx hx hb sd_ioc_9 rfl hl (fun ls hl => ?_)
      refine sx (pc' := 31) hx hb sd_ioc_10 (by
        show some ((if nI (ts_len.getD i 0) ≤ nI j then 31 else 10 + 3 : Nat), _, _) = _
        rw [if_pos (nI_le hge (by omega))]) hl (fun ls hl => ?_)
      refine sx hx hb sd_ioc_31 rfl hl (fun ls hl => ?_)
      rw [← hf]
      exact W.zret hx hb hr rfl (fun t ht hW => ⟨rfl, ht⟩) (fun q hq => nomatch hq) sd_ioc_32
    | cons b r ih =>
      intro j ls hd hj hf hl
      obtain ⟨g1, g2, g3, g4⟩ := sc_dropC hd
      have hlt : j < ts_len.getD i 0 := by rw [k1]; exact g1
      refine sx hx hb sd_ioc_7 rfl hl (fun ls hl => ?_)
      refine sx hx hb sd_ioc_9 rfl hl (fun ls hl => ?_)
      refine sx (pc' := 13) hx hb sd_ioc_10 (by
        show some ((if nI (ts_len.getD i 0) ≤ nI j then 31 else 10 + 3 : Nat), _, _) = _
        rw [if_neg (nI_ge hlt k3)]) hl (fun ls hl => ?_)
      refine sx hx hb sd_ioc_13 rfl hl (fun ls hl => ?_)
      refine sx hx hb sd_ioc_14 rfl hl (fun ls hl => ?_)
      refine va_tb (v := .int b) hx hb (hG.1.1 i hi).2.2.2 va_S.rf (vp_in_nI hlt k3) (by show Value.int ((ts_byt.getD i []).getD (nI j).toNatClampNeg 0) = _; rw [nI_clamp (by omega), g2]) sd_ioc_16 ?_
      refine sx hx hb sd_ioc_17 rfl hl (fun ls hl => ?_)
      have hb9 := k4 b g4
      by_cases hbc : b = nI q
      · have e1 : b = (nI q).toInt8.toInt32 := (sc_eq hb9.1 hq).mpr (by rw [hb9.2]; exact hbc)
        refine sx (pc' := 22) hx hb sd_ioc_19 (by
          show some ((if ¬ b = (nI q).toInt8.toInt32 then 25 else 19 + 3 : Nat), _, _) = _
          rw [if_neg (fun h => h e1)]) hl (fun ls hl => ?_)
        refine sx hx hb sd_ioc_22 rfl hl (fun ls hl => ?_)
        have e2 : sv_f (nI q) (b :: r) j = nI j := if_pos hbc
        rw [← hf, e2]
        exact W.zret hx hb hr rfl (fun t ht hW => ⟨rfl, ht⟩) (fun q hq => nomatch hq) sd_ioc_24
      · have e1 : ¬ b = (nI q).toInt8.toInt32 := fun h => hbc (by have h9 := (sc_eq hb9.1 hq).mp h; rw [hb9.2] at h9; exact h9)
        refine sx (pc' := 25) hx hb sd_ioc_19 (by
          show some ((if ¬ b = (nI q).toInt8.toInt32 then 25 else 19 + 3 : Nat), _, _) = _
          rw [if_pos e1]) hl (fun ls hl => ?_)
        refine sx hx hb sd_ioc_25 rfl hl (fun ls hl => ?_)
        refine sx hx hb sd_ioc_28 rfl hl (fun ls hl => ?_)
        have e2 : sv_f (nI q) (b :: r) j = sv_f (nI q) r (j + 1) := if_neg hbc
        exact ih (j + 1) ls g3 hlt (by rw [← e2]; exact hf) (by rw [nI_succ]; exact hl)
  exact loop _ 0 ls rfl (Nat.zero_le _) rfl hl
set_option maxRecDepth 100000 in
set_option maxHeartbeats 4000000 in
theorem sv_lio {i q : Nat} (hi : i < 19) (hq : q < 256) : Met l sn_lio (Cond.code sn_lio prog_24_method_22_code 4 (some .int) :: tb_T) (k2_rm 1 60) (sx_P A adK adV [.ref (adV i), .int (nI q), .int 0, .int (nI (ts_len.getD i 0))]) (sx_Q (some (.int (sv_f (nI q) (ts_byt.getD i []) 0)))) 0 0 (fun _ => False) := by
  obtain ⟨k1, k2, k3, k4⟩ := ts_ok i hi
  refine sx_met sf_lio (Nat.le_of_ble_eq_true rfl) ?_
  intro p e s m below meth c ls S hr hlk hG hl
  obtain ⟨hx, hb, hml, hown, hts⟩ := id S
  have hini : (Cond.initialized "java/lang/Math").before [Value.ref (adV i), .int (nI q), .int 0, .int (nI (ts_len.getD i 0))].toArray s = true := hts _ (tb_w_of (p := 15) (by decide +kernel))
  have hc1 : (Cond.code Lib.Math.max.name Lib.Math.max.code 2 (some .int)).before [Value.ref (adV i), .int (nI q), .int 0, .int (nI (ts_len.getD i 0))].toArray s = true := hts _ (tm_c _ _ 647 rfl)
  have hc2 : (Cond.code Lib.Math.min.name Lib.Math.min.code 2 (some .int)).before [Value.ref (adV i), .int (nI q), .int 0, .int (nI (ts_len.getD i 0))].toArray s = true := hts _ (tm_c _ _ 530 rfl)
  refine sx hx hb sd_lio_0 rfl hl (fun ls hl => ?_)
  refine sx_callS (As := [.int (nI q)]) (rest := []) S hG va_S.rf (sv_enc hq) sw_enc si_enc (tb_w_of (p := 642) (by decide +kernel)) ss_enc sy_enc rfl rfl ⟨by decide, by decide⟩ hl.1 (Nat.le_of_ble_eq_true rfl) (Nat.zero_le _) (Nat.zero_le _) sd_lio_1 ?_
  refine sx hx hb sd_lio_4 rfl hl (fun ls hl => ?_)
  refine sx hx hb sd_lio_9 rfl hl (fun ls hl => ?_)
  refine sx hx hb sd_lio_10 rfl hl (fun ls hl => ?_)
  refine va_mmax (x := 0) (y := 0) (rest := []) hx hb (hml.trans hl.1.symm) hown (hts _ (tb_w_of (p := 645) (by decide +kernel))) (hts _ (tb_w_of (p := 646) (by decide +kernel))) hini hc1 (by decide) (by decide) (Nat.zero_le _) (Nat.zero_le _) sd_lio_11 ?_
  refine sx hx hb sd_lio_14 rfl hl (fun ls hl => ?_)
  refine sx hx hb sd_lio_15 rfl hl (fun ls hl => ?_)
  refine sx hx hb sd_lio_16 rfl hl (fun ls hl => ?_)
  refine va_tlen hx hb (hG.1.1 i hi).2.2.2 va_S.rf rfl sd_lio_17 ?_
  refine va_mmin (x := nI (ts_len.getD i 0)) (y := nI (ts_len.getD i 0)) (rest := []) hx hb (hml.trans hl.1.symm) hown (hts _ (tb_w_of (p := 648) (by decide +kernel))) (hts _ (tb_w_of (p := 529) (by decide +kernel))) hini hc2 (by decide) (by decide) (Nat.zero_le _) (Nat.zero_le _) sd_lio_18 ?_
  rw [ite_self]
  refine sx hx hb sd_lio_21 rfl hl (fun ls hl => ?_)
  refine sx hx hb sd_lio_22 rfl hl (fun ls hl => ?_)
  refine sx hx hb sd_lio_23 rfl hl (fun ls hl => ?_)
  refine sx (pc' := 29) hx hb sd_lio_24 (by
    show some ((if (0 : Int32) < nI (ts_len.getD i 0) then 29 else 24 + 3 : Nat), _, _) = _
    rw [if_pos (show (0 : Int32) < nI (ts_len.getD i 0) from (nI_lt (a := 0) k2 k3 : nI 0 < nI (ts_len.getD i 0)))]) hl (fun ls hl => ?_)
  refine sx hx hb sd_lio_29 rfl hl (fun ls hl => ?_)
  refine sx hx hb sd_lio_30 rfl hl (fun ls hl => ?_)
  refine sx hx hb sd_lio_31 rfl hl (fun ls hl => ?_)
  refine sx hx hb sd_lio_32 rfl hl (fun ls hl => ?_)
  refine sx_callS (As := [.ref (adV i), .int (nI q), .int 0, .int (nI (ts_len.getD i 0))]) (rest := []) S hG va_S.rf (sv_ioc hi hq) sw_ioc si_ioc (tb_w_of (p := 649) (by decide +kernel)) ss_ioc sy_ioc rfl rfl ⟨by decide, by decide⟩ hl.1 (Nat.le_of_ble_eq_true rfl) (Nat.zero_le _) (Nat.zero_le _) sd_lio_33 ?_
  exact W.zret hx hb hr rfl (fun t ht hW => ⟨rfl, ht⟩) (fun q hq => nomatch hq) sd_lio_36
theorem sv_io2 {i q : Nat} (hi : i < 19) (hq : q < 256) : Met l sn_io2 (Cond.code sn_io2 prog_23_method_80_code 3 (some .int) :: tb_T) (k2_rm 2 90) (sx_P A adK adV [.ref (adK i), .int (nI q), .int 0]) (sx_Q (some (.int (sv_f (nI q) (ts_byt.getD i []) 0)))) 0 0 (fun _ => False) := by
  refine sx_met sf_io2 (Nat.le_of_ble_eq_true rfl) ?_
  intro p e s m below meth c ls S hr hlk hG hl
  obtain ⟨hx, hb, hml, hown, hts⟩ := id S
  refine sx hx hb sd_io2_0 rfl hl (fun ls hl => ?_)
  refine sx_callV (As := []) (rest := []) S hG va_S.rf hi (sv_lat hi) sw_lat si_lat (tb_w_of (p := 583) (by decide +kernel)) sm_lat sl_lat sy_lat rfl rfl ⟨by decide, by decide⟩ hl.1 (Nat.le_of_ble_eq_true rfl) (Nat.zero_le _) (Nat.zero_le _) sd_io2_1 ?_
  refine sx hx hb sd_io2_4 rfl hl (fun ls hl => ?_)
  refine sx hx hb sd_io2_7 rfl hl (fun ls hl => ?_)
  refine vk_getf hx hb (hG.1.1 i hi).2.2.1 va_S.rf hown (hts _ (tb_w_of (p := 1909) (by decide +kernel))) (fun _ h => h) sd_io2_8 ?_
  refine sx hx hb sd_io2_11 rfl hl (fun ls hl => ?_)
  refine sx hx hb sd_io2_12 rfl hl (fun ls hl => ?_)
  refine sx hx hb sd_io2_13 rfl hl (fun ls hl => ?_)
  refine sx_callV (As := []) (rest := [.int 0, .int (nI q), .ref (adV i)]) S hG va_S.rf hi (sv_len hi) sw_len si_len (tb_w_of (p := 638) (by decide +kernel)) sm_len sl_len sy_len rfl rfl ⟨by decide, by decide⟩ hl.1 (Nat.le_of_ble_eq_true rfl) (Nat.zero_le _) (Nat.zero_le _) sd_io2_14 ?_
  refine sx_callS (As := [.ref (adV i), .int (nI q), .int 0, .int (nI (ts_len.getD i 0))]) (rest := []) S hG va_S.rf (sv_lio hi hq) sw_lio si_lio (tb_w_of (p := 639) (by decide +kernel)) ss_lio sy_lio rfl rfl ⟨by decide, by decide⟩ hl.1 (Nat.le_of_ble_eq_true rfl) (Nat.zero_le _) (Nat.zero_le _) sd_io2_17 ?_
  refine sx hx hb sd_io2_20 rfl hl (fun ls hl => ?_)
  exact W.zret hx hb hr rfl (fun t ht hW => ⟨rfl, ht⟩) (fun q hq => nomatch hq) sd_io2_36
theorem sv_io {i q : Nat} (hi : i < 19) (hq : q < 256) : Met l sn_io (Cond.code sn_io prog_23_method_79_code 2 (some .int) :: tb_T) (k2_rm 3 112) (sx_P A adK adV [.ref (adK i), .int (nI q)]) (sx_Q (some (.int (sv_f (nI q) (ts_byt.getD i []) 0)))) 0 0 (fun _ => False) := by
  refine sx_met sf_io (Nat.le_of_ble_eq_true rfl) ?_
  intro p e s m below meth c ls S hr hlk hG hl
  obtain ⟨hx, hb, hml, hown, hts⟩ := id S
  refine sx hx hb sd_io_0 rfl hl (fun ls hl => ?_)
  refine sx hx hb sd_io_1 rfl hl (fun ls hl => ?_)
  refine sx hx hb sd_io_2 rfl hl (fun ls hl => ?_)
  refine sx_callV (As := [.int (nI q), .int 0]) (rest := []) S hG va_S.rf hi (sv_io2 hi hq) sw_io2 si_io2 (tb_w_of (p := 634) (by decide +kernel)) sm_io2 sl_io2 sy_io2 rfl rfl ⟨by decide, by decide⟩ hl.1 (Nat.le_of_ble_eq_true rfl) (Nat.zero_le _) (Nat.zero_le _) sd_io_3 ?_
  exact W.zret hx hb hr rfl (fun t ht hW => ⟨rfl, ht⟩) (fun q hq => nomatch hq) sd_io_6
end SXD
