/-! THE TEXTS: the Strings that the claim gives, in its order; the words on them -/
def ts_k : List (String × Nat × String) := [("GameText$Words", 64, "const var bool formula max min init stay target true false least most "), ("GameText$Words", 77, "<>=+-*/%&|!?:;,()'"), ("GameText", 92, "n is not 0 .. 20"), ("GameText", 97, "there are not twenty characters"), ("GameText", 128, "there is no text"), ("GameText", 151, "there is no such state or var"), ("GameTextModel", 163, "const"), ("GameTextModel", 169, "var"), ("GameTextModel", 171, "bool"), ("GameTextModel", 173, "formula"), ("GameTextModel", 175, "false"), ("GameTextModel", 177, "max"), ("GameTextModel", 179, "min"), ("GameTextModel", 181, "most"), ("GameTextModel", 183, "init"), ("GameTextModel", 185, "stay"), ("GameTextModel", 187, "target"), ("GameTextModel", 189, "true"), ("GameTextModel", 191, "least")]
def ts_own (i : Nat) : String := (ts_k.getD i ("", 0, "")).1
def ts_in (i : Nat) : Nat := (ts_k.getD i ("", 0, "")).2.1
def ts_tx (i : Nat) : String := (ts_k.getD i ("", 0, "")).2.2
def ts_len : List Nat := [70, 18, 16, 31, 16, 29, 5, 3, 4, 7, 5, 3, 3, 4, 4, 4, 6, 4, 5]
def ts_byt : List (List Int32) := [[99, 111, 110, 115, 116, 32, 118, 97, 114, 32, 98, 111, 111, 108, 32, 102, 111, 114, 109, 117, 108, 97, 32, 109, 97, 120, 32, 109, 105, 110, 32, 105, 110, 105, 116, 32, 115, 116, 97, 121, 32, 116, 97, 114, 103, 101, 116, 32, 116, 114, 117, 101, 32, 102, 97, 108, 115, 101, 32, 108, 101, 97, 115, 116, 32, 109, 111, 115, 116, 32], [60, 62, 61, 43, 45, 42, 47, 37, 38, 124, 33, 63, 58, 59, 44, 40, 41, 39], [110, 32, 105, 115, 32, 110, 111, 116, 32, 48, 32, 46, 46, 32, 50, 48], [116, 104, 101, 114, 101, 32, 97, 114, 101, 32, 110, 111, 116, 32, 116, 119, 101, 110, 116, 121, 32, 99, 104, 97, 114, 97, 99, 116, 101, 114, 115], [116, 104, 101, 114, 101, 32, 105, 115, 32, 110, 111, 32, 116, 101, 120, 116], [116, 104, 101, 114, 101, 32, 105, 115, 32, 110, 111, 32, 115, 117, 99, 104, 32, 115, 116, 97, 116, 101, 32, 111, 114, 32, 118, 97, 114], [99, 111, 110, 115, 116], [118, 97, 114], [98, 111, 111, 108], [102, 111, 114, 109, 117, 108, 97], [102, 97, 108, 115, 101], [109, 97, 120], [109, 105, 110], [109, 111, 115, 116], [105, 110, 105, 116], [115, 116, 97, 121], [116, 97, 114, 103, 101, 116], [116, 114, 117, 101], [108, 101, 97, 115, 116]]
/-- the place of the machine's text j -/
def ts_ix (j : Nat) : Nat := ([0, 1, 6, 7, 8, 9, 10, 11, 12, 13, 14, 15, 16, 17, 18] : List Nat).getD j 0
def ts_tau (adK : Nat → Nat) (a : Nat) : Nat := adK (ts_ix (a - vz_M0))
def ts_tm (i : Nat) : Term := .string (ts_own i) (ts_in i)
def ts_v (i : Nat) : Term := .field (ts_tm i) "java/lang/String" "value" "[B"
def ts_e0 (i : Nat) : List Cond := [.exactly (ts_tm i) "java/lang/String", .eq (.field (ts_tm i) "java/lang/String" "coder" "B") (.int 0), .arrayOf (ts_v i) .byte, .eq (.length (ts_v i)) (.int (Int32.ofNat (ts_len.getD i 0)))]
def ts_e1 (i : Nat) : List Cond := (List.range (ts_len.getD i 0)).map fun j => .eq (.elem (ts_v i) (.int (Int32.ofNat j))) (.int ((ts_byt.getD i []).getD j 0))
def ts_e2 (i : Nat) : List Cond := (List.range i).map fun k => .not (.eq (ts_tm k) (ts_tm i))
def ts_ex (i : Nat) : List Cond := ts_e0 i ++ (ts_e1 i ++ ts_e2 i)
set_option maxRecDepth 100000 in
theorem ts_pre : (flatC (Jvm.Cond.and given_1 narrow_1)).drop 56 = (List.range 19).flatMap ts_ex := by decide +kernel
theorem ts_mem {i : Nat} (hi : i < 19) {w : Cond} (h : w ∈ ts_ex i) : w ∈ flatC (Jvm.Cond.and given_1 narrow_1) := List.mem_of_mem_drop (i := 56) (by rw [ts_pre]; exact List.mem_flatMap.mpr ⟨i, List.mem_range.mpr hi, h⟩)
theorem ts_start {args : Array Value} {s : State} {A : Nat → Prop} (hg : (Jvm.Cond.and given_1 narrow_1).before args s = true) (hA : ∀ a : Nat, a < s.heap.size → ¬ A a) : ∃ adK adV : Nat → Nat, vk_S 19 ts_len ts_byt adK adV A s s.heap ∧ ∀ i : Nat, i < 19 → (ts_tm i).eval args s none [] s = some (.ref (adK i)) := by
  have hs := flat_of_before _ hg
  have h0 : ∀ i, i < 19 → ∀ w ∈ ts_e0 i, w.before args s = true := fun i hi w hw => hs _ (ts_mem hi (List.mem_append_left _ hw))
  refine vk_Sof (by decide +kernel) (fun i hi => h0 i hi _ (by simp [ts_e0])) (fun i hi => h0 i hi _ (by simp [ts_e0])) (fun i hi => h0 i hi _ (by simp [ts_e0, ts_v])) (fun i hi => h0 i hi _ (by simp [ts_e0, ts_v])) (fun i hi j hj => ?_) (fun i j hi hj hij => ?_) hA
  · exact hs _ (ts_mem hi (List.mem_append_right _ (List.mem_append_left _ (List.mem_map.mpr ⟨j, List.mem_range.mpr hj, rfl⟩))))
  · have hlt : i < j ∨ j < i := by omega
    rcases hlt with h | h
    · exact Or.inl (hs _ (ts_mem hj (List.mem_append_right _ (List.mem_append_right _ (List.mem_map.mpr ⟨i, List.mem_range.mpr h, rfl⟩)))))
    · exact Or.inr (hs _ (ts_mem hi (List.mem_append_right _ (List.mem_append_right _ (List.mem_map.mpr ⟨j, List.mem_range.mpr h, rfl⟩)))))
theorem ts_ref : ∀ i, i < 19 → tables_1[([568, 629, 1051, 1077, 1095, 1200, 1549, 1556, 1557, 1558, 1559, 1560, 1561, 1562, 1563, 1564, 1565, 1566, 1567] : List Nat).getD i 0]? = some (.stringRef (ts_own i) (ts_in i) (ts_tx i)) := by decide +kernel
/-- what is carried from frame to frame: the texts, the statics, a few words -/
def ts_G (A : Nat → Prop) (adK adV : Nat → Nat) (U : State) : Prop := vk_S 19 ts_len ts_byt adK adV A U U.heap ∧ (∀ i, i < 19 → vk_R (ts_own i) (ts_in i) (ts_tx i) (adK i) U) ∧ vt_Z Bundle.tN "UNASSIGNED_STACK" Bundle.steD A U ∧ vt_Z Bundle.tN "SUPPRESSED_SENTINEL" Bundle.listD A U ∧ (∀ w ∈ vt_xs, va_Nw w U) ∧ va_Z "java/lang/String" "COMPACT_STRINGS" "Z" (.int 1) A U U.heap ∧ va_Zq "jdk/internal/util/Preconditions" "SIOOBE_FORMATTER" "Ljava/util/function/BiFunction;" A U U.heap
theorem ts_go {A : Nat → Prop} {adK adV : Nat → Nat} {s U : State} (hW : s.WarmedH U.vm) (h : ts_G A adK adV s) (hF : va_F A s U) : ts_G A adK adV U := by
  obtain ⟨h1, h2, h3, h4, h5, h6, h7⟩ := h
  exact ⟨(vk_S.moved hW.alike h1).kept hF.2, fun i hi => (h2 i hi).warm hW, h3.go hW hF, h4.go hW hF, vt_xs_go hW h5, (va_Z.moved hW.alike h6).kept hF.2, (va_Zq.moved hW.alike h7).kept hF.2⟩
theorem ts_Gm (A : Nat → Prop) (adK adV : Nat → Nat) : vz_Gm A tb_N (ts_G A adK adV) := by
  refine ⟨fun s U hW h hF => ts_go hW h hF, fun U g mk a h => ts_go (U := U.calling g mk a) (State.WarmedH.refl U) h ⟨Nat.le_refl _, fun _ _ _ => rfl⟩, fun w hw => ?_⟩
  have hn : tb_nest w = true := (List.mem_filter.mp hw).2
  cases w <;> first | exact ⟨rfl, fun s U hW h => va_Nw.warmF hW h⟩ | exact ⟨rfl, fun s U hW h => va_Nw.warmM hW h⟩ | exact nomatch (show false = true from hn)
theorem ts_vG (A : Nat → Prop) (adK adV : Nat → Nat) : vt_G A (ts_G A adK adV) := fun U h => ⟨h.2.2.1, h.2.2.2.1, h.2.2.2.2.1⟩
theorem ts_kc : ∀ e ∈ tb_all, ∀ q ∈ e.2.2.2.2.2.1, (match q.2 with
  | .ref a => decide (vz_M0 ≤ a) && (decide (ts_ix (a - vz_M0) < 19) && (decide (ts_own (ts_ix (a - vz_M0)) = e.1.1) && decide (ts_in (ts_ix (a - vz_M0)) = q.1)))
  | _ => true) = true := by decide +kernel
theorem ts_gL {A : Nat → Prop} {adK adV : Nat → Nat} {l : Launch} : vz_gL P0 (ts_G A adK adV) (ts_tau adK) l := by
  intro y ix a h
  have hm := vz_lk_mem (show vz_lk (tb_at y).2.2.2.2.2.1 ix = some (.ref a) from h)
  have h2 := ts_kc _ (tb_out (fun e => e.2.2.2.2.2.1) rfl rfl hm) _ hm
  simp only [Bool.and_eq_true, decide_eq_true_eq] at h2
  obtain ⟨k1, k2, k3, k4⟩ := h2
  refine ⟨k1, ?_⟩
  intro p e R s m args below meth c H locs cells slots Q pc ls rest hx hb hown hG hd kk
  have hr := hG.2.1 _ k2
  rw [k3, k4] at hr
  exact va_ldcS hx hb hown hr hd kk
theorem ts_gU (A : Nat → Prop) (adK adV : Nat → Nat) : vz_gU P0 (ts_G A adK adV) := by
  intro y pc E h ixl hd U hG
  obtain ⟨h1, h2⟩ := tt_th h
  simp only [List.mem_cons, List.not_mem_nil, or_false] at h1
  rcases h1 with rfl | rfl | rfl
  · have h2 : (pc, E) ∈ tE_105.2.2.2.2.2.2.1 := h2
    unfold tE_105 at h2
    simp only [List.mem_cons, List.not_mem_nil, or_false, Prod.mk.injEq] at h2
    rcases h2 with ⟨rfl, rfl⟩ | ⟨rfl, rfl⟩
    · have h3 := hd.symm.trans tt_d_105_10.2.2.1
      cases h3
      exact ⟨_, _, hG.2.1 2 (by decide)⟩
    · have h3 := hd.symm.trans tt_d_105_32.2.2.1
      cases h3
      exact ⟨_, _, hG.2.1 3 (by decide)⟩
  · have h2 : (pc, E) ∈ tE_107.2.2.2.2.2.2.1 := h2
    unfold tE_107 at h2
    simp only [List.mem_cons, List.not_mem_nil, or_false, Prod.mk.injEq] at h2
    rcases h2 with ⟨rfl, rfl⟩
    · have h3 := hd.symm.trans tt_d_107_7.2.2.1
      cases h3
      exact ⟨_, _, hG.2.1 4 (by decide)⟩
  · have h2 : (pc, E) ∈ tE_126.2.2.2.2.2.2.1 := h2
    unfold tE_126 at h2
    simp only [List.mem_cons, List.not_mem_nil, or_false, Prod.mk.injEq] at h2
    rcases h2 with ⟨rfl, rfl⟩
    · have h3 := hd.symm.trans tt_d_126_26.2.2.1
      cases h3
      exact ⟨_, _, hG.2.1 5 (by decide)⟩
