/-! THE CLAIM OUT OF ONE WALK OF THE LAW'S BODY. Your part is whole_start (and what it stands on); all else here is the same for every law, but numbers. -/
def R_law : String := "GameTextLaw"
def lw_P (b : Addr) (xs : List Int32) (args : Array Value) (s : State) : Prop := args = #[.ref b] ∧ s.IntsAt b xs ∧ xs.length ≤ 6 ∧ (Jvm.Cond.and given_1 narrow_1).before args s = true
def lw_Q (_ : Array Value) (s : State) (o : Outcome) (t : State) : Prop := o = .returned (some (.int 1)) ∧ Framed s o t [] room_1.cells room_1.slots
def lw_Z (below : List Frame) (a : Array Value) (s : State) : State → Prop := fun t => ∃ o, t.status = .running ∧ Ended t below o ∧ lw_Q a s o t
/-- the law's own end, with 1 on the stack, nothing written that was there before, its room as the claim has it -/
theorem lw_ret {p : Program} {l : Launch} {e : Env} {s : State} {m : MethodId} {below : List Frame} {meth : Method} {c : Code} {b : Nat} (hx : p.tables.exec = Jvm.exec) (hb : c.code = code) (hr : meth.sig.returnType = ret) (hlocks : meth.locks = false) {pc : Nat} {H : Heap} {ls : Array Slot} (hdg : decode code pc = .ok (.ireturn, 1)) : W p l e room_1 s m #[Value.ref b] below meth c H [] room_1.cells room_1.slots (lw_Z below #[Value.ref b] s) (F0 m pc ls [.int 1]) := by
  intro T hT X
  obtain ⟨fs, hret, hrun, hended, hW, hframe⟩ := X.leave (v := some (.int 1)) (hlocks := hlocks) (fun h => by rw [hr] at h; cases h)
  have hmeth' : T.vm.method? m = some meth := X.method'
  refine ⟨T.setFrames fs, ?_, .returned (some (.int 1)), hrun, hended, rfl, ⟨_, rfl⟩, hW, hframe⟩
  jvm_step X.here [X.here.top, hx, hb, hdg, hmeth', hr, ret, narrow_b1]
  (try refine ⟨rfl, ?_⟩); (try refine ⟨rfl, ?_⟩)
  first | (intro acts; rw [hret _ acts rfl rfl rfl]) | rw [hret _ _ rfl rfl rfl]
  exact Steps.refl _
/-- what holds at the law's entry: the machine, the code, the tables' words (any of lw_tbl by 'hts w (by decide +kernel)'), the script of L ints xs at the cell b, what the Statement gives of the start (any of its parts by flat_of_before) -/
def lw_At (p : Program) (s : State) (m : MethodId) (meth : Method) (c : Code) (b L : Nat) (xs : Nat → Int32) : Prop :=
  p.tables.exec = Jvm.exec ∧ c.code = code ∧ meth.sig.returnType = ret ∧ c.maxLocals = 7 ∧ s.vm.findClass R_law = some m.cls ∧ (∀ w ∈ lw_tbl, w.before #[Value.ref b] s = true) ∧ va_X b L xs s s.heap ∧ b < s.heap.size ∧ meth.locks = false ∧ (Jvm.Cond.and given_1 narrow_1).before #[Value.ref b] s = true
theorem tk_ins : ∀ q ∈ tb_cl, Cond.instantiable q.1 q.2.2 ∈ tb_T := by
  intro q hq
  unfold tb_cl at hq
  simp only [List.mem_cons, List.not_mem_nil, or_false] at hq
  rcases hq with rfl | rfl | rfl | rfl | rfl | rfl | rfl | rfl | rfl | rfl | rfl | rfl | rfl
  · exact tb_w_of (p := 29) (by decide +kernel)
  · exact tb_w_of (p := 37) (by decide +kernel)
  · exact tb_w_of (p := 75) (by decide +kernel)
  · exact tb_w_of (p := 81) (by decide +kernel)
  · exact tb_w_of (p := 209) (by decide +kernel)
  · exact tb_w_of (p := 267) (by decide +kernel)
  · exact tb_w_of (p := 305) (by decide +kernel)
  · exact tb_w_of (p := 311) (by decide +kernel)
  · exact tb_w_of (p := 381) (by decide +kernel)
  · exact tb_w_of (p := 440) (by decide +kernel)
  · exact tb_w_of (p := 1208) (by decide +kernel)
  · exact tb_w_of (p := 1214) (by decide +kernel)
  · exact tb_w_of (p := 1230) (by decide +kernel)
theorem vs_cls {s : State} {args : Array Value} (hts : ∀ w ∈ tb_T, w.before args s = true) : ∃ D : va_G, ∀ (c : Nat) (q : vw_C), tb_cl[c]? = some q → u_Kn s q.1 q.2.1 q.2.2 (D.1 c) (D.2 c) := by
  have h : ∀ c : Nat, ∃ r : ClassId × (Nat → Nat), ∀ q, tb_cl[c]? = some q → u_Kn s q.1 q.2.1 q.2.2 r.1 r.2 := by
    intro c
    cases hq : tb_cl[c]? with
    | none => exact ⟨((0 : Nat), fun _ => 0), fun q h => nomatch h⟩
    | some q =>
      obtain ⟨cC, iS, hk⟩ := u_known hts (tk_cl q (List.mem_of_getElem? hq)).1 (hts _ (tk_ins q (List.mem_of_getElem? hq)))
      exact ⟨(cC, iS), fun q' h => by cases h; exact hk⟩
  obtain ⟨r, hr⟩ := Classical.axiomOfChoice h
  exact ⟨(fun c => (r c).1, fun c => (r c).2), fun c q hq => hr c q hq⟩
theorem vs_tys {s : State} {args : Array Value} (hts : ∀ w ∈ tb_T, w.before args s = true) : ∃ cc : Nat → ClassId, ∀ (k : Nat) (q : ClassId × FieldType), (vz_tys cc)[k]? = some q → ArrOfT s q.1 q.2 ∧ va_RA s q.1 q.2 := by
  obtain ⟨a0, k0, p0, f0, g0, h0⟩ := Cond.arrayClass_spec (hts _ tg_A.1)
  obtain ⟨a1, k1, p1, f1, g1, h1⟩ := Cond.arrayClass_spec (hts _ tg_A.2.1)
  obtain ⟨a2, k2, p2, f2, g2, h2⟩ := Cond.arrayClass_spec (hts _ tg_A.2.2)
  refine ⟨fun k => match k with
    | 0 => a0
    | 1 => a1
    | _ => a2, fun k q hk => ?_⟩
  match k, hk with
  | 0, hk => cases hk; exact ⟨fun n z => ⟨fun k h => (by cases h), k0, g0, p0, h0⟩, f0⟩
  | 1, hk => cases hk; exact ⟨fun n z => ⟨fun k h => (by cases h), k1, g1, p1, h1⟩, f1⟩
  | 2, hk => cases hk; exact ⟨fun n z => ⟨fun k h => (by cases h), k2, g2, p2, h2⟩, f2⟩
  | k + 3, hk => cases hk
theorem vs_in {p : Nat} {w : Cond} (h : tables_1[p]? = some w) : w ∈ lw_tbl := List.mem_append_right _ (List.mem_of_getElem? h)
/-- the abstract machine's start: no cell but the script -/
def vs_0 (L : Nat) (xs : Nat → Int32) : vz_H := (0, fun _ => .inl (0, L, .inl xs), 0, 0)
/-- what is left to show: the abstract machine, from its start, ends with 1, and within the room -/
def vs_Ends : Prop := ∀ (L : Nat) (xs : Nat → Int32), L ≤ 6 → ∃ (n : Nat) (μ : vz_H), vz_run P0 n 15 0 0 [(0, .ref 0)] [] (vs_0 L xs) = some (.inl (some (.int 1)), μ) ∧ μ.2.2.1 ≤ 600000 ∧ μ.2.2.2 ≤ 7000000
set_option maxHeartbeats 4000000 in
set_option maxRecDepth 100000 in
theorem vs_open {p : Program} {e : Env} {s : State} {m : MethodId} {below : List Frame} {meth : Method} {c : Code} (l : Launch) (hlt : l.stackTraces = false) {b L : Nat} {xs : Nat → Int32} (hL : L ≤ 6) (C0 : lw_At p s m meth c b L xs) (htab : c.exceptionTable.toList = [])
    (hBc : ∀ (D : va_G) (cc : Nat → ClassId) (A : Nat → Prop) (adK adV : Nat → Nat), vz_Bc P0 D tb_cl cc (ts_tau adK) tb_T tb_N A (ts_G A adK adV) l) (hends : vs_Ends) : W p l e room_1 s m #[Value.ref b] below meth c s.heap [] 0 0 (lw_Z below #[Value.ref b] s) (entryFrame m ([Value.ref b] : List Value).toArray 7) := by
  obtain ⟨hx, hb, hr, hml, hown, hts0, hX, hbl, hlk, hgv⟩ := C0
  have hs := flat_of_before _ hgv
  have hts : ∀ w ∈ tb_T, w.before #[Value.ref b] s = true := fun w hw => hts0 w (List.mem_filter.mp hw).1
  have hA : ∀ a : Nat, a < s.heap.size → ¬ (fun q => s.heap.size ≤ q) a := fun a h h2 => absurd h (Nat.not_lt.mpr h2)
  obtain ⟨adK, adV, hS0, hev⟩ := ts_start (A := fun q => s.heap.size ≤ q) hgv hA
  obtain ⟨D, hD⟩ := vs_cls hts
  obtain ⟨cc, hcc⟩ := vs_tys hts
  have hGm := ts_Gm (fun q => s.heap.size ≤ q) adK adV
  have hns : ∀ w ∈ tb_N, va_Nw w s ∧ w.onTables = true := fun w hw => ⟨va_Nw.of (hGm.2.2 w hw).1 (hts0 w (List.mem_filter.mp hw).1), (hGm.2.2 w hw).1⟩
  have hxs : ∀ w ∈ vt_xs, w ∈ lw_tbl := List.forall_mem_cons.mpr ⟨vs_in (p := 1014) (by decide +kernel), List.forall_mem_cons.mpr ⟨vs_in (p := 1016) (by decide +kernel), List.forall_mem_cons.mpr ⟨vs_in (p := 1018) (by decide +kernel), List.forall_mem_cons.mpr ⟨vs_in (p := 1012) (by decide +kernel), List.forall_mem_cons.mpr ⟨vs_in (p := 1088) (by decide +kernel), List.forall_mem_cons.mpr ⟨vs_in (p := 1193) (by decide +kernel), fun _ h => absurd h List.not_mem_nil⟩⟩⟩⟩⟩⟩
  have hG : ts_G (fun q => s.heap.size ≤ q) adK adV s := ⟨hS0, fun i hi => vk_R.of (hts0 _ (vs_in (ts_ref i hi))) (hev i hi),
    vt_Zof (hts0 _ (vs_in (p := 1037) (by decide +kernel))) (hs _ (List.mem_of_getElem? (i := 9) (by decide +kernel))) hA,
    vt_Zof (hts0 _ (vs_in (p := 1039) (by decide +kernel))) (hs _ (List.mem_of_getElem? (i := 10) (by decide +kernel))) hA,
    fun w hw => va_Nw.of (vt_xs_on w hw) (hts0 w (hxs w hw)),
    va_Zof (hts0 _ (vs_in (p := 578) (by decide +kernel))) (hts0 _ (vs_in (p := 21) (by decide +kernel))) (va_eqi (hs _ (List.mem_of_getElem? (i := 4) (by decide +kernel)))) hA,
    va_Zqof (hts0 _ (vs_in (p := 594) (by decide +kernel))) (hts0 _ (vs_in (p := 23) (by decide +kernel))) (hs _ (List.mem_of_getElem? (i := 5) (by decide +kernel))) hA⟩
  obtain ⟨n, μ, hrun, hc1, hc2⟩ := hends L xs hL
  have hc1 : μ.2.2.1 ≤ room_1.cells := Nat.le_trans hc1 (by decide)
  have hc2 : μ.2.2.2 ≤ room_1.slots := Nat.le_trans hc2 (by decide)
  have St := vz_main (D := D) (cc := cc) (A := fun q => s.heap.size ≤ q) (b0 := s.heap.size) (l := l) tg_good ts_gL tg_Y tg_G hGm (fun q h => h) (vt_Xc tg_good tg_T tg_X (ts_gU _ adK adV) (ts_vG _ adK adV) hGm hlt) (hBc D cc _ adK adV) tm_Bs n
  have hC : vz_C P0 D tb_cl cc tb_T tb_N 0 p s m #[Value.ref b] meth c := ⟨hx, hb, hml, hown, hts, hns, ⟨hD, hcc⟩, (fun h => nomatch (show false = true from h)), hr, hlk, by rw [htab]; rfl⟩
  have hl := lv_entry [Value.ref b] (n := 7) (by show 1 ≤ 7; decide)
  have hR : vz_R D tb_cl cc (vz_gr P0) (ts_tau adK) (fun q => s.heap.size ≤ q) b L xs (fun a => if vz_M0 ≤ a then ts_tau adK a else b) (vs_0 L xs) s.heap := by
    refine ⟨fun k q h => (nomatch (show ([] : va_W)[k]? = some q from h)), ⟨fun i j x y h => (nomatch (show ([] : va_W)[i]? = some x from h)), fun k q h => (nomatch (show ([] : va_W)[k]? = some q from h))⟩, ⟨by show 0 < vz_M0; decide, fun a h0 h1 => absurd h0 (Nat.not_lt.mpr h1)⟩, ?_, rfl, fun a ha => if_pos ha⟩
    show (if vz_M0 ≤ 0 then ts_tau adK 0 else b) = b
    rw [if_neg (by decide)]
  rw [lg_entry_eq]
  generalize (lg_sl [Value.ref b] ++ List.replicate (7 - (lg_sl [Value.ref b]).length) Slot.unset).toArray = ls at hl ⊢
  refine St 15 0 0 [(0, .ref 0)] [] (vs_0 L xs) (.inl (some (.int 1))) μ hrun (b := b) (L := L) (xs := xs) (ρ := fun a => if vz_M0 ≤ a then ts_tau adK a else b) (mc := μ.2.2.1) (ms := μ.2.2.2) hC ⟨hX, hbl, hA b hbl⟩ (Nat.le_refl _) hG (by decide) (by decide) hc1 hc2 (by show 0 + (μ.2.2.1 - 0) = μ.2.2.1; omega) (by show 0 + (μ.2.2.2 - 0) = μ.2.2.2; omega)
    hR va_S.rf ?_ (fun w hw => nomatch hw) ?_ ?_ (fun H' locs' ρ' ls' pc' c' s' st' E h => nomatch h)
  · have e1 : vz_tl (fun a => if vz_M0 ≤ a then ts_tau adK a else b) [(0, .ref 0)] = lv_args 0 [Value.ref b] := by
      show [(0, Value.ref (if vz_M0 ≤ 0 then ts_tau adK 0 else b))] = [(0, Value.ref b)]
      rw [if_neg (by decide)]
    rw [e1]
    exact hl
  · intro q hq
    have hq : q = (0, Value.ref 0) := by simpa using hq
    rw [hq]
    intro a ha
    cases ha
    exact Or.inl (Nat.le_refl _)
  · intro H' locs' ρ' ls' pc' i' v hv hdc hret _ _ hS' _
    cases hv
    obtain ⟨rfl, -⟩ := hret
    exact va_forget (fun q hq => hS'.2.2 q hq) (W.widen hc1 hc2 (lw_ret hx hb hr hlk hdc))
