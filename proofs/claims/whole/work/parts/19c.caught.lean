/-! A METHOD THAT THROWS, by its contract; its call, and the catch -/
def vt_Qr (D : va_G) (cl : List vw_C) (cc : Nat → ClassId) (gr ge : vz_Gr) (τ : Nat → Nat) (A : Nat → Prop) (b L : Nat) (xs : Nat → Int32) (ρ : Nat → Nat) (μ μ' : vz_H) (E : String) (mc ms : Nat) : Array Value → State → Outcome → State → Prop :=
  fun _ st oc t => ∃ x : Addr, oc = .threw x ∧ (∃ ρ' : Nat → Nat, vz_ex ge μ.1 ρ' ρ ∧ vz_R D cl cc gr τ A b L xs ρ' μ' t.heap) ∧ va_F A st t ∧ st.WarmedH t.vm ∧ (∃ L9 : List Loc, st.sameButNew ({ t with vm := st.vm } : State) L9 mc ms ∧ ∀ q ∈ L9, A q.base) ∧ ∃ cell : Cell, t.heap[x]? = some cell ∧ cell.vm.isStatics = false ∧ st.vm.findClass E = some cell.cls ∧ st.vm.assignable cell.cls cell.cls = true
section VTC
variable {P : vz_P} {D : va_G} {cl : List vw_C} {cc : Nat → ClassId} {τ : Nat → Nat} {Ts Ns : List Cond} {A : Nat → Prop} {b0 : Nat} {G : State → Prop} {l : Launch}
set_option maxHeartbeats 4000000 in
set_option maxRecDepth 100000 in
theorem vt_met (g : vz_good P cl Ts Ns) (gT : vz_gT P Ts) (gU : vz_gU P G) (gA : vt_G A G) (hG : vz_Gm A Ns G) (hlt : l.stackTraces = false) {n : Nat} (ih : vz_St P D cl cc τ Ts Ns A b0 G l n) {d y : Nat} {As : List Value} {μ μ' : vz_H} {E : String} (hhd : vz_hd P y = []) (hrun : vz_run P n d y 0 (lv_args 0 As) [] μ = some (.inr E, μ')) (hml : (As.map Value.category).sum ≤ vz_ml P y) {b L : Nat} {xs : Nat → Int32} {ρ : Nat → Nat} (hok : vz_okS μ.1 As) :
    MetFree l (vz_mn P y) (headSpec (Cond.code (vz_mn P y) (vz_bc P y) (vz_ml P y) (vz_rt P y) :: Ts) { frames := d, cells := μ'.2.2.1 - μ.2.2.1, slots := μ'.2.2.2 - μ.2.2.2, locals := 42 * d })
      (vz_Pr D cl cc (vz_gr P) τ Ns A b0 G b L xs ρ μ As) (fun _ _ _ _ _ => True) (vt_Qr D cl cc (vz_gr P) (vz_gq (vz_gr P) y) τ A b L xs ρ μ μ' E (μ'.2.2.1 - μ.2.2.1) (μ'.2.2.2 - μ.2.2.2)) := by
  have gM := g.2.2.2.2.2.1.1 y
  refine MetFree.of_bodySF (code := vz_bc P y) (maxLocals := vz_ml P y) (ret := vz_rt P y) gM.2.1 (fun args s m h hn => ?_) ?_
  · obtain ⟨meth, c, h1, h2, h3, h4, h5, h6, -, -⟩ := Cond.code_spec hn (atoms_spec (ws := Cond.code (vz_mn P y) (vz_bc P y) (vz_ml P y) (vz_rt P y) :: Ts) h _ List.mem_cons_self)
    exact ⟨meth, c, h1, h2, h3, h4, h5, h6⟩
  intro p e s m args below meth c s₁ B hmL hv _
  obtain ⟨rfl, hb, hR, hZ, hK, hN, hGs⟩ := hv
  have h9 := B.noHandlers (atoms_spec (ws := Cond.code (vz_mn P y) (vz_bc P y) (vz_ml P y) (vz_rt P y) :: Ts) B.pre _ List.mem_cons_self)
  have hts := atoms_spec (ws := Cond.code (vz_mn P y) (vz_bc P y) (vz_ml P y) (vz_rt P y) :: Ts) B.pre
  have hown : s.vm.findClass (vz_mn P y).cls = some m.cls := findClass_of_methodNamed B.named
  have hC : vz_C P D cl cc Ts Ns y p s m (vz_ts ρ As).toArray meth c := ⟨B.exec, B.bytes, hmL, by rw [← gM.2.2.2]; exact hown, fun w hw => hts w (List.mem_cons_of_mem _ hw), hN, hK, fun h => by rw [(name_of_methodNamed B.named B.method).1]; exact gM.2.2.1 h, B.returns, B.notSynchronized, by rw [hhd, Array.isEmpty_iff.mp h9]; rfl⟩
  have hl := lv_entry (vz_ts ρ As) (n := vz_ml P y) (by rw [vz_sl, vz_cats]; exact hml)
  have K : W p l e (headSpec (Cond.code (vz_mn P y) (vz_bc P y) (vz_ml P y) (vz_rt P y) :: Ts) { frames := d, cells := μ'.2.2.1 - μ.2.2.1, slots := μ'.2.2.2 - μ.2.2.2, locals := 42 * d }).room s m (vz_ts ρ As).toArray below meth c s.heap [] 0 0 (fun t => t.status = .running ∧ ∃ x, Ended t below (.threw x) ∧ vt_Qr D cl cc (vz_gr P) (vz_gq (vz_gr P) y) τ A b L xs ρ μ μ' E (μ'.2.2.1 - μ.2.2.1) (μ'.2.2.2 - μ.2.2.2) (vz_ts ρ As).toArray s (.threw x) t) (entryFrame m (vz_ts ρ As).toArray (vz_ml P y)) := by
    rw [lg_entry_eq]
    generalize (lg_sl (vz_ts ρ As) ++ List.replicate (vz_ml P y - (lg_sl (vz_ts ρ As)).length) Slot.unset).toArray = ls at hl ⊢
    rw [vz_args_t] at hl
    refine ih d y 0 (lv_args 0 As) [] μ (.inr E) μ' hrun hC hZ hb hGs (Nat.le_refl _) (Nat.le_refl _) (Nat.le_refl _) (Nat.le_refl _) (Nat.zero_add _) (Nat.zero_add _) hR va_S.rf hl (fun w hw => nomatch hw) (vz_okA As 0 hok) (fun H' locs' ρ' ls' pc' i' v h => nomatch h) ?_
    intro H' locs' ρ' ls' pc' cells' slots' st' E' hE' hTh h8 h88 hc1 hs1 hρ hR' hS' hsz
    cases hE'
    intro T hT X
    obtain ⟨t, a1, h1, x, h2, w1, ⟨L9, w2, w3⟩, w4, w5, cell, w6⟩ := vt_throw gT gU gA hG g.2.2.2.2.2.1.2 hlt hC hGs hTh h88 h8 (Nat.le_refl d) (Nat.le_refl (42 * d)) (Nat.le_of_eq hc1) (Nat.le_of_eq hs1) hS' hsz T hT X
    refine ⟨t, a1, h1, x, h2, x, rfl, ⟨ρ', hρ, hR'.1.kept (fun k q hq => w5 q.1 (hR'.1 k q hq).lt), hR'.2⟩, ⟨Nat.le_trans hS'.1 w4, fun q k1 k2 => ?_⟩, w1, ⟨L9, by
      have h7 : cells' + 1 = μ'.2.2.1 - μ.2.2.1 := hc1
      have h9 : slots' + 6 = μ'.2.2.2 - μ.2.2.2 := hs1
      rw [← h7, ← h9]
      exact w2, w3⟩, cell, w6⟩
    rw [w5 q (Nat.lt_of_lt_of_le k1 hS'.1)]
    exact hS'.2.1 q k1 k2
  have hh0 : s₁.heap = s.heap := by rw [B.state]; rfl
  obtain ⟨t, a1, h1, x, h2, h3⟩ := K s₁ hh0 (Stand.of_body B)
  exact ⟨t, _, a1, h1, h2, h3⟩
set_option maxHeartbeats 4000000 in
set_option maxRecDepth 100000 in
theorem vt_Xc (g : vz_good P cl Ts Ns) (gT : vz_gT P Ts) (gX : vz_gX P Ts) (gU : vz_gU P G) (gA : vt_G A G) (hG : vz_Gm A Ns G) (hlt : l.stackTraces = false) : vz_Xc P D cl cc τ Ts Ns A b0 G l := by
  intro n ih y y' j pc i st As rest E t lv μ μ1 p e R s m args below meth c H locs cells slots Q ls b L xs ρ hC hZ hb hGs hdc hk h8 hml hrun hCa htE hjR hlR hcR hsR hR hS hl hos kk
  obtain ⟨⟨ix0, y0, n0, hdv, hcl0, hlk0⟩, a0, bb, hh, k0, hhd, q1, q2, q3, q4, q5, q6⟩ := gX y pc t hCa
  obtain ⟨hx, hbb, hmL, hown, hts, hns, hK, hin, hrt, hlk, htab⟩ := id hC
  have hi : i = .invokevirtual ix0 := by
    have h9 := hdc.symm.trans hdv
    cases h9
    rfl
  rcases hk with ⟨ix, k9, na, e9, -⟩ | ⟨ix, na, a, As0, o, e9, hcl, hlen, rfl, rfl, ho, hci⟩ | ⟨ix, na, a, As0, e9, -⟩
  · rw [hi] at e9
    cases e9
  · rw [hi] at e9
    cases e9
    have h0 := hcl.symm.trans hcl0
    cases h0
    obtain ⟨w1, w2, w3, w4, w5, w6, w7, w8⟩ := g.2.2.2.2.2.2.1 y ix0 1 y' n0 hcl (by decide)
    obtain ⟨u1, u2, T9, N9, u3⟩ := w7 rfl
    have gM := g.2.2.2.2.2.1.1 y'
    have hokA : vz_okS μ.1 (.ref a :: As0) := fun w hw => by
      rcases List.mem_cons.mp hw with h1 | h1
      · rw [h1]; exact hos _ (List.mem_append_right _ List.mem_cons_self)
      · exact hos w (List.mem_append_left _ (List.mem_reverse.mpr h1))
    have hM := vt_met (b := b) (L := L) (xs := xs) (ρ := ρ) g gT gU gA hG hlt ih w1.2 hrun hml hokA
    have hP := vz_pre (P := P) (As := .ref a :: As0) hG hZ hb hGs hK hns hR hS
    have he := vz_R_obj (cc := cc) (ρ := ρ) ho
    rw [hci] at he
    obtain ⟨cellB, hcB, hoB, hclB⟩ := va_recv hK hR.1 u3 he
    have h8' : ((vz_ts ρ rest).map fun v => v.category).sum ≤ 8 := by
      show ((vz_ts ρ rest).map Value.category).sum ≤ 8
      rw [vz_cats]; exact h8
    have hstk : (F0 m pc ls (vz_ts ρ (As0.reverse ++ .ref a :: rest))).stack = (vz_ts ρ As0).reverse ++ .ref (ρ a) :: vz_ts ρ rest := by
      show List.map (vz_t ρ) (As0.reverse ++ .ref a :: rest) = _
      rw [List.map_append, List.map_reverse]
      rfl
    have hla : (vz_ts ρ As0).length = n0 := by unfold vz_ts; rw [List.length_map]; exact hlen
    intro T hT X
    obtain ⟨mk, methM, hnamed, hmethM, hstM, habM⟩ := Cond.instanceMethod_spec (hts _ u1)
    obtain ⟨methM', cM, hmethM', hcM, -, hlM, -, -, -, hsigM⟩ := Cond.code_spec hnamed (hts _ w1.1)
    cases hmethM.symm.trans hmethM'
    obtain ⟨c2, r2, m2, s1, s2, s3, s4, kP, hkP, hkPi⟩ := Cond.selects_spec (hts _ u2)
    cases hclB.symm.trans s1
    cases (State.methodFound?_of_named hnamed w3).symm.trans s2
    cases hnamed.symm.trans s3
    have hselP : selectMethod e.platform s.vm cellB.cls mk = .method mk := by rw [Launch.admits_selectMethod X.admits]; exact s4
    have hl9 : (vz_ts ρ As0).length = methM.sig.parameters.length := by
      rw [hsigM] at w4
      exact hla.trans (Option.some.inj w4).symm
    obtain ⟨vm₁, X₁, hstep₁⟩ := X.invokevirtual hx hown (hts _ hlk0) hnamed hmethM hstM hkP hkPi w3 (a := ρ a) (cell := cellB) (by rw [hT]; exact hcB)
      (fun z h => by rw [h] at hoB; cases hoB) hselP hmethM habM hkP hkPi (g := F0 m pc ls (vz_ts ρ (As0.reverse ++ .ref a :: rest))) rfl (argsL := vz_ts ρ As0) (rest := vz_ts ρ rest) hl9 hstk (by rw [hbb]; exact hdv)
    have hnm1 := X₁.named hnamed
    have hal1 := X₁.warmed.alike
    obtain ⟨kY, hkY, -⟩ := className_of_methodNamed hnm1
    have hws : ∀ w ∈ Cond.code (vz_mn P y') (vz_bc P y') (vz_ml P y') (vz_rt P y') :: Ts, ∀ (a' : Array Value), w.before a' (T.setVm vm₁) = true := by
      intro w hw a'
      have hw2 : w ∈ Ts := by
        rcases List.mem_cons.mp hw with h1 | h1
        · rw [h1]; exact w1.1
        · exact h1
      exact word_at (U := T.setVm vm₁) X₁.warmed (good_of_word (g.2.2.2.2.2.1.2 w hw2)) (hts w hw2)
    have hinitY : kY.init = .initialized := Cond.initialized_spec (findClass_of_methodNamed hnm1) hkY (word_at (a' := args) (U := T.setVm vm₁) X₁.warmed (good_of_word (g.2.2.2.2.2.1.2 _ w2)) (hts _ w2))
    have hm1 : (T.setVm vm₁).vm.method? mk = some methM := by
      rw [hal1.method?]; exact hmethM
    have hAt : At (T.setVm vm₁) ({ F0 m pc ls (vz_ts ρ (As0.reverse ++ .ref a :: rest)) with stack := vz_ts ρ rest } : JFrame).method c below := X₁.here
    have happ := Spec.appliesLoose_calling (S := headSpec (Cond.code (vz_mn P y') (vz_bc P y') (vz_ml P y') (vz_rt P y') :: Ts) { frames := j, cells := μ1.2.2.1 - μ.2.2.1, slots := μ1.2.2.2 - μ.2.2.2, locals := 42 * j }) (g := ({ F0 m pc ls (vz_ts ρ (As0.reverse ++ .ref a :: rest)) with stack := vz_ts ρ rest } : JFrame)) (args := (Value.ref (ρ a) :: vz_ts ρ As0).toArray) hAt (by rw [hbb]; exact hdv) hnm1 hkY hinitY
      (X₁.room_calling (g := ({ F0 m pc ls (vz_ts ρ (As0.reverse ++ .ref a :: rest)) with stack := vz_ts ρ rest } : JFrame)) (R' := { frames := j, cells := μ1.2.2.1 - μ.2.2.1, slots := μ1.2.2.2 - μ.2.2.2, locals := 42 * j }) (hl.1.trans hmL.symm) hm1 hcM hjR (by
        rw [hlM]
        show 2 * 0 + ((vz_ts ρ rest).map fun v => v.category).sum + (vz_ml P y' + 11) + 42 * j ≤ R.locals
        have := gM.1
        omega) hcR hsR) (atoms_intro fun w hw => hws w hw _)
    obtain ⟨mid, hmid⟩ := hAt.above
    obtain ⟨g₀, hg0⟩ := Option.isSome_iff_exists.mp hAt.top
    obtain ⟨r, hr⟩ := State.topJava?_eq_some.mp hg0
    have hfr : ((T.setVm vm₁).setTop ({ F0 m pc ls (vz_ts ρ (As0.reverse ++ .ref a :: rest)) with stack := vz_ts ρ rest } : JFrame)).frames = (.java ({ F0 m pc ls (vz_ts ρ (As0.reverse ++ .ref a :: rest)) with stack := vz_ts ρ rest } : JFrame) :: mid) ++ below := by rw [State.frames_setTop' _ hAt.top, hmid]; rfl
    obtain ⟨o9, s₂, hsteps, -, hend, hq⟩ := Steps.callFree hM p X.admits X.cas X.clock (acts := []) hfr happ (hP.1 _ _ _ _ (hP.2 (T.setVm vm₁) hT X₁.warmed)) trivial
    obtain ⟨x, rfl, ⟨ρ', hρ, hR'⟩, hF, hW₂, ⟨L9, hsm, hL9⟩, cell, c1, c2, c3, c4⟩ := hq
    have hW' : (T.setVm vm₁).WarmedH s₂.vm := hW₂
    have hsame : (T.setVm vm₁).sameButNew ({ T.setVm vm₁ with heap := s₂.heap, slotsUsed := s₂.slotsUsed } : State) L9 (μ1.2.2.1 - μ.2.2.1) (μ1.2.2.2 - μ.2.2.2) := by
      obtain ⟨-, q2, q3, q4, q5, q6⟩ := id hsm
      refine ⟨?_, q2, q3, q4, q5, q6⟩
      obtain ⟨t9, ht9, -⟩ := State.frames_cons hr
      show ({ T.setVm vm₁ with heap := s₂.heap, slotsUsed := s₂.slotsUsed } : State) = { (T.setVm vm₁).setFrames (T.setVm vm₁).frames with heap := s₂.heap, slotsUsed := s₂.slotsUsed }
      rw [State.setFrames_self ht9]
    have X' : Stand p l e R s m args below meth c (({ T.setVm vm₁ with heap := s₂.heap, slotsUsed := s₂.slotsUsed } : State).setVm s₂.vm) (locs ++ L9) (cells + (μ1.2.2.1 - μ.2.2.1)) (slots + (μ1.2.2.2 - μ.2.2.2)) :=
      ⟨X₁.admits, X₁.cas, X₁.clock, X₁.frames, X₁.room, X₁.hears, X₁.method, X₁.code, (X₁.here.setHeapUsed s₂.heap s₂.slotsUsed).setVm hW'.alike, X₁.tail, State.WarmedH.trans X₁.warmed hW', X₁.limits, X₁.bytes, X₁.same.trans (hsame.setVm s.vm)⟩
    have hs₂ : s₂ = ((({ T.setVm vm₁ with heap := s₂.heap, slotsUsed := s₂.slotsUsed } : State).setVm s₂.vm).setTop ({ F0 m pc ls (vz_ts ρ (As0.reverse ++ .ref a :: rest)) with stack := vz_ts ρ rest } : JFrame)).pushFrame (.throwing x) := by
      have e2 := hsm.1
      have e3 : s₂ = ({ ((T.setVm vm₁).calling ({ F0 m pc ls (vz_ts ρ (As0.reverse ++ .ref a :: rest)) with stack := vz_ts ρ rest } : JFrame) mk (Value.ref (ρ a) :: vz_ts ρ As0).toArray).setFrames s₂.frames with heap := s₂.heap, slotsUsed := s₂.slotsUsed } : State).setVm s₂.vm := by
        have h9 : s₂ = ({ s₂ with vm := (T.setVm vm₁).vm } : State).setVm s₂.vm := rfl
        refine h9.trans ?_
        exact congrArg (fun z : State => z.setVm s₂.vm) e2
      have hr' : (({ T.setVm vm₁ with heap := s₂.heap, slotsUsed := s₂.slotsUsed } : State).setVm s₂.vm).frames = .java g₀ :: r := hr
      have hend' : s₂.frames = .throwing x :: ((T.setVm vm₁).setTop ({ F0 m pc ls (vz_ts ρ (As0.reverse ++ .ref a :: rest)) with stack := vz_ts ρ rest } : JFrame)).frames := hend
      refine e3.trans ?_
      rw [State.pushFrame, State.frames_setTop _ hr', State.setTop_of_frames _ hr', State.setFrames_setFrames, hend', State.frames_setTop _ hr, State.calling_eq hAt.top, State.setFrames_setFrames]
      rfl
    obtain ⟨x0, htab2, z1, z2, z3, z4⟩ : ∃ x0 : ExceptionTableEntry, c.exceptionTable.toList = [x0] ∧ x0.startPc = a0 ∧ x0.endPc = bb ∧ x0.handlerPc = hh ∧ x0.catchType = k0 := by
      rw [hhd] at htab
      obtain ⟨x0, h1, h2⟩ := List.map_eq_singleton_iff.mp htab
      cases h2
      exact ⟨x0, h1, rfl, rfl, rfl, rfl⟩
    have hk9 : s.vm.findClass t.1 = some cell.cls := by
      rw [htE, ← hal1.findClass]
      exact c3
    have hfit9 : s.vm.assignable cell.cls cell.cls = true := by
      rw [← hal1.assignable]
      exact c4
    obtain ⟨vm₂, X'', hstep₂⟩ := vt_catch X' x (g := ({ F0 m pc ls (vz_ts ρ (As0.reverse ++ .ref a :: rest)) with stack := vz_ts ρ rest } : JFrame)) rfl hown htab2
      (by
        show (decide (x0.startPc ≤ pc) && decide (pc < x0.endPc)) = true
        rw [z1, z2, decide_eq_true q1, decide_eq_true q2]
        rfl) (by rw [z4]; exact q3) (by rw [z4]; exact hts _ q4) hk9 c1 c2 hfit9
    have hS1 : va_S A s.heap s₂.heap (locs ++ L9) := by
      have hF1 : H.size ≤ s₂.heap.size := by rw [← hT]; exact hF.1
      refine ⟨Nat.le_trans hS.1 hF1, fun q k1 k2 => ?_, fun q hq => ?_⟩
      · have h7 : s₂.heap[q]? = T.heap[q]? := hF.2 q (by show q < T.heap.size; rw [hT]; exact Nat.lt_of_lt_of_le k1 hS.1) k2
        rw [h7, hT]
        exact hS.2.1 q k1 k2
      · rcases List.mem_append.mp hq with h | h
        · exact hS.2.2 q h
        · exact hL9 q h
    have K2 : W p l e R s m args below meth c s₂.heap (locs ++ L9) (cells + (μ1.2.2.1 - μ.2.2.1)) (slots + (μ1.2.2.2 - μ.2.2.2)) Q (F0 m hh ls [.ref x]) := by
      have hsub : ∀ ls' : Array Slot, lv_has ls' (vz_ml P y) ((t.2.2, Value.ref x) :: (vz_tl ρ lv).filter (fun q => !(q.1 == t.2.2) && !(q.1 + 1 == t.2.2 && q.2.category == 2))) → lv_has ls' (vz_ml P y) (vz_tl ρ (lv.filter (fun q => !(q.1 == t.2.2) && !(q.1 + 1 == t.2.2 && q.2.category == 2)))) := by
        intro ls' h
        refine ⟨h.1, h.2.1, fun q hq => h.2.2 q (List.mem_cons_of_mem _ ?_)⟩
        have e9 := vz_tl_s1 ρ lv t.2.2 .null
        have e8 : (vz_tl ρ lv).filter (fun q => !(q.1 == t.2.2) && !(q.1 + 1 == t.2.2 && q.2.category == 2)) = vz_tl ρ (lv.filter (fun q => !(q.1 == t.2.2) && !(q.1 + 1 == t.2.2 && q.2.category == 2))) := (List.cons.inj e9).2
        rw [e8]
        exact hq
      rcases q6 with ⟨jj, j1, j2, j3⟩ | ⟨j2, j3⟩
      · refine lv_astore_n hx hbb j2 j1 hl q5 rfl (fun ls' h => ?_)
        rw [← j3]
        exact kk s₂.heap (locs ++ L9) ρ' ls' hρ hR' hS1 (hsub ls' h)
      · refine lv_astore hx hbb j2 hl q5 rfl (fun ls' h => ?_)
        rw [← j3]
        exact kk s₂.heap (locs ++ L9) ρ' ls' hρ hR' hS1 (hsub ls' h)
    obtain ⟨tt, st2, hQ⟩ := (fun hT9 => K2 _ hT9 X'') rfl
    refine ⟨tt, hstep₁ _ fun acts => ?_, hQ⟩
    rw [doInvoke_state]
    refine hsteps.trans ?_
    rw [hs₂]
    refine hstep₂ tt ?_
    rw [z3]
    exact st2
  · rw [hi] at e9
    cases e9
end VTC
