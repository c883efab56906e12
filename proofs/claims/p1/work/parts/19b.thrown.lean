/-! THE THROW in the abstract machine's world, a method that throws, and its call -/
/-- the words on the two statics that a throw reads: they are of the heap too -/
def vt_ws : List Cond := [.isRef (.static Bundle.tN "UNASSIGNED_STACK" Bundle.steD), .isRef (.static Bundle.tN "SUPPRESSED_SENTINEL" Bundle.listD), .laysStatic Bundle.tN "UNASSIGNED_STACK" Bundle.steD, .laysStatic Bundle.tN "SUPPRESSED_SENTINEL" Bundle.listD]
/-- words on the tables that aren't carried on by themselves -/
def vt_xs : List Cond := [.declares (Bundle.initS "java/lang/RuntimeException"), .declares (Bundle.initS "java/lang/Exception"), .declares (Bundle.initS Bundle.tN), .castable "java/lang/IllegalArgumentException" "java/lang/IllegalArgumentException", .castable "java/lang/IllegalStateException" "java/lang/IllegalStateException", .castable "java/lang/IndexOutOfBoundsException" "java/lang/IndexOutOfBoundsException"]
theorem vt_xs_on : ∀ w ∈ vt_xs, w.onTables = true := by decide +kernel
theorem vt_xs_go {s U : State} (hW : s.WarmedH U.vm) (h : ∀ w ∈ vt_xs, va_Nw w s) : ∀ w ∈ vt_xs, va_Nw w U :=
  List.forall_mem_cons.mpr ⟨va_Nw.warmD hW (h _ (by simp [vt_xs])), List.forall_mem_cons.mpr ⟨va_Nw.warmD hW (h _ (by simp [vt_xs])), List.forall_mem_cons.mpr ⟨va_Nw.warmD hW (h _ (by simp [vt_xs])), List.forall_mem_cons.mpr ⟨va_Nw.warmC hW (h _ (by simp [vt_xs])), List.forall_mem_cons.mpr ⟨va_Nw.warmC hW (h _ (by simp [vt_xs])), List.forall_mem_cons.mpr ⟨va_Nw.warmC hW (h _ (by simp [vt_xs])), fun _ h => absurd h List.not_mem_nil⟩⟩⟩⟩⟩⟩
/-- what the tables say of a throw: new, dup, a text, the constructor, athrow -/
def vz_gT (P : vz_P) (Ts : List Cond) : Prop := ∀ y pc E, vz_Th P y pc = some E → vz_hd P y = [] ∧ ∃ (ixn ixl ixi : Nat) (names : List String), decode (vz_bc P y) pc = .ok (.new ixn, 3) ∧ decode (vz_bc P y) (pc + 3) = .ok (.dup, 1) ∧ decode (vz_bc P y) (pc + 3 + 1) = .ok (.ldc ixl, 2) ∧ decode (vz_bc P y) (pc + 3 + 1 + 2) = .ok (.invokespecial ixi, 3) ∧ decode (vz_bc P y) (pc + 3 + 1 + 2 + 3) = .ok (.athrow, 1) ∧
  names.length = 2 ∧ Bundle.fit E = true ∧ (∀ n ∈ names, Bundle.fit n = true) ∧ Cond.classLink (vz_own P y) ixn E ∈ Ts ∧ Cond.instantiable E 6 ∈ Ts ∧ Cond.initialized E ∈ Ts ∧
  ∀ w ∈ Bundle.ownAtoms (vz_own P y) ixi E names, w ∈ Ts ∨ w ∈ vt_ws ∨ w ∈ vt_xs
/-- the texts of the throws, loaded -/
def vz_gU (P : vz_P) (G : State → Prop) : Prop := ∀ y pc E, vz_Th P y pc = some E → ∀ ixl, decode (vz_bc P y) (pc + 3 + 1) = .ok (.ldc ixl, 2) → ∀ U, G U → ∃ tx q, vk_R (vz_own P y) ixl tx q U
/-- what the tables say of a catch -/
def vz_gX (P : vz_P) (Ts : List Cond) : Prop := ∀ y pc t, vz_Ca P y pc = some t → (∃ ix y' n, decode (vz_bc P y) pc = .ok (.invokevirtual ix, 3) ∧ vz_Cl P y ix = some (1, y', n) ∧ Cond.methodLink (vz_own P y) ix (vz_mn P y') ∈ Ts) ∧ ∃ (a b h k : Nat), vz_hd P y = [(a, b, h, k)] ∧ a ≤ pc ∧ pc < b ∧ k ≠ 0 ∧ Cond.classLink (vz_own P y) k t.1 ∈ Ts ∧ t.2.2 < vz_ml P y ∧ ((∃ j : Fin 4, (j : Nat) = t.2.2 ∧ decode (vz_bc P y) h = .ok (.astore_n j, 1) ∧ t.2.1 = h + 1) ∨ (decode (vz_bc P y) h = .ok (.astore t.2.2, 2) ∧ t.2.1 = h + 2))
/-- a static that holds a reference or null, in a cell outside A -/
def vt_Z (C n d : String) (A : Nat → Prop) (U : State) : Prop := ∃ (c : ClassId) (k : Class) (i : Nat) (f : Field) (a : Nat) (cell : Cell) (v : Value), U.vm.findClass C = some c ∧ U.fieldFound? C n d = some (c, k, i, f) ∧ f.isStatic = true ∧ k.statics = some a ∧ U.heap[a]? = some cell ∧ cell.vm.isStatics = true ∧ cell.cls = c ∧ f.slot < cell.slots.size ∧ k.staticTypes[f.slot]? = some f.type ∧ cell.slots[f.slot]? = some v ∧ (v = .null ∨ ∃ t, v = .ref t) ∧ ¬ A a
theorem vt_Z.isRef {C n d : String} {A : Nat → Prop} {U : State} {args : Array Value} (h : vt_Z C n d A U) : (Cond.isRef (.static C n d)).before args U = true := by
  obtain ⟨c, k, i, f, a, cell, v, h1, h2, h3, h4, h5, h6, h7, h8, h9, h10, h11 | ⟨t, h11⟩, h12⟩ := h
  · simp [Cond.before, Cond.holds, Cond.value, Term.eval, State.fieldNamed?, h2, h3, h4, h5, h6, h10, h11]
  · simp [Cond.before, Cond.holds, Cond.value, Term.eval, State.fieldNamed?, h2, h3, h4, h5, h6, h10, h11]
theorem vt_Z.lays {C n d : String} {A : Nat → Prop} {U : State} {args : Array Value} (h : vt_Z C n d A U) : (Cond.laysStatic C n d).before args U = true := by
  obtain ⟨c, k, i, f, a, cell, v, h1, h2, h3, h4, h5, h6, h7, h8, h9, -⟩ := h
  simp [Cond.before, Cond.holds, Cond.value, h1, h2, h3, h4, h5, h6, h7, h8, h9]
theorem vt_Z.go {C n d : String} {A : Nat → Prop} {s U : State} (h : vt_Z C n d A s) (hW : s.WarmedH U.vm) (hF : va_F A s U) : vt_Z C n d A U := by
  obtain ⟨c, k, i, f, a, cell, v, h1, h2, h3, h4, h5, h6, h7, h8, h9, h10, h11, h12⟩ := h
  obtain ⟨k', hi', he⟩ := State.fieldFound?_setVm hW.alike h2
  exact ⟨c, k', i, f, a, cell, v, by rw [hW.alike.findClass]; exact h1, hi', h3, by rw [he]; exact h4, by rw [hF.2 a (Array.getElem?_eq_some_iff.mp h5).1 h12]; exact h5, h6, h7, h8, by rw [he]; exact h9, h10, h11, h12⟩
theorem vt_Zof {args : Array Value} {s : State} {C n d : String} {A : Nat → Prop} (hl : (Cond.laysStatic C n d).before args s = true) (h : (Cond.isRef (.static C n d)).before args s = true) (hA : ∀ a : Nat, a < s.heap.size → ¬ A a) : vt_Z C n d A s := by
  obtain ⟨c, k, i, f, a, cell, hc, hi, hst, ha, hcell, hs, hcls, hlt, hty⟩ := Cond.laysStatic_spec hl
  cases hv : (Term.static C n d).eval args s none [] s with
  | none => simp [Cond.before, Cond.holds, Cond.value, hv] at h
  | some w =>
    obtain ⟨hst', a', cell', ha', hcell', -, hslot⟩ := Term.static_spec hi hv
    cases ha.symm.trans ha'
    cases hcell.symm.trans hcell'
    simp only [Cond.before, Cond.holds, Cond.value, hv] at h
    refine ⟨c, k, i, f, a, cell, w, hc, hi, hst, ha, hcell, hs, hcls, hlt, hty, hslot, ?_, hA a (Array.getElem?_eq_some_iff.mp hcell).1⟩
    cases w with
    | null => exact Or.inl rfl
    | ref t => exact Or.inr ⟨t, rfl⟩
    | _ => simp at h
/-- the two statics that a throw reads -/
def vt_G (A : Nat → Prop) (G : State → Prop) : Prop := ∀ U, G U → vt_Z Bundle.tN "UNASSIGNED_STACK" Bundle.steD A U ∧ vt_Z Bundle.tN "SUPPRESSED_SENTINEL" Bundle.listD A U ∧ ∀ w ∈ vt_xs, va_Nw w U
theorem vt_use {A : Nat → Prop} {U : State} {args : Array Value} (z1 : vt_Z Bundle.tN "UNASSIGNED_STACK" Bundle.steD A U) (z2 : vt_Z Bundle.tN "SUPPRESSED_SENTINEL" Bundle.listD A U) : ∀ w ∈ vt_ws, w.before args U = true :=
  List.forall_mem_cons.mpr ⟨z1.isRef, List.forall_mem_cons.mpr ⟨z2.isRef, List.forall_mem_cons.mpr ⟨z1.lays, List.forall_mem_cons.mpr ⟨z2.lays, fun _ h => absurd h List.not_mem_nil⟩⟩⟩⟩
/-- the end of a throw: the object b, of class E; what was there is as it was -/
def vt_E (s : State) (A : Nat → Prop) (H : Heap) (E : String) (b mc ms : Nat) (t : State) : Prop := s.WarmedH t.vm ∧ (∃ L : List Loc, s.sameButNew ({ t with vm := s.vm } : State) L mc ms ∧ ∀ q ∈ L, A q.base) ∧ H.size ≤ t.heap.size ∧ (∀ q, q < H.size → t.heap[q]? = H[q]?) ∧ ∃ cell : Cell, t.heap[b]? = some cell ∧ cell.vm.isStatics = false ∧ s.vm.findClass E = some cell.cls ∧ s.vm.assignable cell.cls cell.cls = true
section VTB
variable {P : vz_P} {D : va_G} {cl : List vw_C} {cc : Nat → ClassId} {τ : Nat → Nat} {Ts Ns : List Cond} {A : Nat → Prop} {b0 : Nat} {G : State → Prop} {l : Launch}
set_option maxHeartbeats 4000000 in
theorem vt_throw {p : Program} {e : Env} {R : Room} {s : State} {m : MethodId} {args : Array Value} {below : List Frame} {meth : Method} {c : Code} {H : Heap} {locs : List Loc} {cells slots d y pc : Nat} {ls : Array Slot} {st : List Value} {E : String} (gT : vz_gT P Ts) (gU : vz_gU P G) (gA : vt_G A G) (hG : vz_Gm A Ns G) (hTs : ∀ w ∈ Ts, goodWord w = true) (hlt : l.stackTraces = false) (hC : vz_C P D cl cc Ts Ns y p s m args meth c) (hGs : G s) (hE : vz_Th P y pc = some E) (h8 : (st.map Value.category).sum ≤ 8) (hd : 8 ≤ d) (hdR : d ≤ R.frames) (hlR : 42 * d ≤ R.locals) (hcR : cells + 1 ≤ R.cells) (hsR : slots + 6 ≤ R.slots) (hS : va_S A s.heap H locs) (hsz : ls.size = vz_ml P y) :
    W p l e R s m args below meth c H locs cells slots (fun t => t.status = .running ∧ ∃ b, Ended t below (.threw b) ∧ vt_E s A H E b (cells + 1) (slots + 6) t) (F0 m pc ls st) := by
  obtain ⟨hx, hbb, hmL, hown, hts, hns, hK, hin, hrt, hlk, htab⟩ := hC
  obtain ⟨hhd, ixn, ixl, ixi, names, d0, d3, d4, d6, d9, hnl, hfE, hfn, wc, wi, wn, wo⟩ := gT y pc E hE
  intro T hT X
  have htr : e.platform.stackTraces = false := by rw [X.admits.platform]; exact hlt
  have X2 := vt_base X (R2 := { frames := R.frames, locals := R.locals, cells := 1, slots := 6 }) (Nat.le_refl _) (Nat.le_refl _) hcR hsR
  have hts2 : ∀ w ∈ Ts, w.before args (vt_s s T) = true := fun w hw => word_at (U := vt_s s T) (State.WarmedH.refl s) (good_of_word (hTs w hw)) (hts w hw)
  have hG2 : G (vt_s s T) := hG.1 s (vt_s s T) (State.WarmedH.refl s) hGs ⟨by show s.heap.size ≤ T.heap.size; rw [hT]; exact hS.1, fun q h1 h2 => by show T.heap[q]? = s.heap[q]?; rw [hT]; exact hS.2.1 q h1 h2⟩
  obtain ⟨z1, z2, z3⟩ := gA _ hG2
  obtain ⟨tx, q9, hvk⟩ := gU y pc E hE ixl d4 _ hG2
  have hown2 : (vt_s s T).vm.findClass (vz_own P y) = some m.cls := hown
  have hout : c.exceptionTable.toList = [] := by
    rw [hhd] at htab
    exact List.map_eq_nil_iff.mp htab
  have K : W p l e { frames := R.frames, locals := R.locals, cells := 1, slots := 6 } (vt_s s T) m args below meth c T.heap [] 0 0 (fun t => t.status = .running ∧ ∃ b, Ended t below (.threw b) ∧ (vt_s s T).WarmedH t.vm ∧ (vt_s s T).sameButNew ({ t with vm := s.vm } : State) [] 1 6 ∧ ∃ cell : Cell, t.heap[b]? = some cell ∧ cell.vm = .none ∧ s.vm.findClass E = some cell.cls ∧ s.vm.assignable cell.cls cell.cls = true) (F0 m pc ls st) := by
    refine W.newc (s := vt_s s T) (g := F0 m pc ls st) hx hbb hown2 (hts2 _ wc) (hts2 _ wi) (hts2 _ wn) rfl d0 ?_ ?_ ?_
    · exact Nat.le_refl 1
    · exact Nat.le_refl 6
    intro cC kC f1 f2 f3 f4
    refine lv_dup (pc := pc + 3) (ls := ls) (va := .ref T.heap.size) (rest := st) hx hbb d3 rfl ?_
    refine va_ldcS (s := vt_s s T) (pc := pc + 3 + 1) hx hbb hown2 hvk d4 ?_
    intro T3 hT3 X3
    obtain ⟨U, hst, hrun, hend, hW, hsame, ce, hce, hoc⟩ := X3.ctorThrowS hx htr (own := vz_own P y) (cls := E) (names := names) (ic := ixi) hown2 hfE hfn
      (fun w hw => by
        rcases wo w hw with h1 | h1 | h1
        · exact hts2 w h1
        · exact vt_use z1 z2 w h1
        · exact va_Nw.use (vt_xs_on w h1) (z3 w h1))
      (fun x hx => nomatch hx) (a := T.heap.size) (cX := cC) (kX := kC) f1 f2 (by rw [hT3]; simp [freshCell]) (Nat.le_refl _) (msg := .ref q9) rfl
      (g := F0 m (pc + 3 + 1 + 2) ls (.ref q9 :: .ref T.heap.size :: .ref T.heap.size :: st)) rfl (hsz.trans hmL.symm) rfl rfl (rest := st) rfl (by rw [hbb]; exact d6) (by rw [hbb]; exact d9) (fun x hx => by rw [hout] at hx; cases hx)
      (by show names.length + 3 < R.frames; omega)
      (by
        show 2 * 0 + ((Value.ref T.heap.size :: st).map fun v => v.category).sum + (13 * (names.length + 1) + 42) ≤ R.locals
        rw [List.map_cons, List.sum_cons, hnl]
        have h88 : (st.map fun v => v.category).sum ≤ 8 := h8
        have h99 : (Value.ref T.heap.size).category = 1 := rfl
        omega) hlk
    exact ⟨U, hst, hrun, _, hend, hW, hsame, ce, hce, hoc.vm, hoc.cls, hoc.self⟩
  obtain ⟨t, a1, h1, b, h2, h3, h4, cell, h5, h6, h7, h9⟩ := K T rfl X2
  have hTt : ∀ q, q < T.heap.size → t.heap[q]? = T.heap[q]? := by
    intro q hq
    have hq2 : (vt_s s T).heap[q]? = some T.heap[q] := Array.getElem?_eq_getElem hq
    obtain ⟨c', k1, k2, k3, k4⟩ := h4.2.2.2.2.2 q _ hq2
    have k5 : c'.slots = (T.heap[q]).slots := by
      apply Array.ext_getElem?
      intro i
      exact k4 i (fun h => nomatch h)
    have k6 : c' = T.heap[q] := by rw [k2, k5]
    rw [show t.heap[q]? = some c' from k1, k6]
    exact (Array.getElem?_eq_getElem hq).symm
  refine ⟨t, a1, h1, b, h2, h3, ⟨locs, vt_same X h4, hS.2.2⟩, ?_, fun q hq => ?_, cell, h5, by rw [h6]; rfl, h7, h9⟩
  · rw [← hT]
    exact h4.2.1
  · rw [← hT] at hq ⊢
    exact hTt q hq
end VTB
