/-! THE THROW in the abstract machine's world, a method that throws, and its call -/
/-- what the tables say of a throw: new, dup, a text, the constructor, athrow -/
def vz_gT (P : vz_P) (Ts : List Cond) : Prop := ∀ y pc E, vz_Th P y pc = some E → vz_hd P y = [] ∧ ∃ (ixn ixl ixi : Nat) (names : List String) (a : Nat), decode (vz_bc P y) pc = .ok (.new ixn, 3) ∧ decode (vz_bc P y) (pc + 3) = .ok (.dup, 1) ∧ decode (vz_bc P y) (pc + 3 + 1) = .ok (.ldc ixl, 2) ∧ decode (vz_bc P y) (pc + 3 + 1 + 2) = .ok (.invokespecial ixi, 3) ∧ decode (vz_bc P y) (pc + 3 + 1 + 2 + 3) = .ok (.athrow, 1) ∧
  vz_Kc P y ixl = some (.ref a) ∧ names.length = 2 ∧ Bundle.fit E = true ∧ (∀ n ∈ names, Bundle.fit n = true) ∧ Cond.classLink (vz_own P y) ixn E ∈ Ts ∧ Cond.instantiable E 6 ∈ Ts ∧ Cond.initialized E ∈ Ts ∧
  ∀ w ∈ Bundle.ownAtoms (vz_own P y) ixi E names, w ∈ Ts ∨ w = .isRef (.static Bundle.tN "UNASSIGNED_STACK" Bundle.steD) ∨ w = .isRef (.static Bundle.tN "SUPPRESSED_SENTINEL" Bundle.listD)
/-- what the tables say of a catch -/
def vz_gX (P : vz_P) (Ts : List Cond) : Prop := ∀ y pc t, vz_Ca P y pc = some t → (∃ ix y' n, decode (vz_bc P y) pc = .ok (.invokevirtual ix, 3) ∧ vz_Cl P y ix = some (1, y', n) ∧ Cond.methodLink (vz_own P y) ix (vz_mn P y') ∈ Ts) ∧ ∃ (a b h k : Nat), vz_hd P y = [(a, b, h, k)] ∧ a ≤ pc ∧ pc < b ∧ k ≠ 0 ∧ Cond.classLink (vz_own P y) k t.1 ∈ Ts ∧ t.2.2 < vz_ml P y ∧ ((∃ j : Fin 4, (j : Nat) = t.2.2 ∧ decode (vz_bc P y) h = .ok (.astore_n j, 1) ∧ t.2.1 = h + 1) ∨ (decode (vz_bc P y) h = .ok (.astore t.2.2, 2) ∧ t.2.1 = h + 2))
/-- the two statics that a throw reads -/
def vt_G (A : Nat → Prop) (G : State → Prop) : Prop := ∀ U, G U → va_Zq Bundle.tN "UNASSIGNED_STACK" Bundle.steD A U U.heap ∧ va_Zq Bundle.tN "SUPPRESSED_SENTINEL" Bundle.listD A U U.heap
theorem vt_isRef {C n d : String} {A : Nat → Prop} {U : State} {args : Array Value} (h : va_Zq C n d A U U.heap) : (Cond.isRef (.static C n d)).before args U = true := by
  rcases h with h | ⟨t, h⟩
  · obtain ⟨cf, kf, fi, f, a, cell, h1, h2, h3, h4, h5, h6, h7, h8⟩ := h
    simp [Cond.before, Cond.holds, Cond.value, Term.eval, State.fieldNamed?, h1, h2, h4, h5, h6, h7]
  · obtain ⟨cf, kf, fi, f, a, cell, h1, h2, h3, h4, h5, h6, h7, h8⟩ := h
    simp [Cond.before, Cond.holds, Cond.value, Term.eval, State.fieldNamed?, h1, h2, h4, h5, h6, h7]
/-- the end of a throw: the object b, of class E; what was there is as it was -/
def vt_E (s : State) (A : Nat → Prop) (H : Heap) (E : String) (b mc ms : Nat) (t : State) : Prop := s.WarmedH t.vm ∧ (∃ L : List Loc, s.sameButNew ({ t with vm := s.vm } : State) L mc ms ∧ ∀ q ∈ L, A q.base) ∧ H.size ≤ t.heap.size ∧ (∀ q, q < H.size → t.heap[q]? = H[q]?) ∧ ∃ cell : Cell, t.heap[b]? = some cell ∧ cell.vm.isStatics = false ∧ s.vm.findClass E = some cell.cls ∧ s.vm.assignable cell.cls cell.cls = true
section VTB
variable {P : vz_P} {D : va_G} {cl : List vw_C} {cc : Nat → ClassId} {τ : Nat → Nat} {Ts Ns : List Cond} {A : Nat → Prop} {b0 : Nat} {G : State → Prop} {l : Launch}
set_option maxHeartbeats 4000000 in
theorem vt_throw {p : Program} {e : Env} {R : Room} {s : State} {m : MethodId} {args : Array Value} {below : List Frame} {meth : Method} {c : Code} {H : Heap} {locs : List Loc} {cells slots d y pc : Nat} {ls : Array Slot} {st : List Value} {E : String} (gT : vz_gT P Ts) (gL : vz_gL P G τ l) (gA : vt_G A G) (hG : vz_Gm A Ns G) (hTs : ∀ w ∈ Ts, goodWord w = true) (hlt : l.stackTraces = false) (hC : vz_C P D cl cc Ts Ns y p s m args meth c) (hGs : G s) (hE : vz_Th P y pc = some E) (h8 : (st.map Value.category).sum ≤ 8) (hd : 8 ≤ d) (hdR : d ≤ R.frames) (hlR : 42 * d ≤ R.locals) (hcR : cells + 1 ≤ R.cells) (hsR : slots + 6 ≤ R.slots) (hS : va_S A s.heap H locs) (hsz : ls.size = vz_ml P y) :
    W p l e R s m args below meth c H locs cells slots (fun t => t.status = .running ∧ ∃ b, Ended t below (.threw b) ∧ vt_E s A H E b (cells + 1) (slots + 6) t) (F0 m pc ls st) := by
  obtain ⟨hx, hbb, hmL, hown, hts, hns, hK, hin, hrt, hlk, htab⟩ := hC
  obtain ⟨hhd, ixn, ixl, ixi, names, a9, d0, d3, d4, d6, d9, hKc, hnl, hfE, hfn, wc, wi, wn, wo⟩ := gT y pc E hE
  intro T hT X
  have htr : e.platform.stackTraces = false := by rw [X.admits.platform]; exact hlt
  have X2 := vt_base X (R2 := { frames := R.frames, locals := R.locals, cells := 1, slots := 6 }) (Nat.le_refl _) (Nat.le_refl _) hcR hsR
  have hts2 : ∀ w ∈ Ts, w.before args (vt_s s T) = true := fun w hw => word_at (U := vt_s s T) (State.WarmedH.refl s) (good_of_word (hTs w hw)) (hts w hw)
  have hG2 : G (vt_s s T) := hG.1 s (vt_s s T) (State.WarmedH.refl s) hGs ⟨by show s.heap.size ≤ T.heap.size; rw [hT]; exact hS.1, fun q h1 h2 => by show T.heap[q]? = s.heap[q]?; rw [hT]; exact hS.2.1 q h1 h2⟩
  obtain ⟨z1, z2⟩ := gA _ hG2
  have hown2 : (vt_s s T).vm.findClass (vz_own P y) = some m.cls := hown
  have hout : c.exceptionTable.toList = [] := by
    rw [hhd] at htab
    exact List.map_eq_nil_iff.mp htab
  have K : W p l e { frames := R.frames, locals := R.locals, cells := 1, slots := 6 } (vt_s s T) m args below meth c T.heap [] 0 0 (fun t => t.status = .running ∧ ∃ b, Ended t below (.threw b) ∧ (vt_s s T).WarmedH t.vm ∧ (vt_s s T).sameButNew ({ t with vm := s.vm } : State) [] 1 6 ∧ ∃ cell : Cell, t.heap[b]? = some cell ∧ cell.vm = .none ∧ s.vm.findClass E = some cell.cls ∧ s.vm.assignable cell.cls cell.cls = true) (F0 m pc ls st) := by
    refine W.newc (s := vt_s s T) (g := F0 m pc ls st) hx hbb hown2 (hts2 _ wc) (hts2 _ wi) (hts2 _ wn) rfl d0 ?_ ?_ ?_
    · exact Nat.le_refl 1
    · exact Nat.le_refl 6
    intro cC kC f1 f2 f3 f4
    refine lv_dup (pc := pc + 3) (ls := ls) (va := .ref T.heap.size) (rest := st) hx hbb d3 rfl ?_
    refine (gL y ixl a9 hKc).2 (s := vt_s s T) hx hbb hown2 hG2 d4 ?_
    intro T3 hT3 X3
    obtain ⟨U, hst, hrun, hend, hW, hsame, ce, hce, hoc⟩ := X3.ctorThrowS hx htr (own := vz_own P y) (cls := E) (names := names) (ic := ixi) hown2 hfE hfn
      (fun w hw => by
        rcases wo w hw with h1 | h1 | h1
        · exact hts2 w h1
        · rw [h1]; exact vt_isRef z1
        · rw [h1]; exact vt_isRef z2)
      (fun x hx => nomatch hx) (a := T.heap.size) (cX := cC) (kX := kC) f1 f2 (by rw [hT3]; simp [freshCell]) (Nat.le_refl _) (msg := .ref (τ a9)) rfl
      (g := F0 m (pc + 3 + 1 + 2) ls (.ref (τ a9) :: .ref T.heap.size :: .ref T.heap.size :: st)) rfl (hsz.trans hmL.symm) rfl rfl (rest := st) rfl (by rw [hbb]; exact d6) (by rw [hbb]; exact d9) (fun x hx => by rw [hout] at hx; cases hx)
      (by show names.length + 3 < R.frames; omega)
      (by
        show 2 * 0 + ((Value.ref T.heap.size :: st).map fun v => v.category).sum + (13 * (names.length + 1) + 42) ≤ R.locals
        rw [List.map_cons, List.sum_cons, hnl]
        have h88 : (st.map fun v => v.category).sum ≤ 8 := h8
        have h99 : (Value.ref T.heap.size).category = 1 := rfl
        omega) hlk
    exact ⟨U, hst, hrun, _, hend, hW, hsame, ce, hce, hoc.vm, hoc.cls, hoc.self⟩
  obtain ⟨t, a1, h1, b, h2, h3, h4, cell, h5, h6, h7, h9⟩ := K T rfl X2
  have hTt : ∀ q, q < T.heap.size → t.heap[q]? = T.heap[q]? := by
    intro q hq
    have hq2 : (vt_s s T).heap[q]? = some T.heap[q] := Array.getElem?_eq_getElem hq
    obtain ⟨c', k1, k2, k3, k4⟩ := h4.2.2.2.2.2 q _ hq2
    have k5 : c'.slots = (T.heap[q]).slots := by
      apply Array.ext_getElem?
      intro i
      exact k4 i (fun h => nomatch h)
    have k6 : c' = T.heap[q] := by rw [k2, k5]
    rw [show t.heap[q]? = some c' from k1, k6]
    exact (Array.getElem?_eq_getElem hq).symm
  refine ⟨t, a1, h1, b, h2, h3, ⟨locs, vt_same X h4, hS.2.2⟩, ?_, fun q hq => ?_, cell, h5, by rw [h6]; rfl, h7, h9⟩
  · rw [← hT]
    exact h4.2.1
  · rw [← hT] at hq ⊢
    exact hTt q hq
end VTB
