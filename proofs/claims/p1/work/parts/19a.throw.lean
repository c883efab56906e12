/-! THROWS. A state's heap taken as the start's; the throw itself; the catch -/
section VTA
variable {p : Program} {l : Launch} {e : Env} {R : Room} {s : State} {m : MethodId} {args : Array Value} {below : List Frame} {meth : Method} {c : Code} {T : State} {locs : List Loc} {cells slots : Nat}
/-- the start, with the heap that is there now -/
def vt_s (s T : State) : State := { s with heap := T.heap, slotsUsed := T.slotsUsed }
theorem vt_base (X : Stand p l e R s m args below meth c T locs cells slots) {R2 : Room} (hf : R2.frames ≤ R.frames) (hl : R2.locals ≤ R.locals) (hc : cells + R2.cells ≤ R.cells) (hs : slots + R2.slots ≤ R.slots) : Stand p l e R2 (vt_s s T) m args below meth c T [] 0 0 := by
  have hroom := X.room
  have hz := X.heapSize
  have hu := X.used
  have hbk := X.book
  refine ⟨X.admits, X.cas, X.clock, X.frames, ?_, X.hears, X.method, X.code, X.here, X.tail, X.warmed, X.limits, X.bytes, ?_⟩
  · simp only [State.hasRoom, Bool.and_eq_true, decide_eq_true_eq] at hroom ⊢
    obtain ⟨⟨⟨⟨r0, r1, r2, r3, r4, r5⟩, r6⟩, r7⟩, r8⟩ := hroom
    have e1 : (vt_s s T).localsInUse = s.localsInUse := rfl
    have e2 : (vt_s s T).frames = s.frames := rfl
    have e3 : (vt_s s T).me = s.me := rfl
    have e4 : (vt_s s T).heap = T.heap := rfl
    have e5 : (vt_s s T).slotsUsed = T.slotsUsed := rfl
    rw [e1, e2, e3, e4, e5]
    exact ⟨⟨⟨⟨by omega, by omega, by omega, by omega, by omega, r5⟩, by omega⟩, by omega⟩, hbk⟩
  · have h1 := X.same.1
    have e : T.heap.toList.drop T.heap.size = [] := by rw [List.drop_eq_nil_iff]; simp
    refine ⟨h1, Nat.le_refl _, Nat.le_refl _, ?_, ?_, fun a c h => ⟨c, h, rfl, rfl, fun _ _ => rfl⟩⟩
    · show T.slotsUsed = T.slotsUsed + ((T.heap.toList.drop T.heap.size).map (·.slots.size)).sum
      rw [e]
      rfl
    · show ((T.heap.toList.drop T.heap.size).map (·.slots.size)).sum ≤ 0
      rw [e]
      exact Nat.le_refl _
/-- what was so of the later start is so of the first -/
theorem vt_same (X : Stand p l e R s m args below meth c T locs cells slots) {U : State} {k n : Nat} (h : (vt_s s T).sameButNew ({ U with vm := s.vm } : State) [] k n) : s.sameButNew ({ U with vm := s.vm } : State) locs (cells + k) (slots + n) := by
  obtain ⟨e1, e2⟩ := h
  have h2 : (T.setVm s.vm).sameButNew ({ U with vm := s.vm } : State) [] k n := by
    refine ⟨?_, e2⟩
    have h3 : T.setVm s.vm = (vt_s s T).setFrames (T.setVm s.vm).frames := X.same.1
    have h4 : ∀ F : List Frame, (vt_s s T).setFrames F = (T.setVm s.vm).setFrames F := fun F => by
      rw [h3, State.setFrames_setFrames]
    exact e1.trans (congrArg (fun z : State => ({ z with heap := U.heap, slotsUsed := U.slotsUsed } : State)) (h4 _))
  have h4 := X.same.trans h2
  rw [List.append_nil] at h4
  exact h4
/-- the catch: the method's one entry, its class linked now or before -/
theorem vt_find {Q : Handler → Pre} {E : CtlPost} {d : Bool} {acts : List Action} {u : State} {f : JFrame} {a : Addr} {x : ExceptionTableEntry} {k : ClassId} {cell : Cell} (hm : u.vm.method? f.method = some meth) (hc : meth.code = some c) (htab : c.exceptionTable.toList = [x]) (hx : covers x f.pc = true) (h0 : x.catchType ≠ 0) (hl : u.vm.ClassLinks e.platform f.method.cls x.catchType k) (hcell : u.heap[a]? = some cell) (hobj : ∀ z, cell.vm ≠ .statics z)
    (hk1 : ∃ z, u.vm.classes[cell.cls]? = some z) (hk2 : ∃ z, u.vm.classes[k]? = some z) (hfit : u.vm.assignable cell.cls k = true) :
    wp (findHandler f a) Q E e d acts u ↔ Q (.found x.handlerPc) d acts (u.setVm (u.vm.noted f.method.cls x.catchType (.cls k))) := by
  rw [W.findHandler_eq hm hc, htab]
  simp only [covers] at hx
  have hal : u.vm.Alike (u.vm.noted f.method.cls x.catchType (.cls k)) := (Vm.Alike.refl u.vm).noted _ _ _
  obtain ⟨o1, o2⟩ := (resolveClass_links e.toSetting hl).op (op := VmOp.resolveClass f.method.cls x.catchType) rfl
  obtain ⟨z1, hz1⟩ := hk1
  obtain ⟨z2, hz2⟩ := hk2
  obtain ⟨y1, hy1, -⟩ := hal.2.2 _ _ hz1
  obtain ⟨y2, hy2, -⟩ := hal.2.2 _ _ hz2
  have hf2 : (u.vm.noted f.method.cls x.catchType (.cls k)).assignable cell.cls k = true := by rw [hal.assignable]; exact hfit
  simp [findHandler.go, hx, h0, o1, o2, hcell, hobj, hy1, hy2, hf2, VmOp.dirties, VmOp.acts]
theorem vt_catch (X : Stand p l e R s m args below meth c T locs cells slots) (a : Addr) {g : JFrame} (hg : g.method = m) {own name : String} (hown : s.vm.findClass own = some m.cls) {x : ExceptionTableEntry} (htab : c.exceptionTable.toList = [x]) (hx : covers x g.pc = true) (h0 : x.catchType ≠ 0) (hlink : (Cond.classLink own x.catchType name).before args s = true) {k : ClassId} {cell : Cell} (hk : s.vm.findClass name = some k) (hcell : T.heap[a]? = some cell) (hobj : cell.vm.isStatics = false) (hfit : s.vm.assignable cell.cls k = true) :
    ∃ vm', Stand p l e R s m args below meth c (T.setVm vm') locs cells slots ∧ ∀ target, Steps p.tables e below ((T.setVm vm').setTop { g with pc := x.handlerPc, stack := [.ref a] }) target → Steps p.tables e below ((T.setTop g).pushFrame (.throwing a)) target := by
  have hpl : e.platform.magicAccessors = ({} : Platform).magicAccessors := by rw [X.admits.platform]
  obtain ⟨k', hk', hcl⟩ := Cond.classLink_spec hown hlink e.platform hpl
  cases hk.symm.trans hk'
  obtain ⟨dk, _, _, kt, hd, _, _, _, _, hkt, _, hopen⟩ := hcl.here
  have hcl0 := X.warmed.classLinks hcl
  have hW : s.WarmedH (T.vm.noted m.cls x.catchType (.cls k)) := X.warmed.noted hd hopen (State.rightAt_cls hcl)
  have hal := X.warmed.alike
  obtain ⟨kt', hkt', -⟩ := hal.2.2 _ _ hkt
  have hfit' : T.vm.assignable cell.cls k = true := by rw [hal.assignable]; exact hfit
  refine ⟨_, X.noted hW, fun target hrest => ?_⟩
  subst hg
  have h := X.here
  obtain ⟨hgo, hw⟩ := h.throwing a
  refine Steps.head hgo hw ?_
  have hvm : ((T.setTop g).pushFrame (.throwing a)).vm = T.vm := Stand.throwing_vm T g a
  have hhp : ((T.setTop g).pushFrame (.throwing a)).heap = T.heap := Stand.throwing_heap T g a
  have hst : (stepThrowing e ((T.setTop g).pushFrame (.throwing a)) a (.java g :: T.frames.tail)).Is ((((T.setTop g).pushFrame (.throwing a)).setVm (T.vm.noted g.method.cls x.catchType (.cls k))).setFrames (.java { g with pc := x.handlerPc, stack := [.ref a] } :: T.frames.tail)) [] := by
    simp only [stepThrowing, searchFrame, vmDo]
    generalize hr : Sem.go _ e false [] ((T.setTop g).pushFrame (.throwing a)) = res
    obtain ⟨as, rfl, ha⟩ := Sem.eq_ok_of hr (a := Handler.found x.handlerPc) (s' := ((T.setTop g).pushFrame (.throwing a)).setVm (T.vm.noted g.method.cls x.catchType (.cls k))) (acts' := []) (by
      have h9 := fun (Q : Handler → Pre) (E : CtlPost) (d : Bool) (acts : List Action) => vt_find (Q := Q) (E := E) (d := d) (acts := acts) (e := e) (u := (T.setTop g).pushFrame (.throwing a)) (f := g) (a := a) (x := x) (k := k) (cell := cell) (by rw [hvm]; exact X.method') X.code htab hx h0 (by rw [hvm]; exact hcl0) (by rw [hhp]; exact hcell) (VmData.ne_statics_of hobj) (by rw [hvm]; exact Vm.classAt_of_assignable hfit' ⟨kt', hkt'⟩) (by rw [hvm]; exact ⟨kt', hkt'⟩) (by rw [hvm]; exact hfit')
      rw [hvm] at h9
      simp [h9])
    exact ⟨rfl, ha⟩
  rw [stepThread_throwing (frames_entered h.top _), hst.1]
  obtain ⟨g₀, hg0⟩ := Option.isSome_iff_exists.mp h.top
  obtain ⟨r, hr⟩ := State.topJava?_eq_some.mp hg0
  have hr' : (T.setVm (T.vm.noted g.method.cls x.catchType (.cls k))).frames = .java g₀ :: r := hr
  rw [State.setTop_of_frames _ hr'] at hrest
  have e9 : (((T.setTop g).pushFrame (.throwing a)).setVm (T.vm.noted g.method.cls x.catchType (.cls k))).setFrames (.java { g with pc := x.handlerPc, stack := [.ref a] } :: T.frames.tail) = (T.setVm (T.vm.noted g.method.cls x.catchType (.cls k))).setFrames (.java { g with pc := x.handlerPc, stack := [.ref a] } :: r) := by
    rw [hr, List.tail_cons, State.pushFrame, State.setTop_of_frames _ hr]
    have h1 : ∀ (u : State) (F G : List Frame) (v : Vm), ((u.setFrames F).setVm v).setFrames G = (u.setVm v).setFrames G := fun u F G v => by
      have h2 : (u.setFrames F).setVm v = (u.setVm v).setFrames F := rfl
      rw [h2, State.setFrames_setFrames]
    rw [h1, h1]
  rw [e9]
  exact hrest
end VTA
