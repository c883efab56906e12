/-! WHAT THE ABSTRACT MACHINE SAYS OF A METHOD, THE MACHINE DOES -/
def vz_gM (P : vz_P) (Ts : List Cond) : Prop := (∀ y, vz_ml P y ≤ 23 ∧ plainFor (vz_mn P y) = true ∧ (vz_ini P y = true → (vz_mn P y).name = "<init>") ∧ (vz_mn P y).cls = vz_own P y) ∧ ∀ w ∈ Ts, goodWord w = true
/-- a call's words -/
def vz_gC (P : vz_P) (cl : List vw_C) (Ts Ns : List Cond) : Prop := ∀ y ix k y' n, vz_Cl P y ix = some (k, y', n) → k < 3 →
  (Cond.code (vz_mn P y') (vz_bc P y') (vz_ml P y') (vz_rt P y') ∈ Ts ∧ vz_hd P y' = []) ∧ Cond.initialized (vz_mn P y').cls ∈ Ts ∧ ((vz_mn P y').cls ≠ "java/lang/invoke/MethodHandle" ∧ (vz_mn P y').cls ≠ "java/lang/invoke/VarHandle") ∧ (parseMethodDescriptor (vz_mn P y').desc).map (fun d => d.parameters.length) = some n ∧
  (Cond.methodLink (vz_own P y) ix (vz_mn P y') ∈ Ts ∨ ∃ host, Cond.methodLinkNest (vz_own P y) ix (vz_mn P y') host ∈ Ns) ∧
  (k = 0 → Cond.static (vz_mn P y') ∈ Ts) ∧
  (k = 1 → Cond.instanceMethod (vz_mn P y') ∈ Ts ∧ Cond.selects (vz_mn P y').cls (vz_mn P y') (vz_mn P y') ∈ Ts ∧ ∃ T N, cl[vz_ci P y']? = some ((vz_mn P y').cls, T, N)) ∧
  (k = 2 → (vz_mn P y').name = "<init>" ∧ vz_rt P y' = none ∧ Cond.instanceMethod (vz_mn P y') ∈ Ts)
def vz_gO (P : vz_P) (Ts : List Cond) : Prop := ∀ y ix y' n, vz_Cl P y ix = some (3, y', n) → Cond.methodLink (vz_own P y) ix Lib.objectInit ∈ Ts ∧ Cond.instanceMethod Lib.objectInit ∈ Ts ∧ Cond.code Lib.objectInit ⟨#[0xb1]⟩ 1 none ∈ Ts
/-- a call of a method with an exception table -/
def vz_gW (P : vz_P) (Ts : List Cond) : Prop := ∀ y ix y' n, vz_Cl P y ix = some (9, y', n) → Cond.codeWith (vz_mn P y') (vz_bc P y') (vz_ml P y') (vz_rt P y') (vz_hd P y') ∈ Ts ∧ Cond.initialized (vz_mn P y').cls ∈ Ts ∧ ((vz_mn P y').cls ≠ "java/lang/invoke/MethodHandle" ∧ (vz_mn P y').cls ≠ "java/lang/invoke/VarHandle") ∧ (parseMethodDescriptor (vz_mn P y').desc).map (fun d => d.parameters.length) = some n ∧ Cond.methodLink (vz_own P y) ix (vz_mn P y') ∈ Ts ∧ Cond.static (vz_mn P y') ∈ Ts
def vz_good (P : vz_P) (cl : List vw_C) (Ts Ns : List Cond) : Prop := vz_gI P ∧ vz_gF P cl Ts Ns ∧ vz_gN P cl Ts ∧ vz_gK P Ts ∧ vz_gA Ts ∧ vz_gM P Ts ∧ vz_gC P cl Ts Ns ∧ vz_gO P Ts ∧ vz_gW P Ts
/-- what is carried from frame to frame beside the heap: G holds of any later state whose old cells outside A are as they were -/
def vz_Gm (A : Nat → Prop) (Ns : List Cond) (G : State → Prop) : Prop := (∀ (s U : State), s.WarmedH U.vm → G s → va_F A s U → G U) ∧ (∀ (U : State) (g : JFrame) (mk : MethodId) (a : Array Value), G U → G (U.calling g mk a)) ∧ ∀ w ∈ Ns, w.onTables = true ∧ ∀ (s U : State), s.WarmedH U.vm → va_Nw w s → va_Nw w U
/-- the start of a method -/
def vz_Pr (D : va_G) (cl : List vw_C) (cc : Nat → ClassId) (gr : vz_Gr) (τ : Nat → Nat) (Ns : List Cond) (A : Nat → Prop) (b0 : Nat) (G : State → Prop) (b L : Nat) (xs : Nat → Int32) (ρ : Nat → Nat) (μ : vz_H) (As : List Value) : Array Value → State → Prop :=
  va_Pc (vz_ts ρ As) (fun U => b0 ≤ U.heap.size ∧ vz_R D cl cc gr τ A b L xs ρ μ U.heap ∧ vz_Z A b L xs U ∧ va_K D cl (vz_tys cc) U ∧ (∀ w ∈ Ns, va_Nw w U ∧ w.onTables = true) ∧ G U)
/-- its end -/
def vz_Qr (D : va_G) (cl : List vw_C) (cc : Nat → ClassId) (gr ge : vz_Gr) (τ : Nat → Nat) (A : Nat → Prop) (b L : Nat) (xs : Nat → Int32) (ρ : Nat → Nat) (μ μ' : vz_H) (v : Option Value) : Array Value → State → Outcome → State → Prop :=
  fun _ st oc t => (∃ ρ' : Nat → Nat, vz_ex ge μ.1 ρ' ρ ∧ oc = .returned (v.map (vz_t ρ')) ∧ vz_R D cl cc gr τ A b L xs ρ' μ' t.heap ∧ ∀ w, v = some w → vz_ok μ'.1 w) ∧ va_F A st t
/-- the statement that goes by induction over the fuel -/
def vz_St (P : vz_P) (D : va_G) (cl : List vw_C) (cc : Nat → ClassId) (τ : Nat → Nat) (Ts Ns : List Cond) (A : Nat → Prop) (b0 : Nat) (G : State → Prop) (l : Launch) (n : Nat) : Prop :=
  ∀ (d y pc : Nat) (lv : vz_L) (st : List Value) (μ : vz_H) (out : vz_O) (μ' : vz_H), vz_run P n d y pc lv st μ = some (out, μ') →
  ∀ {p : Program} {e : Env} {R : Room} {s : State} {m : MethodId} {args : Array Value} {below : List Frame} {meth : Method} {c : Code} {H : Heap} {locs : List Loc} {cells slots mc ms : Nat} {Q : State → Prop} {ls : Array Slot} {b L : Nat} {xs : Nat → Int32} {ρ : Nat → Nat},
  vz_C P D cl cc Ts Ns y p s m args meth c → vz_Z A b L xs s → b0 ≤ s.heap.size → G s → d ≤ R.frames → 42 * d ≤ R.locals → mc ≤ R.cells → ms ≤ R.slots → cells + (μ'.2.2.1 - μ.2.2.1) = mc → slots + (μ'.2.2.2 - μ.2.2.2) = ms →
  vz_R D cl cc (vz_gr P) τ A b L xs ρ μ H → va_S A s.heap H locs → lv_has ls (vz_ml P y) (vz_tl ρ lv) → vz_okS μ.1 st → vz_okL μ.1 lv →
  (∀ (H' : Heap) (locs' : List Loc) (ρ' : Nat → Nat) (ls' : Array Slot) (pc' : Nat) (i' : Instr) (v : Option Value), out = .inl v → decode (vz_bc P y) pc' = .ok (i', 1) → vz_ret P y i' v → vz_ex (vz_gq (vz_gr P) y) μ.1 ρ' ρ → vz_R D cl cc (vz_gr P) τ A b L xs ρ' μ' H' → va_S A s.heap H' locs' → (∀ w, v = some w → vz_ok μ'.1 w) → W p l e R s m args below meth c H' locs' mc ms Q (F0 m pc' ls' (vz_ts ρ' v.toList))) →
  (∀ (H' : Heap) (locs' : List Loc) (ρ' : Nat → Nat) (ls' : Array Slot) (pc' cells' slots' : Nat) (st' : List Value) (E : String), out = .inr E → vz_Th P y pc' = some E → 8 ≤ d → (st'.map Value.category).sum ≤ 8 → cells' + 1 = mc → slots' + 6 = ms → vz_ex (vz_gq (vz_gr P) y) μ.1 ρ' ρ → vz_R D cl cc (vz_gr P) τ A b L xs ρ' μ' H' → va_S A s.heap H' locs' → ls'.size = vz_ml P y → W p l e R s m args below meth c H' locs' cells' slots' Q (F0 m pc' ls' st')) →
  W p l e R s m args below meth c H locs cells slots Q (F0 m pc ls (vz_ts ρ st))
section VZM
variable {P : vz_P} {D : va_G} {cl : List vw_C} {cc : Nat → ClassId} {τ : Nat → Nat} {Ts Ns : List Cond} {A : Nat → Prop} {b0 : Nat} {G : State → Prop} {l : Launch}
theorem vz_args_t (ρ : Nat → Nat) : ∀ (As : List Value) (i : Nat), lv_args i (vz_ts ρ As) = vz_tl ρ (lv_args i As) := by
  intro As
  induction As with
  | nil => intro i; rfl
  | cons v r ih =>
    intro i
    show (i, vz_t ρ v) :: lv_args (if (vz_t ρ v).category = 2 then i + 2 else i + 1) (vz_ts ρ r) = (i, vz_t ρ v) :: vz_tl ρ (lv_args (if v.category = 2 then i + 2 else i + 1) r)
    rw [vz_t_cat, ih]
theorem vz_sl (As : List Value) : (lg_sl As).length = (As.map Value.category).sum := by
  induction As with
  | nil => rfl
  | cons v r ih =>
    have e1 : lg_sl (v :: r) = (if v.category = 2 then [Slot.val v, Slot.second] else [Slot.val v]) ++ lg_sl r := rfl
    rw [e1, List.length_append, ih, List.map_cons, List.sum_cons]
    rcases lv_cat v with h | h
    · rw [if_neg (by omega), h]; rfl
    · rw [if_pos h, h]; rfl
theorem vz_cats (ρ : Nat → Nat) (As : List Value) : ((vz_ts ρ As).map Value.category) = As.map Value.category := by
  unfold vz_ts
  rw [List.map_map]
  exact List.map_congr_left fun v _ => vz_t_cat ρ v
theorem vz_okA {n : Nat} : ∀ (As : List Value) (i : Nat), vz_okS n As → vz_okL n (lv_args i As) := by
  intro As
  induction As with
  | nil => intro i _ q hq; cases hq
  | cons v r ih =>
    intro i h q hq
    rcases List.mem_cons.mp hq with e | h2
    · rw [e]; exact vz_okS_h h
    · exact ih _ (vz_okS_t h) q h2
set_option maxHeartbeats 4000000 in
set_option maxRecDepth 100000 in
/-- the body of a method that returns -/
theorem vz_bod (g : vz_good P cl Ts Ns) {n : Nat} (ih : vz_St P D cl cc τ Ts Ns A b0 G l n) {d y : Nat} {As : List Value} {μ μ' : vz_H} {v : Option Value} (hrun : vz_run P n d y 0 (lv_args 0 As) [] μ = some (.inl v, μ')) (hml : (As.map Value.category).sum ≤ vz_ml P y) {b L : Nat} {xs : Nat → Int32} {ρ : Nat → Nat} (hok : vz_okS μ.1 As)
    {w : Cond} {p : Program} {e : Env} {s : State} {m : MethodId} {args : Array Value} {below : List Frame} {meth : Method} {c : Code} {s₁ : State} (B : BodyLoose p l (vz_mn P y) (headSpec (w :: Ts) { frames := d, cells := μ'.2.2.1 - μ.2.2.1, slots := μ'.2.2.2 - μ.2.2.2, locals := 42 * d }) (vz_bc P y) (vz_ml P y) (vz_rt P y) e s m args below meth c s₁) (hmL : c.maxLocals = vz_ml P y) (htab : c.exceptionTable.toList.map (fun h => (h.startPc, h.endPc, h.handlerPc, h.catchType)) = vz_hd P y)
    (hv : vz_Pr D cl cc (vz_gr P) τ Ns A b0 G b L xs ρ μ As args s) : W p l e (headSpec (w :: Ts) { frames := d, cells := μ'.2.2.1 - μ.2.2.1, slots := μ'.2.2.2 - μ.2.2.2, locals := 42 * d }).room s m args below meth c s.heap [] 0 0 (MQ below (vz_Qr D cl cc (vz_gr P) (vz_gq (vz_gr P) y) τ A b L xs ρ μ μ' v) args s (μ'.2.2.1 - μ.2.2.1) (μ'.2.2.2 - μ.2.2.2) A) (entryFrame m args (vz_ml P y)) := by
  have gM := g.2.2.2.2.2.1.1 y
  obtain ⟨rfl, hb, hR, hZ, hK, hN, hG⟩ := hv
  have hts := atoms_spec (ws := w :: Ts) B.pre
  have hown : s.vm.findClass (vz_mn P y).cls = some m.cls := findClass_of_methodNamed B.named
  have hlocks := B.notSynchronized
  have hC : vz_C P D cl cc Ts Ns y p s m (vz_ts ρ As).toArray meth c := ⟨B.exec, B.bytes, hmL, by rw [← gM.2.2.2]; exact hown, fun w hw => hts w (List.mem_cons_of_mem _ hw), hN, hK, fun h => by rw [(name_of_methodNamed B.named B.method).1]; exact gM.2.2.1 h, B.returns, hlocks, htab⟩
  have hl := lv_entry (vz_ts ρ As) (n := vz_ml P y) (by rw [vz_sl, vz_cats]; exact hml)
  rw [lg_entry_eq]
  generalize (lg_sl (vz_ts ρ As) ++ List.replicate (vz_ml P y - (lg_sl (vz_ts ρ As)).length) Slot.unset).toArray = ls at hl ⊢
  rw [vz_args_t] at hl
  refine ih d y 0 (lv_args 0 As) [] μ (.inl v) μ' hrun hC hZ hb hG (Nat.le_refl _) (Nat.le_refl _) (Nat.le_refl _) (Nat.le_refl _) (Nat.zero_add _) (Nat.zero_add _) hR va_S.rf hl (fun w hw => nomatch hw) (vz_okA As 0 hok) ?_ (fun H' locs' ρ' ls' pc' c' s' st' E h => nomatch h)
  intro H' locs' ρ' ls' pc' i' v' hv' hdc hret hρ hR' hS' hok'
  cases hv'
  have hq : ∀ t : State, t.heap = H' → s.WarmedH t.vm → vz_Qr D cl cc (vz_gr P) (vz_gq (vz_gr P) y) τ A b L xs ρ μ μ' v (vz_ts ρ As).toArray s (.returned (v.map (vz_t ρ'))) t := fun t ht hW => ⟨⟨ρ', hρ, rfl, by rw [ht]; exact hR', hok'⟩, hS'.F ht⟩
  have hx := B.exec
  have hbb := B.bytes
  have hr := B.returns
  cases v with
  | none =>
    obtain ⟨rfl, e1⟩ := hret
    exact W.vret hx hbb (hr.trans e1) hq hS'.2.2 hdc
  | some w =>
    cases w with
    | int x =>
      obtain ⟨rfl, ty, e1, e2⟩ := hret
      exact W.zret hx hbb (hr.trans e1) (vz_fit_of e2 ρ').1 hq hS'.2.2 hdc
    | long x =>
      obtain ⟨rfl, ty, e1, e2⟩ := hret
      cases ty <;> first | exact W.lret hx hbb (hr.trans e1) hq hS'.2.2 hdc | exact absurd e2 (by simp [vz_fit])
    | null =>
      obtain ⟨rfl, -, ty, e1, e2⟩ := hret
      cases ty <;> first | exact W.aret hx hbb (hr.trans e1) (Or.inl ⟨_, rfl⟩) (Or.inl rfl) hq hS'.2.2 hdc | exact W.aret hx hbb (hr.trans e1) (Or.inr ⟨_, rfl⟩) (Or.inl rfl) hq hS'.2.2 hdc | exact absurd e2 (by simp [vz_fit])
    | ref a =>
      obtain ⟨rfl, -, ty, e1, e2⟩ := hret
      cases ty <;> first | exact W.aret hx hbb (hr.trans e1) (Or.inl ⟨_, rfl⟩) (Or.inr ⟨_, rfl⟩) hq hS'.2.2 hdc | exact W.aret hx hbb (hr.trans e1) (Or.inr ⟨_, rfl⟩) (Or.inr ⟨_, rfl⟩) hq hS'.2.2 hdc | exact absurd e2 (by simp [vz_fit])
    | float x => obtain ⟨-, h9, -⟩ := hret; rcases h9 with h9 | ⟨a, h9⟩ <;> cases h9
    | double x => obtain ⟨-, h9, -⟩ := hret; rcases h9 with h9 | ⟨a, h9⟩ <;> cases h9
    | retAddr x => obtain ⟨-, h9, -⟩ := hret; rcases h9 with h9 | ⟨a, h9⟩ <;> cases h9
/-- a contract out of a walk of the body, of a method that no entry runs -/
theorem vz_ofW {y : MethodName} {ws : List Cond} {rm : Room} {Pc : Array Value → State → Prop} {Qc : Array Value → State → Outcome → State → Prop} {mc ms : Nat} {free : Addr → Prop} {cc : ByteArray} {maxL : Nat} {ret : Option FieldType} (hy : plainFor y = true)
    (his : ∀ (args : Array Value) (s : State) (m : MethodId), (headSpec ws rm).pre.before args s = true → s.methodNamed? y = some m → ∃ (meth : Method) (c : Code), s.vm.method? m = some meth ∧ meth.code = some c ∧ c.code = cc ∧ c.maxLocals = maxL ∧ meth.sig.returnType = ret ∧ meth.locks = false)
    (body : ∀ p e s m args below meth c s₁, BodyLoose p l y (headSpec ws rm) cc maxL ret e s m args below meth c s₁ → c.maxLocals = maxL → Pc args s →
      W p l e (headSpec ws rm).room s m args below meth c s.heap [] 0 0 (MQ below Qc args s mc ms free) (entryFrame m args maxL)) : Met l y ws rm Pc Qc mc ms free := by
  refine MetFree.of_bodySF (code := cc) (maxLocals := maxL) (ret := ret) hy his ?_
  intro p e s m args below meth c s₁ B hml hP _
  have hh0 : s₁.heap = s.heap := by rw [B.state]; rfl
  obtain ⟨t, a1, o, b1, b2, b3⟩ := body p e s m args below meth c s₁ B hml hP s₁ hh0 (Stand.of_body B)
  exact ⟨t, o, a1, b1, b2, ⟨b3.1, b3.2⟩⟩
/-- a method that returns, by its contract -/
theorem vz_met (g : vz_good P cl Ts Ns) {n : Nat} (ih : vz_St P D cl cc τ Ts Ns A b0 G l n) {d y : Nat} {As : List Value} {μ μ' : vz_H} {v : Option Value} (hhd : vz_hd P y = []) (hrun : vz_run P n d y 0 (lv_args 0 As) [] μ = some (.inl v, μ')) (hml : (As.map Value.category).sum ≤ vz_ml P y) {b L : Nat} {xs : Nat → Int32} {ρ : Nat → Nat} (hok : vz_okS μ.1 As) :
    Met l (vz_mn P y) (Cond.code (vz_mn P y) (vz_bc P y) (vz_ml P y) (vz_rt P y) :: Ts) { frames := d, cells := μ'.2.2.1 - μ.2.2.1, slots := μ'.2.2.2 - μ.2.2.2, locals := 42 * d }
      (vz_Pr D cl cc (vz_gr P) τ Ns A b0 G b L xs ρ μ As) (vz_Qr D cl cc (vz_gr P) (vz_gq (vz_gr P) y) τ A b L xs ρ μ μ' v) (μ'.2.2.1 - μ.2.2.1) (μ'.2.2.2 - μ.2.2.2) A := by
  refine vz_ofW (cc := vz_bc P y) (maxL := vz_ml P y) (ret := vz_rt P y) (g.2.2.2.2.2.1.1 y).2.1 (fun args s m h hn => ?_) ?_
  · obtain ⟨meth, c, h1, h2, h3, h4, h5, h6, -, -⟩ := Cond.code_spec hn (atoms_spec (ws := Cond.code (vz_mn P y) (vz_bc P y) (vz_ml P y) (vz_rt P y) :: Ts) h _ List.mem_cons_self)
    exact ⟨meth, c, h1, h2, h3, h4, h5, h6⟩
  intro p e s m args below meth c s₁ B hmL hv
  have h9 := B.noHandlers (atoms_spec (ws := Cond.code (vz_mn P y) (vz_bc P y) (vz_ml P y) (vz_rt P y) :: Ts) B.pre _ List.mem_cons_self)
  refine vz_bod g ih hrun hml hok B hmL ?_ hv
  rw [hhd, Array.isEmpty_iff.mp h9]
  rfl
/-- .. and of one with an exception table -/
theorem vz_metW (g : vz_good P cl Ts Ns) {n : Nat} (ih : vz_St P D cl cc τ Ts Ns A b0 G l n) {d y : Nat} {As : List Value} {μ μ' : vz_H} {v : Option Value} (hrun : vz_run P n d y 0 (lv_args 0 As) [] μ = some (.inl v, μ')) (hml : (As.map Value.category).sum ≤ vz_ml P y) {b L : Nat} {xs : Nat → Int32} {ρ : Nat → Nat} (hok : vz_okS μ.1 As) :
    Met l (vz_mn P y) (Cond.codeWith (vz_mn P y) (vz_bc P y) (vz_ml P y) (vz_rt P y) (vz_hd P y) :: Ts) { frames := d, cells := μ'.2.2.1 - μ.2.2.1, slots := μ'.2.2.2 - μ.2.2.2, locals := 42 * d }
      (vz_Pr D cl cc (vz_gr P) τ Ns A b0 G b L xs ρ μ As) (vz_Qr D cl cc (vz_gr P) (vz_gq (vz_gr P) y) τ A b L xs ρ μ μ' v) (μ'.2.2.1 - μ.2.2.1) (μ'.2.2.2 - μ.2.2.2) A := by
  refine vz_ofW (cc := vz_bc P y) (maxL := vz_ml P y) (ret := vz_rt P y) (g.2.2.2.2.2.1.1 y).2.1 (fun args s m h hn => ?_) ?_
  · obtain ⟨m9, meth, c, hn9, h1, h2, h3, h4, -, h5, h6, -⟩ := Cond.codeWith_spec (atoms_spec (ws := Cond.codeWith (vz_mn P y) (vz_bc P y) (vz_ml P y) (vz_rt P y) (vz_hd P y) :: Ts) h _ List.mem_cons_self)
    cases hn.symm.trans hn9
    exact ⟨meth, c, h1, h2, h3, h4, h5, h6⟩
  intro p e s m args below meth c s₁ B hmL hv
  obtain ⟨m9, meth9, c9, hn9, h1, h2, h3, h4, h5, -⟩ := Cond.codeWith_spec (atoms_spec (ws := Cond.codeWith (vz_mn P y) (vz_bc P y) (vz_ml P y) (vz_rt P y) (vz_hd P y) :: Ts) B.pre _ List.mem_cons_self)
  cases B.named.symm.trans hn9
  cases B.method.symm.trans h1
  cases (Stand.of_body B).code.symm.trans h2
  exact vz_bod g ih hrun hml hok B hmL h5 hv
end VZM
section VZN
variable {P : vz_P} {D : va_G} {cl : List vw_C} {cc : Nat → ClassId} {τ : Nat → Nat} {Ts Ns : List Cond} {A : Nat → Prop} {b0 : Nat} {G : State → Prop}
variable {p : Program} {l : Launch} {e : Env} {R : Room} {s : State} {m : MethodId} {args : Array Value} {below : List Frame} {meth : Method} {c : Code} {H : Heap} {locs : List Loc} {cells slots : Nat} {Q : State → Prop}
variable {b L : Nat} {xs : Nat → Int32} {ρ : Nat → Nat} {μ μ1 : vz_H} {ls : Array Slot} {pc : Nat} {rest st0 : List Value}
theorem vz_go {ge : vz_Gr} {mc1 ms1 : Nat} {a : Array Value} {v : Option Value} (hr : va_Run p l e R s m args below meth c H locs cells slots mc1 ms1 (F0 m pc ls st0) rest (vz_Qr D cl cc (vz_gr P) ge τ A b L xs ρ μ μ1 v a) A) (hS : va_S A s.heap H locs)
    (kk : ∀ (H1 : Heap) (locs1 : List Loc) (ρ' : Nat → Nat), vz_ex ge μ.1 ρ' ρ → vz_R D cl cc (vz_gr P) τ A b L xs ρ' μ1 H1 → va_S A s.heap H1 locs1 → (∀ w, v = some w → vz_ok μ1.1 w) → W p l e R s m args below meth c H1 locs1 (cells + mc1) (slots + ms1) Q (F0 m (pc + 3) ls ((v.map (vz_t ρ')).toList ++ rest))) : W p l e R s m args below meth c H locs cells slots Q (F0 m pc ls st0) := by
  intro T hT X
  obtain ⟨v', st₀, t, T', L', h0, X', hL, e1, e2, ⟨⟨ρ', hρ, hv, hR', hok⟩, hF⟩, st⟩ := hr T hT X
  cases hv
  obtain ⟨hz, hk⟩ := hF
  rw [h0] at hz hk
  obtain ⟨t2, a1, b1⟩ := kk T'.heap (locs ++ L') ρ' hρ (by rw [e1]; exact hR')
    ⟨Nat.le_trans hS.1 (by rw [e1]; exact hz), fun q h1 h2 => by rw [e1, hk q (Nat.lt_of_lt_of_le h1 hS.1) h2]; exact hS.2.1 q h1 h2, fun q hq => by
      rcases List.mem_append.mp hq with h | h
      · exact hS.2.2 q h
      · exact hL q h⟩ hok T' rfl X'
  exact ⟨t2, st t2 a1, b1⟩
theorem vz_pre (hG : vz_Gm A Ns G) (hZ : vz_Z A b L xs s) (hb0 : b0 ≤ s.heap.size) (hGs : G s) (hK : va_K D cl (vz_tys cc) s) (hN : ∀ w ∈ Ns, va_Nw w s ∧ w.onTables = true) (hR : vz_R D cl cc (vz_gr P) τ A b L xs ρ μ H) (hS : va_S A s.heap H locs) (As : List Value) : PreS s H (vz_Pr D cl cc (vz_gr P) τ Ns A b0 G b L xs ρ μ As) (vz_ts ρ As) := by
  refine ⟨fun a U g mk q => ?_, fun U hU hW => ?_⟩
  · obtain ⟨q0, q1, q2, q3, q4, q5, q6⟩ := q
    exact ⟨q0, q1, q2, ⟨va_X.moved (u := U) (U := U.calling g mk a) (Vm.Alike.refl U.vm) q3.1, q3.2.1, q3.2.2⟩, va_K.moved (u := U) (U := U.calling g mk a) (Vm.Alike.refl U.vm) q4, fun w hw => ⟨va_tabs (u := U) (U := U.calling g mk a) (q5 w hw).2 rfl (q5 w hw).1, (q5 w hw).2⟩, hG.2.1 U g mk a q6⟩
  · refine ⟨rfl, by rw [hU]; exact Nat.le_trans hb0 hS.1, by rw [hU]; exact hR, ⟨?_, by rw [hU]; exact Nat.lt_of_lt_of_le hZ.2.1 hS.1, hZ.2.2⟩, va_K.moved hW.alike hK, fun w hw => ⟨(hG.2.2 w hw).2 s U hW (hN w hw).1, (hN w hw).2⟩, hG.1 s U hW hGs ⟨by rw [hU]; exact hS.1, fun q h1 h2 => by rw [hU]; exact hS.2.1 q h1 h2⟩⟩
    rw [hU]
    exact va_X.moved hW.alike (hZ.1.kept (hS.2.1 b hZ.2.1 hZ.2.2))
theorem vz_goodIn (g : vz_good P cl Ts Ns) {y : Nat} (h : Cond.code (vz_mn P y) (vz_bc P y) (vz_ml P y) (vz_rt P y) ∈ Ts) : GoodIn Ts (Cond.code (vz_mn P y) (vz_bc P y) (vz_ml P y) (vz_rt P y) :: Ts) := by
  intro w hw
  have hw : w ∈ Ts := by
    rcases List.mem_cons.mp hw with h1 | h1
    · rw [h1]; exact h
    · exact h1
  exact ⟨hw, good_of_word (g.2.2.2.2.2.1.2 w hw)⟩
/-- a static call of a method with an exception table -/
theorem vz_runW {y : MethodName} {bytes cc : ByteArray} {maxL nL mc ms n index : Nat} {ret : Option FieldType} {hh : List (Nat × Nat × Nat × Nat)} {ws' : List Cond} {rm : Room} {Pc : Array Value → State → Prop} {Qc : Array Value → State → Outcome → State → Prop} {free : Addr → Prop} {own : String} {As rest : List Value} {g : JFrame}
    (S : CallFix p m c cc nL s args Ts own) (hM : Met l y (Cond.codeWith y bytes maxL ret hh :: ws') rm Pc Qc mc ms free) (hrc : rm.cells = mc) (hrs : rm.slots = ms) (hroom : rm.frames + 1 ≤ R.frames ∧ 8 + (maxL + 11) + rm.locals ≤ R.locals) (hG : ∀ w ∈ Cond.codeWith y bytes maxL ret hh :: ws', w ∈ Ts ∧ goodWord w = true)
    (hcode : (Cond.codeWith y bytes maxL ret hh).before args s = true) (hini : (Cond.initialized y.cls).before args s = true) (hlink : (Cond.methodLink own index y).before args s = true) (hstt : (Cond.static y).before args s = true) (hy : y.cls ≠ "java/lang/invoke/MethodHandle" ∧ y.cls ≠ "java/lang/invoke/VarHandle") (hlen : (parseMethodDescriptor y.desc).map (fun d => d.parameters.length) = some n) (hp : PreS s H Pc As)
    (hg : g.method = m) (hn : As.length = n) (hsize : g.locals.size = nL) (hstack : g.stack = As.reverse ++ rest) (hW : 2 * g.monitorRoom + (rest.map fun v => v.category).sum ≤ 8) (hdg : decode cc g.pc = .ok (.invokestatic index, 3)) (hf : cells + mc ≤ R.cells ∧ slots + ms ≤ R.slots) :
    va_Run p l e R s m args below meth c H locs cells slots mc ms g rest (Qc As.toArray) free := by
  obtain ⟨hx, hb, hml, ho, hts⟩ := S
  have hK : Back l R p e below s args y 3 8 (PreOf R mc ms Pc) (PostOf Qc mc ms free) := va_backW (hh := hh) (bytes := bytes) (maxL := maxL) (ret := ret) hM hp.1 hrc hrs hroom.1 hroom.2 (fun w hw a' U hW => word_at hW (good_of_word (hG w hw).2) (hts w (hG w hw).1)) List.mem_cons_self (fun a' U hW => word_at hW (Or.inl (by first | rfl | simp [Cond.onTables, Cond.keeps, Cond.steady])) hini)
  intro T hT X
  obtain ⟨mk, methM, cM, hnamed, hmethM, -, -, -, -, -, -, hsigM⟩ := Cond.codeWith_spec hcode
  have hstatic : methM.isStatic = true := Cond.static_spec hnamed hmethM hstt
  obtain ⟨kP, hkP, -⟩ := className_of_methodNamed hnamed
  have hinitP : kP.init = .initialized := Cond.initialized_spec (findClass_of_methodNamed hnamed) hkP hini
  have hl9 : As.length = methM.sig.parameters.length := by
    rw [hsigM] at hlen
    exact hn.trans (Option.some.inj hlen).symm
  obtain ⟨vm₁, X₁, hstep₁⟩ := X.invokestatic hx ho hlink hnamed hmethM hstatic hkP hinitP hy (g := g) hg (argsL := As) (rest := rest) hl9 hstack (by rw [hb]; exact hdg)
  obtain ⟨v, ⟨U', l2, c2, s2⟩, X', ⟨g', mk', t, L, e1, e2, hq, h1, hL, h2, h3⟩, hsteps⟩ := hK m meth c ⟨T.setVm vm₁, locs, cells, slots⟩ { g with stack := rest } (.invokestatic index) mk As.toArray X₁ hg (hsize.trans hml.symm) (by rw [hb]; exact hdg) hW (X₁.named hnamed) ⟨hf.1, hf.2, hp.2 (T.setVm vm₁) hT X₁.warmed⟩
  dsimp only [Pt.U, Pt.locs, Pt.cells, Pt.slots] at X' e1 e2 h1 h2 h3 hsteps
  subst h1; subst h2; subst h3
  exact ⟨v, (T.setVm vm₁).calling g' mk' As.toArray, t, U', L, hT, X', hL, e1, e2, hq, fun target h => hstep₁ _ fun acts => by rw [doInvoke_state]; exact hsteps.trans h⟩
set_option maxHeartbeats 4000000 in
set_option maxRecDepth 100000 in
/-- a call that returns -/
theorem vz_call (g : vz_good P cl Ts Ns) (hG : vz_Gm A Ns G) {n : Nat} (ih : vz_St P D cl cc τ Ts Ns A b0 G l n) (hb0 : ∀ q, b0 ≤ q → A q) {y y' j : Nat} {i : Instr} {st As rest : List Value} {v : Option Value} (hC : vz_C P D cl cc Ts Ns y p s m args meth c) (hZ : vz_Z A b L xs s) (hb : b0 ≤ s.heap.size) (hGs : G s)
    (hdc : decode (vz_bc P y) pc = .ok (i, 3)) (hk : vz_ck P y i st μ y' As rest) (h8 : (rest.map Value.category).sum ≤ 8) (hml : (As.map Value.category).sum ≤ vz_ml P y') (hrun : vz_run P n j y' 0 (lv_args 0 As) [] μ = some (.inl v, μ1)) (hf : j + 1 ≤ R.frames) (hlo : 42 * (j + 1) ≤ R.locals) (hrc : cells + (μ1.2.2.1 - μ.2.2.1) ≤ R.cells) (hrs : slots + (μ1.2.2.2 - μ.2.2.2) ≤ R.slots)
    (hR : vz_R D cl cc (vz_gr P) τ A b L xs ρ μ H) (hS : va_S A s.heap H locs) (hsz : ls.size = vz_ml P y) (hok : vz_okS μ.1 st)
    (kk : ∀ (H1 : Heap) (locs1 : List Loc) (ρ' : Nat → Nat), vz_ex (vz_gq (vz_gr P) y') μ.1 ρ' ρ → vz_R D cl cc (vz_gr P) τ A b L xs ρ' μ1 H1 → va_S A s.heap H1 locs1 → (∀ w, v = some w → vz_ok μ1.1 w) → W p l e R s m args below meth c H1 locs1 (cells + (μ1.2.2.1 - μ.2.2.1)) (slots + (μ1.2.2.2 - μ.2.2.2)) Q (F0 m (pc + 3) ls ((v.map (vz_t ρ')).toList ++ vz_ts ρ rest))) : W p l e R s m args below meth c H locs cells slots Q (F0 m pc ls (vz_ts ρ st)) := by
  obtain ⟨hx, hbb, hmL, hown, hts, hns, hK, hin, hrt, hlk⟩ := hC
  have gC := g.2.2.2.2.2.2.1
  have gM := g.2.2.2.2.2.1.1 y'
  have S : CallFix p m c (vz_bc P y) (vz_ml P y) s args Ts (vz_own P y) := ⟨hx, hbb, hmL, hown, hts⟩
  have h8' : ((vz_ts ρ rest).map fun v => v.category).sum ≤ 8 := by
    have e9 := vz_cats ρ rest
    show ((vz_ts ρ rest).map Value.category).sum ≤ 8
    rw [e9]; exact h8
  have hroom : ({ frames := j, cells := μ1.2.2.1 - μ.2.2.1, slots := μ1.2.2.2 - μ.2.2.2, locals := 42 * j } : Room).frames + 1 ≤ R.frames ∧ 8 + (vz_ml P y' + 11) + ({ frames := j, cells := μ1.2.2.1 - μ.2.2.1, slots := μ1.2.2.2 - μ.2.2.2, locals := 42 * j } : Room).locals ≤ R.locals := by
    refine ⟨hf, ?_⟩
    show 8 + (vz_ml P y' + 11) + 42 * j ≤ R.locals
    have := gM.1
    omega
  rcases hk with ⟨ix, k9, na, rfl, hk9, hcl, hlen, rfl⟩ | ⟨ix, na, a, As0, o, rfl, hcl, hlen, rfl, rfl, ho, hci⟩ | ⟨ix, na, a, As0, rfl, hcl, hlen, rfl, rfl⟩
  · have hokA : vz_okS μ.1 As := fun w hw => hok w (List.mem_append_left _ (List.mem_reverse.mpr hw))
    have hP := vz_pre (As := As) hG hZ hb hGs hK hns hR hS
    have hstk : (F0 m pc ls (vz_ts ρ (As.reverse ++ rest))).stack = (vz_ts ρ As).reverse ++ vz_ts ρ rest := by
      show List.map (vz_t ρ) (As.reverse ++ rest) = _
      rw [List.map_append, List.map_reverse]
      rfl
    have hla : (vz_ts ρ As).length = na := by unfold vz_ts; rw [List.length_map]; exact hlen
    rcases hk9 with rfl | rfl
    case inr =>
      obtain ⟨w1, w2, w3, w4, w5, w6⟩ := g.2.2.2.2.2.2.2.2 y ix y' na hcl
      have hM := vz_metW (b := b) (L := L) (xs := xs) (ρ := ρ) g ih hrun hml hokA
      exact vz_go (vz_runW S hM rfl rfl hroom (fun w hw => by
          rcases List.mem_cons.mp hw with h1 | h1
          · rw [h1]; exact ⟨w1, g.2.2.2.2.2.1.2 _ w1⟩
          · exact ⟨h1, g.2.2.2.2.2.1.2 _ h1⟩) (hts _ w1) (hts _ w2) (hts _ w5) (hts _ w6) w3 w4 hP rfl hla hsz hstk (lv_room h8') hdc ⟨hrc, hrs⟩) hS kk
    obtain ⟨w1, w2, w3, w4, w5, w6, w7, w8⟩ := gC y ix 0 y' na hcl (by decide)
    have hM := vz_met (b := b) (L := L) (xs := xs) (ρ := ρ) g ih w1.2 hrun hml hokA
    rcases w5 with w5 | ⟨host, w5⟩
    · exact vz_go (va_runS S hM ⟨callB_of na hts (vz_goodIn g w1.1) rfl rfl rfl (hts _ w2) (hts _ w5) ⟨w3.1, w3.2, w4⟩ hroom, hts _ (w6 rfl)⟩ hP rfl hla hsz hstk (lv_room h8') hdc ⟨hrc, hrs⟩) hS kk
    · exact vz_go (va_runSN S hM ⟨va_cnB na hts (vz_goodIn g w1.1) rfl rfl rfl (hns _ w5).1 (hts _ w2) ⟨w3.1, w3.2, w4⟩ hroom, hts _ (w6 rfl), trivial⟩ hP rfl hla hsz hstk (lv_room h8') hdc ⟨hrc, hrs⟩) hS kk
  · obtain ⟨w1, w2, w3, w4, w5, w6, w7, w8⟩ := gC y ix 1 y' na hcl (by decide)
    obtain ⟨u1, u2, T9, N9, u3⟩ := w7 rfl
    have hokA : vz_okS μ.1 (.ref a :: As0) := fun w hw => by
      rcases List.mem_cons.mp hw with h1 | h1
      · rw [h1]; exact hok _ (List.mem_append_right _ List.mem_cons_self)
      · exact hok w (List.mem_append_left _ (List.mem_reverse.mpr h1))
    have hM := vz_met (b := b) (L := L) (xs := xs) (ρ := ρ) g ih w1.2 hrun hml hokA
    have hP := vz_pre (As := .ref a :: As0) hG hZ hb hGs hK hns hR hS
    have hstk : (F0 m pc ls (vz_ts ρ (As0.reverse ++ .ref a :: rest))).stack = (vz_ts ρ As0).reverse ++ .ref (ρ a) :: vz_ts ρ rest := by
      show List.map (vz_t ρ) (As0.reverse ++ .ref a :: rest) = _
      rw [List.map_append, List.map_reverse]
      rfl
    have hla : (vz_ts ρ As0).length = na := by unfold vz_ts; rw [List.length_map]; exact hlen
    have he := vz_R_obj (cc := cc) (ρ := ρ) ho
    rw [hci] at he
    have hrv := va_recv hK hR.1 u3 he
    have hPV : PreV s H (vz_mn P y').cls (ρ a) (vz_Pr D cl cc (vz_gr P) τ Ns A b0 G b L xs ρ μ (.ref a :: As0)) (vz_ts ρ As0) := ⟨hP.1, hrv, hP.2⟩
    rcases w5 with w5 | ⟨host, w5⟩
    · exact vz_go (va_runV S hM ⟨callB_of na hts (vz_goodIn g w1.1) rfl rfl rfl (hts _ w2) (hts _ w5) ⟨w3.1, w3.2, w4⟩ hroom, hts _ u1, hts _ u2⟩ hPV rfl hla hsz hstk (lv_room h8') hdc ⟨hrc, hrs⟩) hS kk
    · exact vz_go (va_runVN S hM ⟨va_cnB na hts (vz_goodIn g w1.1) rfl rfl rfl (hns _ w5).1 (hts _ w2) ⟨w3.1, w3.2, w4⟩ hroom, hts _ u1, hts _ u2⟩ hPV rfl hla hsz hstk (lv_room h8') hdc ⟨hrc, hrs⟩) hS kk
  · obtain ⟨w1, w2, w3, w4, w5, w6, w7, w8⟩ := gC y ix 2 y' na hcl (by decide)
    obtain ⟨u1, u2, u3⟩ := w8 rfl
    have hokA : vz_okS μ.1 (.ref a :: As0) := fun w hw => by
      rcases List.mem_cons.mp hw with h1 | h1
      · rw [h1]; exact hok _ (List.mem_append_right _ List.mem_cons_self)
      · exact hok w (List.mem_append_left _ (List.mem_reverse.mpr h1))
    have hM := vz_met (b := b) (L := L) (xs := xs) (ρ := ρ) g ih w1.2 hrun hml hokA
    have hP := vz_pre (As := .ref a :: As0) hG hZ hb hGs hK hns hR hS
    have hstk : (F0 m pc ls (vz_ts ρ (As0.reverse ++ .ref a :: rest))).stack = (vz_ts ρ As0).reverse ++ .ref (ρ a) :: vz_ts ρ rest := by
      show List.map (vz_t ρ) (As0.reverse ++ .ref a :: rest) = _
      rw [List.map_append, List.map_reverse]
      rfl
    have hla : (vz_ts ρ As0).length = na := by unfold vz_ts; rw [List.length_map]; exact hlen
    have hg1 := vz_goodIn g w1.1
    rw [u2] at hM hg1
    rcases w5 with w5 | ⟨host, w5⟩
    · exact vz_go (va_runI S hM ⟨callB_of na hts hg1 rfl rfl rfl (hts _ w2) (hts _ w5) ⟨w3.1, w3.2, w4⟩ hroom, u1, hts _ u3⟩ hP rfl hla hsz hstk (lv_room h8') hdc ⟨hrc, hrs⟩) hS kk
    · exact vz_go (va_runIN S hM ⟨va_cnB na hts hg1 rfl rfl rfl (hns _ w5).1 (hts _ w2) ⟨w3.1, w3.2, w4⟩ hroom, u1, hts _ u3⟩ hP rfl hla hsz hstk (lv_room h8') hdc ⟨hrc, hrs⟩) hS kk
end VZN
