/-! THE TEXTS' OWN METHODS: the JDK's code, walked; they change nothing -/
theorem vz_t_id (v : Value) : vz_t id v = v := by cases v <;> rfl
theorem vz_ts_id (st : List Value) : vz_ts id st = st := by
  unfold vz_ts
  rw [show vz_t id = id from funext vz_t_id]
  exact List.map_id _
theorem vz_tl_id (lv : vz_L) : vz_tl id lv = lv := by
  unfold vz_tl
  rw [show (fun q : Nat × Value => (q.1, vz_t id q.2)) = id from funext fun q => by rw [vz_t_id]; rfl]
  exact List.map_id _
/-- the end of a method that changes nothing -/
def sx_Q (v : Option Value) : Array Value → State → Outcome → State → Prop := fun _ st o t => o = .returned v ∧ t.heap = st.heap
def sx_P (A : Nat → Prop) (adK adV : Nat → Nat) (As : List Value) : Array Value → State → Prop := va_Pc As (ts_G A adK adV)
section SXA
variable {l : Launch} {A : Nat → Prop} {adK adV : Nat → Nat}
variable {p : Program} {e : Env} {R : Room} {s : State} {m : MethodId} {args : Array Value} {below : List Frame} {meth : Method} {c : Code} {H : Heap} {locs : List Loc} {cells slots : Nat} {Q : State → Prop}
variable {cc : ByteArray} {pc pc' nL len : Nat} {ls : Array Slot} {lv lv' : vz_L} {st st' : List Value}
/-- a simple instruction -/
theorem sx (hx : p.tables.exec = Jvm.exec) (hb : c.code = cc) {i : Instr} (hd : decode cc pc = .ok (i, len)) (h : vz_a nL i len pc lv st = some (pc', lv', st')) (hl : lv_has ls nL lv)
    (k : ∀ ls' : Array Slot, lv_has ls' nL lv' → W p l e R s m args below meth c H locs cells slots Q (F0 m pc' ls' st')) : W p l e R s m args below meth c H locs cells slots Q (F0 m pc ls st) := by
  have h9 := vz_A (ρ := id) (ls := ls) (R := R) (s := s) (m := m) (args := args) (below := below) (meth := meth) (H := H) (locs := locs) (cells := cells) (slots := slots) (Q := Q) (l := l) (e := e) hx hb hd h (by rw [vz_tl_id]; exact hl) (fun ls' h' => by
    rw [vz_ts_id]
    exact k ls' (by rw [vz_tl_id] at h'; exact h'))
  rw [vz_ts_id] at h9
  exact h9
/-- behind a call that changes nothing -/
theorem sx_go {v : Option Value} {a : Array Value} {rest st0 : List Value} (hr : va_Run p l e R s m args below meth c H locs cells slots 0 0 (F0 m pc ls st0) rest (sx_Q v a) (fun _ => False)) (kk : W p l e R s m args below meth c H locs cells slots Q (F0 m (pc + 3) ls (v.toList ++ rest))) : W p l e R s m args below meth c H locs cells slots Q (F0 m pc ls st0) := by
  intro T hT X
  obtain ⟨v', st₀, t, T', L', h0, X', hL, e1, e2, ⟨hv, hh⟩, st⟩ := hr T hT X
  cases hv
  have hn : L' = [] := List.eq_nil_iff_forall_not_mem.mpr fun q hq => hL q hq
  subst hn
  rw [List.append_nil] at X'
  obtain ⟨t2, a1, b1⟩ := kk T' (by rw [e1, hh, h0]) X'
  exact ⟨t2, st t2 a1, b1⟩
theorem sx_pre (hG : ts_G A adK adV s) (hS : va_S A s.heap H locs) (As : List Value) : PreS s H (sx_P A adK adV As) As :=
  ⟨fun a U g mk q => ⟨q.1, (ts_Gm A adK adV).2.1 U g mk a q.2⟩, fun U hU hW => ⟨rfl, ts_go hW hG ⟨by rw [hU]; exact hS.1, fun q h1 h2 => by rw [hU]; exact hS.2.1 q h1 h2⟩⟩⟩
theorem sx_good {w : Cond} (h : w ∈ tb_T) : GoodIn tb_T (w :: tb_T) := by
  intro z hz
  have hz : z ∈ tb_T := by
    rcases List.mem_cons.mp hz with h1 | h1
    · rw [h1]; exact h
    · exact h1
  exact ⟨hz, good_of_word (List.mem_filter.mp hz).2⟩
/-- a text's own method, called -/
theorem sx_callV {own : String} {i ix f n na maxL : Nat} {y : MethodName} {bytes : ByteArray} {ret : Option FieldType} {v : Option Value} {As rest : List Value} (S : CallFix p m c cc nL s args tb_T own) (hG : ts_G A adK adV s) (hS : va_S A s.heap H locs) (hi : i < 19)
    (hM : Met l y (Cond.code y bytes maxL ret :: tb_T) (k2_rm f n) (sx_P A adK adV (.ref (adK i) :: As)) (sx_Q v) 0 0 (fun _ => False)) (w1 : Cond.code y bytes maxL ret ∈ tb_T) (w2 : Cond.initialized y.cls ∈ tb_T) (w3 : Cond.methodLink own ix y ∈ tb_T) (w4 : Cond.instanceMethod y ∈ tb_T) (w5 : Cond.selects "java/lang/String" y y ∈ tb_T)
    (hy : y.cls ≠ "java/lang/invoke/MethodHandle" ∧ y.cls ≠ "java/lang/invoke/VarHandle") (hd : (parseMethodDescriptor y.desc).map (fun d => d.parameters.length) = some na) (hna : As.length = na) (hR : f + 1 ≤ R.frames ∧ 8 + (maxL + 11) + n ≤ R.locals) (hsz : ls.size = nL) (h8 : (rest.map fun v => v.category).sum ≤ 8) (hc : cells ≤ R.cells) (hs : slots ≤ R.slots)
    (hdc : decode cc pc = .ok (.invokevirtual ix, 3)) (kk : W p l e R s m args below meth c H locs cells slots Q (F0 m (pc + 3) ls (v.toList ++ rest))) : W p l e R s m args below meth c H locs cells slots Q (F0 m pc ls (As.reverse ++ .ref (adK i) :: rest)) := by
  have hts : ∀ w ∈ tb_T, w.before args s = true := S.2.2.2.2
  obtain ⟨q1, q2⟩ := sx_pre hG hS (.ref (adK i) :: As)
  exact sx_go (va_runV S hM ⟨callB_of na hts (sx_good w1) rfl rfl rfl (hts _ w2) (hts _ w3) ⟨hy.1, hy.2, hd⟩ hR, hts _ w4, hts _ w5⟩ ⟨q1, vk_recv hG.1 hi hS, q2⟩ rfl hna hsz rfl (lv_room h8) hdc ⟨hc, hs⟩) kk
theorem sx_callS {own : String} {ix f n na maxL : Nat} {y : MethodName} {bytes : ByteArray} {ret : Option FieldType} {v : Option Value} {As rest : List Value} (S : CallFix p m c cc nL s args tb_T own) (hG : ts_G A adK adV s) (hS : va_S A s.heap H locs)
    (hM : Met l y (Cond.code y bytes maxL ret :: tb_T) (k2_rm f n) (sx_P A adK adV As) (sx_Q v) 0 0 (fun _ => False)) (w1 : Cond.code y bytes maxL ret ∈ tb_T) (w2 : Cond.initialized y.cls ∈ tb_T) (w3 : Cond.methodLink own ix y ∈ tb_T) (w4 : Cond.static y ∈ tb_T)
    (hy : y.cls ≠ "java/lang/invoke/MethodHandle" ∧ y.cls ≠ "java/lang/invoke/VarHandle") (hd : (parseMethodDescriptor y.desc).map (fun d => d.parameters.length) = some na) (hna : As.length = na) (hR : f + 1 ≤ R.frames ∧ 8 + (maxL + 11) + n ≤ R.locals) (hsz : ls.size = nL) (h8 : (rest.map fun v => v.category).sum ≤ 8) (hc : cells ≤ R.cells) (hs : slots ≤ R.slots)
    (hdc : decode cc pc = .ok (.invokestatic ix, 3)) (kk : W p l e R s m args below meth c H locs cells slots Q (F0 m (pc + 3) ls (v.toList ++ rest))) : W p l e R s m args below meth c H locs cells slots Q (F0 m pc ls (As.reverse ++ rest)) := by
  have hts : ∀ w ∈ tb_T, w.before args s = true := S.2.2.2.2
  exact sx_go (va_runS S hM ⟨callB_of na hts (sx_good w1) rfl rfl rfl (hts _ w2) (hts _ w3) ⟨hy.1, hy.2, hd⟩ hR, hts _ w4⟩ (sx_pre hG hS As) rfl hna hsz rfl (lv_room h8) hdc ⟨hc, hs⟩) kk
end SXA
section SXB
variable {l : Launch} {A : Nat → Prop} {adK adV : Nat → Nat}
/-- the contract out of a walk -/
theorem sx_met {y : MethodName} {bytes : ByteArray} {maxL f n : Nat} {ret : Option FieldType} {v : Option Value} {As : List Value} (hy : plainFor y = true) (hml : (As.map Value.category).sum ≤ maxL)
    (body : ∀ {p : Program} {e : Env} {s : State} {m : MethodId} {below : List Frame} {meth : Method} {c : Code} {ls : Array Slot}, CallFix p m c bytes maxL s As.toArray tb_T y.cls → meth.sig.returnType = ret → meth.locks = false → ts_G A adK adV s → lv_has ls maxL (lv_args 0 As) → W p l e (k2_rm f n) s m As.toArray below meth c s.heap [] 0 0 (MQ below (sx_Q v) As.toArray s 0 0 (fun _ => False)) (F0 m 0 ls [])) :
    Met l y (Cond.code y bytes maxL ret :: tb_T) (k2_rm f n) (sx_P A adK adV As) (sx_Q v) 0 0 (fun _ => False) := by
  refine vz_ofW (cc := bytes) (maxL := maxL) (ret := ret) hy (fun args s m h hn => ?_) ?_
  · obtain ⟨meth, c, h1, h2, h3, h4, h5, h6, -, -⟩ := Cond.code_spec hn (atoms_spec (ws := Cond.code y bytes maxL ret :: tb_T) h _ List.mem_cons_self)
    exact ⟨meth, c, h1, h2, h3, h4, h5, h6⟩
  intro p e s m args below meth c s₁ B hmL hv
  obtain ⟨rfl, hG⟩ := hv
  have hts := atoms_spec (ws := Cond.code y bytes maxL ret :: tb_T) B.pre
  have hl := lv_entry As (n := maxL) (by rw [vz_sl]; exact hml)
  rw [lg_entry_eq]
  generalize (lg_sl As ++ List.replicate (maxL - (lg_sl As).length) Slot.unset).toArray = ls at hl ⊢
  exact body ⟨B.exec, B.bytes, hmL, findClass_of_methodNamed B.named, fun w hw => hts w (List.mem_cons_of_mem _ hw)⟩ B.returns B.notSynchronized hG hl
end SXB
