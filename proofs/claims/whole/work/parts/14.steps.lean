/-! THE STEPS THAT TOUCH THE HEAP. A program: methods (own class, its number, a constructor?, bytes, locals, return type, name); code; fields (class, slot, type, final?); calls (kind, callee, arguments); new (class, fields); constants; throws; catches -/
abbrev vz_M : Type := String × Nat × Bool × ByteArray × Nat × Option FieldType × MethodName
abbrev vz_P : Type := (Nat → vz_M) × (Nat → Nat → Option (Instr × Nat)) × (Nat → Nat → Option (Nat × Nat × FieldType × Bool)) × (Nat → Nat → Option (Nat × Nat × Nat)) × (Nat → Nat → Option (Nat × List Value)) × (Nat → Nat → Option Value) × (Nat → Nat → Option String) × (Nat → Nat → Option (String × Nat × Nat)) × vz_Gr × (Nat → List Value → Option Value) × (Nat → List (Nat × Nat × Nat × Nat))
def vz_own (P : vz_P) (y : Nat) : String := (P.1 y).1
def vz_ci (P : vz_P) (y : Nat) : Nat := (P.1 y).2.1
def vz_ini (P : vz_P) (y : Nat) : Bool := (P.1 y).2.2.1
def vz_bc (P : vz_P) (y : Nat) : ByteArray := (P.1 y).2.2.2.1
def vz_ml (P : vz_P) (y : Nat) : Nat := (P.1 y).2.2.2.2.1
def vz_rt (P : vz_P) (y : Nat) : Option FieldType := (P.1 y).2.2.2.2.2.1
def vz_mn (P : vz_P) (y : Nat) : MethodName := (P.1 y).2.2.2.2.2.2
def vz_I (P : vz_P) (y pc : Nat) : Option (Instr × Nat) := P.2.1 y pc
def vz_F (P : vz_P) (y ix : Nat) : Option (Nat × Nat × FieldType × Bool) := P.2.2.1 y ix
def vz_Cl (P : vz_P) (y ix : Nat) : Option (Nat × Nat × Nat) := P.2.2.2.1 y ix
def vz_N (P : vz_P) (y ix : Nat) : Option (Nat × List Value) := P.2.2.2.2.1 y ix
def vz_Kc (P : vz_P) (y ix : Nat) : Option Value := P.2.2.2.2.2.1 y ix
def vz_Th (P : vz_P) (y pc : Nat) : Option String := P.2.2.2.2.2.2.1 y pc
def vz_Ca (P : vz_P) (y pc : Nat) : Option (String × Nat × Nat) := P.2.2.2.2.2.2.2.1 y pc
def vz_gr (P : vz_P) : vz_Gr := P.2.2.2.2.2.2.2.2.1
def vz_bi (P : vz_P) (k : Nat) (As : List Value) : Option Value := P.2.2.2.2.2.2.2.2.2.1 k As
/-- a method's exception table -/
def vz_hd (P : vz_P) (y : Nat) : List (Nat × Nat × Nat × Nat) := P.2.2.2.2.2.2.2.2.2.2 y
/-- a lasting reference; a growing array goes into its own slot alone -/
def vz_ow (g : vz_Gr) (a j : Nat) (v : Value) : Bool := match v with
  | .ref k => (Nat.ble k g.1 || Nat.ble vz_M0 k) && (match g.2.1 k with
    | some z => z == (a, j)
    | none => true)
  | _ => true
theorem vz_ow_of {g : vz_Gr} {n a j : Nat} {v : Value} (h : vz_ow g a j v = true) (hv : vz_ok n v) : vz_okF g n a j v := by
  intro k e
  subst e
  unfold vz_ow at h
  dsimp only at h
  obtain ⟨h1, h2⟩ := Bool.and_eq_true_iff.mp h
  refine ⟨?_, fun z ez => ?_⟩
  · rcases hv k rfl with h3 | h3
    · rcases Bool.or_eq_true_iff.mp h1 with h4 | h4
      · exact Or.inl ⟨h3, Nat.le_of_ble_eq_true h4⟩
      · exact Or.inr (Nat.le_of_ble_eq_true h4)
    · exact Or.inr h3
  · rw [ez] at h2
    simpa using h2
/-- a value of a type, that needs no narrowing -/
def vz_fit (ty : FieldType) (v : Value) : Bool := match ty, v with
  | .int, .int _ => true
  | .long, .long _ => true
  | .boolean, .int x => x == 0 || x == 1
  | .object _, .ref _ => true
  | .object _, .null => true
  | .array _, .ref _ => true
  | .array _, .null => true
  | _, _ => false
theorem vz_fit_of {ty : FieldType} {v : Value} (h : vz_fit ty v = true) (ρ : Nat → Nat) : narrow ty (vz_t ρ v) = vz_t ρ v ∧ fits ty (vz_t ρ v) = true := by
  have hb : ∀ x : Int32, (x == 0 || x == 1) = true → narrow .boolean (vz_t ρ (.int x)) = vz_t ρ (.int x) ∧ fits .boolean (vz_t ρ (.int x)) = true := by
    intro x h
    rcases Bool.or_eq_true_iff.mp h with e | e
    · have e : x = 0 := by simpa using e
      subst e
      exact ⟨rfl, rfl⟩
    · have e : x = 1 := by simpa using e
      subst e
      exact ⟨rfl, rfl⟩
  cases ty <;> cases v <;> first | (exact ⟨rfl, rfl⟩; done) | exact hb _ h | exact nomatch (show false = true from h)
section VZX
variable {α : Type}
def vz_xi (x : Nat × vp_A) (k : Nat → (Nat → Int32) → Option α) : Option α := match x with
  | (0, n, .inl f) => k n f
  | _ => none
def vz_xl (x : Nat × vp_A) (k : Nat → (Nat → Int64) → Option α) : Option α := match x with
  | (1, n, .inr (.inl f)) => k n f
  | _ => none
def vz_xz (x : Nat × vp_A) (k : Nat → (Nat → Int32) → Option α) : Option α := match x with
  | (2, n, .inl f) => k n f
  | _ => none
theorem vz_xz_of {x : Nat × vp_A} {k : Nat → (Nat → Int32) → Option α} {z : α} (h : vz_xz x k = some z) : ∃ n f, x = (2, n, .inl f) ∧ k n f = some z := by
  unfold vz_xz at h
  split at h
  · exact ⟨_, _, rfl, h⟩
  · cases h
theorem vz_xi_of {x : Nat × vp_A} {k : Nat → (Nat → Int32) → Option α} {z : α} (h : vz_xi x k = some z) : ∃ n f, x = (0, n, .inl f) ∧ k n f = some z := by
  unfold vz_xi at h
  split at h
  · exact ⟨_, _, rfl, h⟩
  · cases h
theorem vz_xl_of {x : Nat × vp_A} {k : Nat → (Nat → Int64) → Option α} {z : α} (h : vz_xl x k = some z) : ∃ n f, x = (1, n, .inr (.inl f)) ∧ k n f = some z := by
  unfold vz_xl at h
  split at h
  · exact ⟨_, _, rfl, h⟩
  · cases h
/-- an index within -/
def vz_in (i : Int32) (n : Nat) (k : Option α) : Option α := if i < 0 ∨ n ≤ i.toNatClampNeg then none else k
theorem vz_in_of {i : Int32} {n : Nat} {k : Option α} {z : α} (h : vz_in i n k = some z) : vp_in i n ∧ k = some z := by
  unfold vz_in at h
  split at h
  · cases h
  · next e => exact ⟨e, h⟩
def vz_mk (t : ArrayType) (n : Nat) (k : va_E → Option α) : Option α := match t with
  | .int => k (.inl (0, n, .inl fun _ => 0))
  | .long => k (.inl (1, n, .inr (.inl fun _ => 0)))
  | .boolean => k (.inl (2, n, .inl fun _ => 0))
  | _ => none
end VZX
/-- an int, or a text -/
def vz_vk {α : Type} (v : Value) (k : Option α) : Option α := match v with
  | .int _ => k
  | .ref _ => k
  | _ => none
theorem vz_vk_of {α : Type} {v : Value} {k : Option α} {z : α} (h : vz_vk v k = some z) : ((∃ x, v = .int x) ∨ ∃ a, v = .ref a) ∧ k = some z := by
  cases v <;> first | exact ⟨Or.inl ⟨_, rfl⟩, h⟩ | exact ⟨Or.inr ⟨_, rfl⟩, h⟩ | exact nomatch (show (none : Option α) = some z from h)
/-- a fresh array t becomes the contents of the growing array k, which the object a holds in its slot j; the old contents go to t -/
def vz_swp (μ : vz_H) (a j k t : Nat) (o : Nat × List Value) (x x' : Nat × vp_A) : vz_H := (μ.1, va_up (va_up (va_up μ.2.1 a (.inr (o.1, o.2.set j (.ref k)))) k (.inl x)) t (.inl x'), μ.2.2.1, μ.2.2.2)
/-- putfield: of a lasting value, or of a fresh array -/
def vz_put (P : vz_P) (y pc : Nat) (lv : vz_L) (μ : vz_H) (t : Nat × Nat × FieldType × Bool) (v : Value) (a : Nat) (r : List Value) (o : Nat × List Value) : Option (Nat × vz_L × List Value × vz_H) :=
  bif vz_ow (vz_gr P) a t.2.1 v then vz_b (!t.2.2.2 || (vz_ini P y && t.1 == vz_ci P y)) (some (pc + 3, lv, r, vz_upd μ a (.inr (o.1, o.2.set t.2.1 v))))
  else vz_r [v] fun u _ => vz_b (Nat.blt (vz_gr P).1 u && !t.2.2.2 && !vz_q y) (((vz_gr P).2.2 a t.2.1).bind fun k => (vz_arr μ u).bind fun x => (vz_arr μ k).bind fun x' => vz_b (vz_nbS (vz_gr P) r) (some (pc + 3, vz_fl (vz_gr P) lv, r, vz_swp μ a t.2.1 k u o x x')))
def vz_h (P : vz_P) (y : Nat) (i : Instr) (len pc : Nat) (lv : vz_L) (st : List Value) (μ : vz_H) : Option (Nat × vz_L × List Value × vz_H) := match i with
  | .getfield ix => vz_n len 3 ((vz_F P y ix).bind fun t => vz_r st fun a r => (vz_obj μ a).bind fun o => vz_b (o.1 == t.1) ((o.2[t.2.1]?).bind fun v => some (pc + 3, lv, v :: r, μ)))
  | .putfield ix => vz_n len 3 ((vz_F P y ix).bind fun t => vz_1 st fun v r => vz_r r fun a r => (vz_obj μ a).bind fun o => vz_b (o.1 == t.1) (vz_b (decide (t.2.1 < o.2.length)) (vz_b (vz_fit t.2.2.1 v) (vz_put P y pc lv μ t v a r o))))
  | .iaload => vz_n len 1 (vz_ri st fun a i r => (vz_arr μ a).bind fun x => vz_xi x fun n f => vz_in i n (some (pc + 1, lv, .int (f i.toNatClampNeg) :: r, μ)))
  | .baload => vz_n len 1 (vz_ri st fun a i r => vz_b (decide (0 < a)) ((vz_arr μ a).bind fun x => vz_xz x fun n f => vz_in i n (some (pc + 1, lv, .int (f i.toNatClampNeg) :: r, μ))))
  | .bastore => vz_n len 1 (vz_i st fun v r => vz_ri r fun a i r => vz_b (decide (0 < a)) ((vz_arr μ a).bind fun x => vz_xz x fun n f => vz_in i n (some (pc + 1, lv, r, vz_upd μ a (.inl (2, n, .inl (upd f i.toNatClampNeg (vp_nar .boolean v)))))))) 
  | .laload => vz_n len 1 (vz_ri st fun a i r => vz_b (decide (0 < a)) ((vz_arr μ a).bind fun x => vz_xl x fun n f => vz_in i n (some (pc + 1, lv, .long (f i.toNatClampNeg) :: r, μ))))
  | .iastore => vz_n len 1 (vz_i st fun v r => vz_ri r fun a i r => vz_b (decide (0 < a)) ((vz_arr μ a).bind fun x => vz_xi x fun n f => vz_in i n (some (pc + 1, lv, r, vz_upd μ a (.inl (0, n, .inl (upd f i.toNatClampNeg v)))))))
  | .lastore => vz_n len 1 (vz_l st fun v r => vz_ri r fun a i r => vz_b (decide (0 < a)) ((vz_arr μ a).bind fun x => vz_xl x fun n f => vz_in i n (some (pc + 1, lv, r, vz_upd μ a (.inl (1, n, .inr (.inl (vp_updL f i.toNatClampNeg v))))))))
  | .arraylength => vz_n len 1 (vz_r st fun a r => (vz_arr μ a).bind fun x => vz_b (decide (x.1 < 3)) (some (pc + 1, lv, .int (Int32.ofNat x.2.1) :: r, μ)))
  | .newarray t => vz_n len 2 (vz_i st fun n r => vz_mk t n.toNatClampNeg fun x => if n < 0 ∨ 536870912 < n.toNatClampNeg * componentBytes (newarray.typeOf t) then none else vz_b (decide (μ.1 + 1 < vz_M0)) (some (pc + 2, lv, .ref (μ.1 + 1) :: r, vz_new μ x n.toNatClampNeg)))
  | .new ix => vz_n len 3 ((vz_N P y ix).bind fun t => vz_b (decide (μ.1 + 1 < vz_M0)) (some (pc + 3, lv, .ref (μ.1 + 1) :: st, vz_new μ (.inr t) t.2.length)))
  | .ldc ix => vz_n len 2 ((vz_Kc P y ix).bind fun v => vz_vk v (some (pc + 2, lv, v :: st, μ)))
  | .ldc_w ix => vz_n len 3 ((vz_Kc P y ix).bind fun v => vz_vi v fun x => some (pc + 3, lv, .int x :: st, μ))
  | .ldc2_w ix => vz_n len 3 ((vz_Kc P y ix).bind fun v => vz_vl v fun x => some (pc + 3, lv, .long x :: st, μ))
  | i => (vz_a (vz_ml P y) i len pc lv st).bind fun z => some (z.1, z.2.1, z.2.2, μ)
/-! what the tables must say -/
def vz_gI (P : vz_P) : Prop := ∀ y pc q, vz_I P y pc = some q → decode (vz_bc P y) pc = .ok q
def vz_gF (P : vz_P) (cl : List vw_C) (Ts Ns : List Cond) : Prop := ∀ y ix t, vz_F P y ix = some t → ∃ (C : String) (T : u_T) (N : Nat) (ty0 : Nat → FieldType), cl[t.1]? = some (C, T, N) ∧ t.2.1 < N ∧ (∀ w ∈ u_ws C T N, w ∈ Ts) ∧ (∀ k, k < N → parseFieldDescriptor (T k).2.2.1 = some (ty0 k)) ∧ (∀ a, a < N → ∀ b, b < N → a ≠ b → (T a).2.1 ≠ (T b).2.1) ∧ parseFieldDescriptor (T t.2.1).2.2.1 = some t.2.2.1 ∧ (T t.2.1).2.2.2 = t.2.2.2 ∧
  ((Cond.fieldLink (vz_own P y) ix (T t.2.1).1 (T t.2.1).2.1 (T t.2.1).2.2.1 ∈ Ts ∧ (t.2.2.2 = true → vz_ini P y = true → t.1 = vz_ci P y → (T t.2.1).1 = vz_own P y)) ∨
    ((t.2.2.2 = true → vz_ini P y = true → t.1 = vz_ci P y → False) ∧ ∃ host, Cond.fieldLinkNest (vz_own P y) ix (T t.2.1).1 (T t.2.1).2.1 (T t.2.1).2.2.1 host ∈ Ns))
def vz_gN (P : vz_P) (cl : List vw_C) (Ts : List Cond) : Prop := ∀ y ix t, vz_N P y ix = some t → ∃ (C : String) (T : u_T) (N : Nat) (ty0 : Nat → FieldType), cl[t.1]? = some (C, T, N) ∧ (∀ w ∈ u_ws C T N, w ∈ Ts) ∧ (∀ k, k < N → parseFieldDescriptor (T k).2.2.1 = some (ty0 k)) ∧ Cond.classLink (vz_own P y) ix C ∈ Ts ∧ Cond.instantiable C N ∈ Ts ∧ Cond.initialized C ∈ Ts ∧ t.2.length = N ∧ (∀ j, j < N → defaultValue (ty0 j) = vp_V t.2 j) ∧ ∀ v ∈ t.2, ∀ a : Nat, v ≠ .ref a
def vz_gK (P : vz_P) (Ts : List Cond) : Prop := ∀ y ix v, vz_Kc P y ix = some v → (∀ x, v = .int x → Cond.constant (vz_own P y) ix x ∈ Ts) ∧ ∀ x, v = .long x → Cond.constantLong (vz_own P y) ix x ∈ Ts
/-- a text constant, loaded -/
def vz_gL (P : vz_P) (G : State → Prop) (τ : Nat → Nat) (l : Launch) : Prop := ∀ y ix a, vz_Kc P y ix = some (.ref a) → vz_M0 ≤ a ∧ ∀ {p : Program} {e : Env} {R : Room} {s : State} {m : MethodId} {args : Array Value} {below : List Frame} {meth : Method} {c : Code} {H : Heap} {locs : List Loc} {cells slots : Nat} {Q : State → Prop} {pc : Nat} {ls : Array Slot} {rest : List Value},
  p.tables.exec = Jvm.exec → c.code = vz_bc P y → s.vm.findClass (vz_own P y) = some m.cls → G s → decode (vz_bc P y) pc = .ok (.ldc ix, 2) → W p l e R s m args below meth c H locs cells slots Q (F0 m (pc + 2) ls (.ref (τ a) :: rest)) → W p l e R s m args below meth c H locs cells slots Q (F0 m pc ls rest)
def vz_gA (Ts : List Cond) : Prop := Cond.arrayClass .int ∈ Ts ∧ Cond.arrayClass .long ∈ Ts ∧ Cond.arrayClass .boolean ∈ Ts
/-! the world -/
def vz_tys (cc : Nat → ClassId) : List (ClassId × FieldType) := [(cc 0, .int), (cc 1, .long), (cc 2, .boolean)]
/-- the heap H holds the abstract heap; cell 0 is the script, of L ints xs, at b -/
def vz_R (D : va_G) (cl : List vw_C) (cc : Nat → ClassId) (gr : vz_Gr) (τ : Nat → Nat) (A : Nat → Prop) (b L : Nat) (xs : Nat → Int32) (ρ : Nat → Nat) (μ : vz_H) (H : Heap) : Prop :=
  va_P D cl (vz_w cc ρ μ) H ∧ va_D A (vz_w cc ρ μ) ∧ vz_okH gr μ ∧ ρ 0 = b ∧ μ.2.1 0 = .inl (0, L, .inl xs) ∧ ∀ a, vz_M0 ≤ a → ρ a = τ a
def vz_Z (A : Nat → Prop) (b L : Nat) (xs : Nat → Int32) (U : State) : Prop := va_X b L xs U U.heap ∧ b < U.heap.size ∧ ¬ A b
/-- what holds in a frame of method y -/
def vz_C (P : vz_P) (D : va_G) (cl : List vw_C) (cc : Nat → ClassId) (Ts Ns : List Cond) (y : Nat) (p : Program) (s : State) (m : MethodId) (args : Array Value) (meth : Method) (c : Code) : Prop :=
  p.tables.exec = Jvm.exec ∧ c.code = vz_bc P y ∧ c.maxLocals = vz_ml P y ∧ s.vm.findClass (vz_own P y) = some m.cls ∧ (∀ w ∈ Ts, w.before args s = true) ∧ (∀ w ∈ Ns, va_Nw w s ∧ w.onTables = true) ∧ va_K D cl (vz_tys cc) s ∧ (vz_ini P y = true → meth.name = "<init>") ∧ meth.sig.returnType = vz_rt P y ∧ meth.locks = false ∧ c.exceptionTable.toList.map (fun h => (h.startPc, h.endPc, h.handlerPc, h.catchType)) = vz_hd P y
section VZH
variable {p : Program} {l : Launch} {e : Env} {R : Room} {s : State} {m : MethodId} {args : Array Value} {below : List Frame} {meth : Method} {c : Code} {H : Heap} {locs : List Loc} {cells slots : Nat} {Q : State → Prop}
variable {P : vz_P} {D : va_G} {cl : List vw_C} {cc : Nat → ClassId} {Ts Ns : List Cond} {τ : Nat → Nat} {A : Nat → Prop} {b L : Nat} {xs : Nat → Int32} {ρ : Nat → Nat} {μ : vz_H} {y pc len : Nat} {ls : Array Slot} {rest : List Value}
theorem vz_R_upd {a : Nat} {x x' : va_E} {H1 : Heap} (hR : vz_R D cl cc (vz_gr P) τ A b L xs ρ μ H) (h0 : 0 < a) (h1 : a ≤ μ.1) (hx' : vz_te cc ρ x = x') (hP : va_P D cl ((vz_w cc ρ μ).set (a - 1) (ρ a, x')) H1) (hD : va_D A ((vz_w cc ρ μ).set (a - 1) (ρ a, x'))) (hx : vz_okE (vz_gr P) μ.1 a x) : vz_R D cl cc (vz_gr P) τ A b L xs ρ (vz_upd μ a x) H1 := by
  obtain ⟨-, -, hH, hb, hz, ht⟩ := hR
  subst hx'
  rw [vz_w_set h0 h1] at hP hD
  refine ⟨hP, hD, vz_okH_upd hH hx, hb, ?_, ht⟩
  show va_up μ.2.1 a x 0 = _
  rw [va_up_ne _ _ (by omega)]
  exact hz
theorem vz_R_new {x x' : va_E} {q k : Nat} {H1 : Heap} (hR : vz_R D cl cc (vz_gr P) τ A b L xs ρ μ H) (hx' : vz_te cc (va_up ρ (μ.1 + 1) q) x = x') (hP : va_P D cl (vz_w cc ρ μ ++ [(q, x')]) H1) (hD : va_D A (vz_w cc ρ μ ++ [(q, x')])) (hn : μ.1 + 1 < vz_M0) (hx : vz_okE (vz_gr P) μ.1 (μ.1 + 1) x) : vz_R D cl cc (vz_gr P) τ A b L xs (va_up ρ (μ.1 + 1) q) (vz_new μ x k) H1 := by
  obtain ⟨-, -, hH, hb, hz, ht⟩ := hR
  rw [vz_w_new (k := k) hH hn hx'] at hP hD
  refine ⟨hP, hD, vz_okH_new hH hn hx, ?_, ?_, fun a ha => ?_⟩
  · rw [va_up_ne _ _ (by omega)]
    exact hb
  · show va_up μ.2.1 (μ.1 + 1) x 0 = _
    rw [va_up_ne _ _ (by omega)]
    exact hz
  · rw [va_up_ne _ _ (by omega)]
    exact ht a ha
theorem vz_R_obj {a : Nat} {o : Nat × List Value} (ho : vz_obj μ a = some o) : (vz_w cc ρ μ)[a - 1]? = some (ρ a, .inr (o.1, o.2.map (vz_t ρ))) := by
  obtain ⟨h0, h1, e1⟩ := vz_obj_of ho
  rw [vz_w_get h0 h1, e1]
  rfl
theorem vz_R_arr {a : Nat} {x : Nat × vp_A} (h0 : 0 < a) (ho : vz_arr μ a = some x) : (vz_w cc ρ μ)[a - 1]? = some (ρ a, .inl (cc x.1, x.2)) := by
  obtain ⟨h1, e1⟩ := vz_arr_of ho
  rw [vz_w_get h0 h1, e1]
  rfl
theorem vz_getf (gF : vz_gF P cl Ts Ns) (hC : vz_C P D cl cc Ts Ns y p s m args meth c) (hR : vz_R D cl cc (vz_gr P) τ A b L xs ρ μ H) {ix a : Nat} {t : Nat × Nat × FieldType × Bool} {o : Nat × List Value} {v : Value} (hF : vz_F P y ix = some t) (ho : vz_obj μ a = some o) (hci : o.1 = t.1) (hv : o.2[t.2.1]? = some v) (hd : decode (vz_bc P y) pc = .ok (.getfield ix, 3))
    (kk : W p l e R s m args below meth c H locs cells slots Q (F0 m (pc + 3) ls (vz_t ρ v :: rest))) : W p l e R s m args below meth c H locs cells slots Q (F0 m pc ls (.ref (ρ a) :: rest)) := by
  obtain ⟨hx, hb, hml, hown, hts, hns, hK, hin, hrt, hlk⟩ := hC
  obtain ⟨C, T, N, ty0, hc, hk, hw, hty, hnm, hd9, hfin, hlink⟩ := gF y ix t hF
  have he := vz_R_obj (cc := cc) (ρ := ρ) ho
  rw [hci] at he
  have hv9 : (o.2.map (vz_t ρ))[t.2.1]? = some (vz_t ρ v) := by rw [List.getElem?_map, hv]; rfl
  rcases hlink with ⟨h1, -⟩ | ⟨-, host, h1⟩
  · exact va_get hx hb hts hw hown hK hR.1 (a - 1) he hc t.2.1 hk (hts _ h1) (fun _ h9 => h9) hv9 hd kk
  · exact va_getN hx hb hts hw hown hK hR.1 (a - 1) he hc t.2.1 hk (va_Nw.use (hns _ h1).2 (hns _ h1).1) (fun _ h9 => h9) hv9 hd kk
theorem vz_putr (gF : vz_gF P cl Ts Ns) (hC : vz_C P D cl cc Ts Ns y p s m args meth c) (hR : vz_R D cl cc (vz_gr P) τ A b L xs ρ μ H) (hS : va_S A s.heap H locs) {ix a : Nat} {t : Nat × Nat × FieldType × Bool} {o : Nat × List Value} {v : Value} (hF : vz_F P y ix = some t) (ho : vz_obj μ a = some o) (hci : o.1 = t.1) (hlt : t.2.1 < o.2.length) (hfit : vz_fit t.2.2.1 v = true) (hfi : (!t.2.2.2 || (vz_ini P y && t.1 == vz_ci P y)) = true) (hd : decode (vz_bc P y) pc = .ok (.putfield ix, 3))
    (kk9 : ∀ (H1 : Heap) (locs1 : List Loc), va_P D cl ((vz_w cc ρ μ).set (a - 1) (ρ a, .inr (o.1, (o.2.map (vz_t ρ)).set t.2.1 (vz_t ρ v)))) H1 → va_D A ((vz_w cc ρ μ).set (a - 1) (ρ a, .inr (o.1, (o.2.map (vz_t ρ)).set t.2.1 (vz_t ρ v)))) → va_S A s.heap H1 locs1 → W p l e R s m args below meth c H1 locs1 cells slots Q (F0 m (pc + 3) ls rest)) : W p l e R s m args below meth c H locs cells slots Q (F0 m pc ls (vz_t ρ v :: .ref (ρ a) :: rest)) := by
  obtain ⟨hx, hb, hml, hown, hts, hns, hK, hin, hrt, hlk⟩ := hC
  obtain ⟨C, T, N, ty0, hc, hk, hw, hty, hnm, hd9, hfin, hlink⟩ := gF y ix t hF
  have he := vz_R_obj (cc := cc) (ρ := ρ) ho
  obtain ⟨hn9, hf9⟩ := vz_fit_of hfit ρ
  have hl9 : t.2.1 < (o.2.map (vz_t ρ)).length := by rw [List.length_map]; exact hlt
  rw [hci] at he kk9
  rcases hlink with ⟨h2, h3⟩ | ⟨h3, host, h2⟩
  · cases hff : t.2.2.2 with
    | false => exact va_put hx hb hts hw ty0 hty hnm hown hK hR.1 hR.2.1 hS (a - 1) he hc t.2.1 hk (hts _ h2) (fun _ h9 => h9) (hfin.trans hff) hd9 hn9 hf9 hl9 hd kk9
    | true =>
      have hi : vz_ini P y = true ∧ t.1 = vz_ci P y := by rw [hff] at hfi; simpa using hfi
      exact va_putF hx hb hts hw ty0 hty hnm hown hK hR.1 hR.2.1 hS (a - 1) he hc t.2.1 hk (hts _ h2) (fun _ h9 => h9) (hfin.trans hff) (hin hi.1) (h3 hff hi.1 hi.2) hd9 hn9 hf9 hl9 hd kk9
  · cases hff : t.2.2.2 with
    | false => exact va_putN hx hb hts hw ty0 hty hnm hown hK hR.1 hR.2.1 hS (a - 1) he hc t.2.1 hk (va_Nw.use (hns _ h2).2 (hns _ h2).1) (fun _ h9 => h9) (hfin.trans hff) hd9 hn9 hf9 hl9 hd kk9
    | true =>
      have hi : vz_ini P y = true ∧ t.1 = vz_ci P y := by rw [hff] at hfi; simpa using hfi
      exact (h3 hff hi.1 hi.2).elim
theorem vz_R_put {a j : Nat} {o : Nat × List Value} {v : Value} {H1 : Heap} (hR : vz_R D cl cc (vz_gr P) τ A b L xs ρ μ H) (ho : vz_obj μ a = some o) (hlt : j < o.2.length) (how : vz_ow (vz_gr P) a j v = true) (hvo : vz_ok μ.1 v)
    (hP1 : va_P D cl ((vz_w cc ρ μ).set (a - 1) (ρ a, .inr (o.1, (o.2.map (vz_t ρ)).set j (vz_t ρ v)))) H1) (hD1 : va_D A ((vz_w cc ρ μ).set (a - 1) (ρ a, .inr (o.1, (o.2.map (vz_t ρ)).set j (vz_t ρ v))))) : vz_R D cl cc (vz_gr P) τ A b L xs ρ (vz_upd μ a (.inr (o.1, o.2.set j v))) H1 := by
  obtain ⟨h0, h1, e1⟩ := vz_obj_of ho
  have hko : vz_okE (vz_gr P) μ.1 a (.inr (o.1, o.2.set j v)) := by
    intro n9 w hw9
    have hw9 : (o.2.set j v)[n9]? = some w := hw9
    by_cases ej : j = n9
    · subst ej
      rw [List.getElem?_set_self hlt] at hw9
      cases hw9
      exact vz_ow_of how hvo
    · rw [List.getElem?_set_ne ej] at hw9
      have h2 := hR.2.2.1.2 a h0 h1
      rw [e1] at h2
      exact h2 n9 w hw9
  exact vz_R_upd hR h0 h1 (by show Sum.inr (o.1, (o.2.set j v).map (vz_t ρ)) = _; rw [List.map_set]) hP1 hD1 hko
/-- the growing arrays' table -/
def vz_gG (P : vz_P) : Prop := ∀ o j k, (vz_gr P).2.2 o j = some k → (vz_gr P).2.1 k = some (o, j) ∧ 0 < k ∧ k ≤ (vz_gr P).1
theorem vz_R_swp (gG : vz_gG P) {a j k u : Nat} {o : Nat × List Value} {x x' : Nat × vp_A} {H1 : Heap} (hR : vz_R D cl cc (vz_gr P) τ A b L xs ρ μ H) (ho : vz_obj μ a = some o) (hlt : j < o.2.length) (hu : (vz_gr P).1 < u) (hk : (vz_gr P).2.2 a j = some k) (hx : vz_arr μ u = some x) (hx' : vz_arr μ k = some x')
    (hP1 : va_P D cl ((vz_w cc ρ μ).set (a - 1) (ρ a, .inr (o.1, (o.2.map (vz_t ρ)).set j (.ref (ρ u))))) H1) (hD1 : va_D A ((vz_w cc ρ μ).set (a - 1) (ρ a, .inr (o.1, (o.2.map (vz_t ρ)).set j (.ref (ρ u)))))) : vz_R D cl cc (vz_gr P) τ A b L xs (va_up (va_up ρ k (ρ u)) u (ρ k)) (vz_swp μ a j k u o x x') H1 := by
  obtain ⟨g1, g2, g3⟩ := gG a j k hk
  obtain ⟨o0, o1, eo⟩ := vz_obj_of ho
  obtain ⟨u1, eu⟩ := vz_arr_of hx
  obtain ⟨k1, ek⟩ := vz_arr_of hx'
  obtain ⟨-, -, hH, hb0, hz, hτ⟩ := hR
  have hM := hH.1
  have hua : u ≠ a := fun e => by rw [e, eo] at eu; cases eu
  have hka : k ≠ a := fun e => by rw [e, eo] at ek; cases ek
  have hku : k ≠ u := by omega
  have u0 : 0 < u := by omega
  generalize hρ2 : va_up (va_up ρ k (ρ u)) u (ρ k) = ρ2
  have r1 : ∀ q, q ≠ k → q ≠ u → ρ2 q = ρ q := fun q h1 h2 => by rw [← hρ2, va_up_ne _ _ h2, va_up_ne _ _ h1]
  have rk : ρ2 k = ρ u := by rw [← hρ2, va_up_ne _ _ hku, va_up_self]
  have ru : ρ2 u = ρ k := by rw [← hρ2, va_up_self]
  have tv : ∀ (q n9 : Nat) (w : Value), vz_okF (vz_gr P) μ.1 q n9 w → (q, n9) ≠ (a, j) → vz_t ρ2 w = vz_t ρ w := by
    intro q n9 w hw hne
    cases w with
    | ref c9 =>
      obtain ⟨f1, f2⟩ := hw c9 rfl
      show Value.ref (ρ2 c9) = Value.ref (ρ c9)
      rw [r1 c9 (fun e => hne ((f2 (a, j) (by rw [e]; exact g1)).symm)) (fun e => by rcases f1 with f1 | f1 <;> omega)]
    | _ => rfl
  have hw2 : ∀ i, i < μ.1 → (vz_w cc ρ2 (vz_swp μ a j k u o x x'))[i]? = some (ρ2 (i + 1), vz_te cc ρ2 ((vz_swp μ a j k u o x x').2.1 (i + 1))) := fun i hi => by
    have e1 := vz_w_get (cc := cc) (ρ := ρ2) (μ := vz_swp μ a j k u o x x') (a := i + 1) (by omega) hi
    rw [Nat.add_sub_cancel] at e1
    exact e1
  have hw1 : ∀ q, 0 < q → q ≤ μ.1 → q ≠ a → ((vz_w cc ρ μ).set (a - 1) (ρ a, .inr (o.1, (o.2.map (vz_t ρ)).set j (.ref (ρ u)))))[q - 1]? = some (ρ q, vz_te cc ρ (μ.2.1 q)) := fun q q0 q1 qa => by
    rw [List.getElem?_set_ne (by omega), vz_w_get q0 q1]
  have cu : (vz_swp μ a j k u o x x').2.1 u = .inl x' := va_up_self _ _ _
  have ck : (vz_swp μ a j k u o x x').2.1 k = .inl x := by
    show va_up (va_up (va_up μ.2.1 a _) k (.inl x)) u (.inl x') k = _
    rw [va_up_ne _ _ hku, va_up_self]
  have ca : (vz_swp μ a j k u o x x').2.1 a = .inr (o.1, o.2.set j (.ref k)) := by
    show va_up (va_up (va_up μ.2.1 a _) k (.inl x)) u (.inl x') a = _
    rw [va_up_ne _ _ (Ne.symm hua), va_up_ne _ _ (Ne.symm hka), va_up_self]
  have cq : ∀ q, q ≠ u → q ≠ k → q ≠ a → (vz_swp μ a j k u o x x').2.1 q = μ.2.1 q := fun q h1 h2 h3 => by
    show va_up (va_up (va_up μ.2.1 a _) k (.inl x)) u (.inl x') q = _
    rw [va_up_ne _ _ h1, va_up_ne _ _ h2, va_up_ne _ _ h3]
  have hg : ∀ (i : Nat) (q : Nat × va_E), (vz_w cc ρ2 (vz_swp μ a j k u o x x'))[i]? = some q → ((vz_w cc ρ μ).set (a - 1) (ρ a, .inr (o.1, (o.2.map (vz_t ρ)).set j (.ref (ρ u)))))[if i = k - 1 then u - 1 else if i = u - 1 then k - 1 else i]? = some q := by
    intro i q hq
    have hi : i < μ.1 := by
      have := (List.getElem?_eq_some_iff.mp hq).1
      rw [vz_w_len] at this
      exact this
    rw [hw2 i hi] at hq
    cases hq
    by_cases hik : i = k - 1
    · rw [if_pos hik, show i + 1 = k by omega, hw1 u u0 u1 hua, rk, ck, eu]
      rfl
    · rw [if_neg hik]
      by_cases hiu : i = u - 1
      · rw [if_pos hiu, show i + 1 = u by omega, hw1 k g2 k1 hka, ru, cu, ek]
        rfl
      · rw [if_neg hiu, r1 (i + 1) (by omega) (by omega)]
        by_cases hia : i = a - 1
        · rw [hia, show a - 1 + 1 = a by omega, List.getElem?_set_self (by rw [vz_w_len]; omega), ca]
          congr 2
          show Sum.inr (o.1, (o.2.map (vz_t ρ)).set j (.ref (ρ u))) = Sum.inr (o.1, (o.2.set j (.ref k)).map (vz_t ρ2))
          congr 2
          rw [List.map_set]
          show _ = (o.2.map (vz_t ρ2)).set j (.ref (ρ2 k))
          rw [rk]
          apply List.ext_getElem?
          intro n9
          by_cases hn : j = n9
          · subst hn
            rw [List.getElem?_set_self (by rw [List.length_map]; exact hlt), List.getElem?_set_self (by rw [List.length_map]; exact hlt)]
          · rw [List.getElem?_set_ne hn, List.getElem?_set_ne hn, List.getElem?_map, List.getElem?_map]
            cases hw : o.2[n9]? with
            | none => rfl
            | some w =>
              have h9 := hH.2 a o0 o1
              rw [eo] at h9
              show some (vz_t ρ w) = some (vz_t ρ2 w)
              rw [tv a n9 w (h9 n9 w hw) (fun e => hn (congrArg Prod.snd e).symm)]
        · have e3 := hw1 (i + 1) (by omega) hi (by omega)
          rw [Nat.add_sub_cancel] at e3
          rw [e3, cq (i + 1) (by omega) (by omega) (by omega)]
          have h9 := hH.2 (i + 1) (by omega) hi
          cases hc : μ.2.1 (i + 1) with
          | inl a9 => rfl
          | inr ob9 =>
            rw [hc] at h9
            show some (ρ (i + 1), Sum.inr (ob9.1, ob9.2.map (vz_t ρ))) = some (ρ (i + 1), Sum.inr (ob9.1, ob9.2.map (vz_t ρ2)))
            rw [List.map_congr_left fun w hw => by
              obtain ⟨n9, hn9⟩ := List.getElem?_of_mem hw
              exact (tv (i + 1) n9 w (h9 n9 w hn9) (fun e => hia (by have := congrArg Prod.fst e; dsimp only at this; omega))).symm]
  refine ⟨hP1.by _ hg, hD1.by _ hg ?_, ⟨hM, ?_⟩, ?_, ?_, ?_⟩
  · intro i1 i2 h1 h2 h3
    rw [vz_w_len] at h1 h2
    have h1 : i1 < μ.1 := h1
    have h2 : i2 < μ.1 := h2
    split at h3 <;> split at h3 <;> (try split at h3) <;> (try split at h3) <;> omega
  · intro q q0 q1
    have q1 : q ≤ μ.1 := q1
    show vz_okE (vz_gr P) μ.1 q ((vz_swp μ a j k u o x x').2.1 q)
    by_cases qu : q = u
    · rw [qu, cu]; exact trivial
    · by_cases qk : q = k
      · rw [qk, ck]; exact trivial
      · by_cases qa : q = a
        · rw [qa, ca]
          have h9 := hH.2 a o0 o1
          rw [eo] at h9
          intro n9 w hw
          have hw : (o.2.set j (.ref k))[n9]? = some w := hw
          by_cases hn : j = n9
          · subst hn
            rw [List.getElem?_set_self hlt] at hw
            cases hw
            intro c9 e9
            cases e9
            exact ⟨Or.inl ⟨k1, g3⟩, fun z ez => Option.some.inj (ez.symm.trans g1)⟩
          · rw [List.getElem?_set_ne hn] at hw
            exact h9 n9 w hw
        · rw [cq q qu qk qa]
          exact hH.2 q q0 q1
  · rw [r1 0 (by omega) (by omega)]
    exact hb0
  · rw [cq 0 (by omega) (by omega) (by omega)]
    exact hz
  · intro q hq
    rw [r1 q (by omega) (by omega)]
    exact hτ q hq
theorem vz_ex_swp (gG : vz_gG P) {n a j k u : Nat} (hu : (vz_gr P).1 < u) (hu2 : u < vz_M0) (hk : (vz_gr P).2.2 a j = some k) (x1 x2 : Nat) : vz_ex (vz_gr P) n (va_up (va_up ρ k x1) u x2) ρ := by
  obtain ⟨g1, g2, g3⟩ := gG a j k hk
  intro q hq hs
  unfold vz_stb at hs
  obtain ⟨s1, s2⟩ := Bool.and_eq_true_iff.mp hs
  rw [va_up_ne _ _ (fun e => by
    rw [e] at s1
    rcases Bool.or_eq_true_iff.mp s1 with h | h
    · have := Nat.le_of_ble_eq_true h; omega
    · have := Nat.le_of_ble_eq_true h; omega), va_up_ne _ _ (fun e => by rw [e, g1] at s2; cases s2)]
end VZH
