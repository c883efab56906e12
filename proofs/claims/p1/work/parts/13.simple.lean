/-! the simple instructions: no heap -/
section VZS
variable {α : Type}
def vz_n (a b : Nat) (k : Option α) : Option α := if a = b then k else none
theorem vz_n_of {a b : Nat} {k : Option α} {z : α} (h : vz_n a b k = some z) : a = b ∧ k = some z := by
  unfold vz_n at h
  split at h
  · next e => exact ⟨e, h⟩
  · cases h
def vz_b (a : Bool) (k : Option α) : Option α := match a with
  | true => k
  | false => none
theorem vz_b_of {a : Bool} {k : Option α} {z : α} (h : vz_b a k = some z) : a = true ∧ k = some z := by
  cases a
  · cases h
  · exact ⟨rfl, h⟩
def vz_vi (v : Value) (k : Int32 → Option α) : Option α := match v with
  | .int x => k x
  | _ => none
theorem vz_vi_of {v : Value} {k : Int32 → Option α} {z : α} (h : vz_vi v k = some z) : ∃ x, v = .int x ∧ k x = some z := by
  cases v <;> first | exact ⟨_, rfl, h⟩ | exact nomatch (show (none : Option α) = some z from h)
def vz_vl (v : Value) (k : Int64 → Option α) : Option α := match v with
  | .long x => k x
  | _ => none
theorem vz_vl_of {v : Value} {k : Int64 → Option α} {z : α} (h : vz_vl v k = some z) : ∃ x, v = .long x ∧ k x = some z := by
  cases v <;> first | exact ⟨_, rfl, h⟩ | exact nomatch (show (none : Option α) = some z from h)
def vz_va (v : Value) (k : Option α) : Option α := match v with
  | .ref _ => k
  | .null => k
  | _ => none
theorem vz_va_of {v : Value} {k : Option α} {z : α} (h : vz_va v k = some z) : (v = .null ∨ ∃ a, v = .ref a) ∧ k = some z := by
  cases v <;> first | exact ⟨Or.inl rfl, h⟩ | exact ⟨Or.inr ⟨_, rfl⟩, h⟩ | exact nomatch (show (none : Option α) = some z from h)
def vz_1 (st : List Value) (k : Value → List Value → Option α) : Option α := match st with
  | a :: r => k a r
  | [] => none
theorem vz_1_of {st : List Value} {k : Value → List Value → Option α} {z : α} (h : vz_1 st k = some z) : ∃ a r, st = a :: r ∧ k a r = some z := by
  cases st with
  | nil => exact nomatch (show (none : Option α) = some z from h)
  | cons a r => exact ⟨a, r, rfl, h⟩
def vz_va1 (st : List Value) (k : Value → List Value → Option α) : Option α := vz_1 st fun a r => vz_va a (k a r)
theorem vz_va1_of {st : List Value} {k : Value → List Value → Option α} {z : α} (h : vz_va1 st k = some z) : ∃ a r, st = a :: r ∧ (a = .null ∨ ∃ b, a = .ref b) ∧ k a r = some z := by
  obtain ⟨a, r, e, h⟩ := vz_1_of h
  obtain ⟨hz, h⟩ := vz_va_of h
  exact ⟨a, r, e, hz, h⟩
theorem vz_c1 {ρ : Nat → Nat} {a : Value} (h : (a.category == 1) = true) : (vz_t ρ a).category = 1 := (vz_t_cat ρ a).trans (by simpa using h)
end VZS
def vz_c0 (cd : ClassFile.Cond) (x : Int32) (t pc : Nat) : Nat := match cd with
  | .eq => if x = 0 then t else pc + 3
  | .ne => if ¬ x = 0 then t else pc + 3
  | .lt => if x < 0 then t else pc + 3
  | .ge => if 0 ≤ x then t else pc + 3
  | .gt => if 0 < x then t else pc + 3
  | .le => if x ≤ 0 then t else pc + 3
def vz_c2 (cd : ClassFile.Cond) (x y : Int32) (t pc : Nat) : Nat := match cd with
  | .eq => if x = y then t else pc + 3
  | .ne => if ¬ x = y then t else pc + 3
  | .lt => if x < y then t else pc + 3
  | .ge => if y ≤ x then t else pc + 3
  | .gt => if y < x then t else pc + 3
  | .le => if x ≤ y then t else pc + 3
def vz_a (nL : Nat) (i : Instr) (len pc : Nat) (lv : vz_L) (st : List Value) : Option (Nat × vz_L × List Value) := match i with
  | .iconst n => vz_n len 1 (some (pc + 1, lv, .int (Int32.ofInt n) :: st))
  | .bipush n => vz_n len 2 (some (pc + 2, lv, .int (Int8.ofInt n).toInt32 :: st))
  | .sipush n => vz_n len 3 (some (pc + 3, lv, .int (Int16.ofInt n).toInt32 :: st))
  | .lconst n => vz_n len 1 (some (pc + 1, lv, .long (Int64.ofNat (n : Nat)) :: st))
  | .aconst_null => vz_n len 1 (some (pc + 1, lv, .null :: st))
  | .iload_n n => vz_n len 1 ((vz_g lv n).bind fun v => vz_vi v fun x => some (pc + 1, lv, .int x :: st))
  | .iload n => vz_n len 2 ((vz_g lv n).bind fun v => vz_vi v fun x => some (pc + 2, lv, .int x :: st))
  | .lload_n n => vz_n len 1 ((vz_g lv n).bind fun v => vz_vl v fun x => some (pc + 1, lv, .long x :: st))
  | .lload n => vz_n len 2 ((vz_g lv n).bind fun v => vz_vl v fun x => some (pc + 2, lv, .long x :: st))
  | .aload_n n => vz_n len 1 ((vz_g lv n).bind fun v => vz_va v (some (pc + 1, lv, v :: st)))
  | .aload n => vz_n len 2 ((vz_g lv n).bind fun v => vz_va v (some (pc + 2, lv, v :: st)))
  | .istore_n n => vz_n len 1 (vz_i st fun x r => vz_b (decide ((n : Nat) < nL)) (some (pc + 1, vz_s1 lv n (.int x), r)))
  | .istore n => vz_n len 2 (vz_i st fun x r => vz_b (decide ((n : Nat) < nL)) (some (pc + 2, vz_s1 lv n (.int x), r)))
  | .lstore_n n => vz_n len 1 (vz_l st fun x r => vz_b (decide ((n : Nat) + 1 < nL)) (some (pc + 1, vz_s2 lv n (.long x), r)))
  | .lstore n => vz_n len 2 (vz_l st fun x r => vz_b (decide ((n : Nat) + 1 < nL)) (some (pc + 2, vz_s2 lv n (.long x), r)))
  | .astore_n n => vz_n len 1 (vz_va1 st fun v r => vz_b (decide ((n : Nat) < nL)) (some (pc + 1, vz_s1 lv n v, r)))
  | .astore n => vz_n len 2 (vz_va1 st fun v r => vz_b (decide ((n : Nat) < nL)) (some (pc + 2, vz_s1 lv n v, r)))
  | .iinc i n => vz_n len 3 ((vz_g lv i).bind fun v => vz_vi v fun x => vz_b (decide (i < nL)) (some (pc + 3, vz_s1 lv i (.int (x + Int32.ofInt n)), st)))
  | .iadd => vz_n len 1 (vz_ii st fun x y r => some (pc + 1, lv, .int (x + y) :: r))
  | .isub => vz_n len 1 (vz_ii st fun x y r => some (pc + 1, lv, .int (x - y) :: r))
  | .imul => vz_n len 1 (vz_ii st fun x y r => some (pc + 1, lv, .int (x * y) :: r))
  | .iand => vz_n len 1 (vz_ii st fun x y r => some (pc + 1, lv, .int (x &&& y) :: r))
  | .ior => vz_n len 1 (vz_ii st fun x y r => some (pc + 1, lv, .int (x ||| y) :: r))
  | .ixor => vz_n len 1 (vz_ii st fun x y r => some (pc + 1, lv, .int (x ^^^ y) :: r))
  | .ishl => vz_n len 1 (vz_ii st fun x y r => some (pc + 1, lv, .int (x <<< (y &&& 31)) :: r))
  | .ishr => vz_n len 1 (vz_ii st fun x y r => some (pc + 1, lv, .int (x >>> (y &&& 31)) :: r))
  | .iushr => vz_n len 1 (vz_ii st fun x y r => some (pc + 1, lv, .int (x.toUInt32 >>> (y.toUInt32 &&& Int32.toUInt32 31)).toInt32 :: r))
  | .idiv => vz_n len 1 (vz_ii st fun x y r => vz_b (!decide (y = 0)) (some (pc + 1, lv, .int (x / y) :: r)))
  | .irem => vz_n len 1 (vz_ii st fun x y r => vz_b (!decide (y = 0)) (some (pc + 1, lv, .int (x - x / y * y) :: r)))
  | .ladd => vz_n len 1 (vz_ll st fun x y r => some (pc + 1, lv, .long (x + y) :: r))
  | .lsub => vz_n len 1 (vz_ll st fun x y r => some (pc + 1, lv, .long (x - y) :: r))
  | .lmul => vz_n len 1 (vz_ll st fun x y r => some (pc + 1, lv, .long (x * y) :: r))
  | .land => vz_n len 1 (vz_ll st fun x y r => some (pc + 1, lv, .long (x &&& y) :: r))
  | .lor => vz_n len 1 (vz_ll st fun x y r => some (pc + 1, lv, .long (x ||| y) :: r))
  | .lxor => vz_n len 1 (vz_ll st fun x y r => some (pc + 1, lv, .long (x ^^^ y) :: r))
  | .ldiv => vz_n len 1 (vz_ll st fun x y r => vz_b (!decide (y = 0)) (some (pc + 1, lv, .long (x / y) :: r)))
  | .lrem => vz_n len 1 (vz_ll st fun x y r => vz_b (!decide (y = 0)) (some (pc + 1, lv, .long (x - x / y * y) :: r)))
  | .lushr => vz_n len 1 (vz_li st fun x y r => some (pc + 1, lv, .long ((x.toUInt64 >>> (y.toInt64.toUInt64 &&& Int64.toUInt64 63)).toInt64) :: r))
  | .lshl => vz_n len 1 (vz_li st fun x y r => some (pc + 1, lv, .long (x <<< (y.toInt64 &&& 63)) :: r))
  | .lshr => vz_n len 1 (vz_li st fun x y r => some (pc + 1, lv, .long (x >>> (y.toInt64 &&& 63)) :: r))
  | .lcmp => vz_n len 1 (vz_ll st fun x y r => some (pc + 1, lv, .int (lg_cmp x y) :: r))
  | .ineg => vz_n len 1 (vz_i st fun x r => some (pc + 1, lv, .int (-x) :: r))
  | .lneg => vz_n len 1 (vz_l st fun x r => some (pc + 1, lv, .long (-x) :: r))
  | .i2l => vz_n len 1 (vz_i st fun x r => some (pc + 1, lv, .long x.toInt64 :: r))
  | .i2b => vz_n len 1 (vz_i st fun x r => some (pc + 1, lv, .int x.toInt8.toInt32 :: r))
  | .i2s => vz_n len 1 (vz_i st fun x r => some (pc + 1, lv, .int x.toInt16.toInt32 :: r))
  | .i2c => vz_n len 1 (vz_i st fun x r => some (pc + 1, lv, .int (x.toUInt32 % 65536).toInt32 :: r))
  | .l2i => vz_n len 1 (vz_l st fun x r => some (pc + 1, lv, .int x.toInt32 :: r))
  | .dup => vz_n len 1 (vz_1 st fun a r => vz_b (a.category == 1) (some (pc + 1, lv, a :: a :: r)))
  | .pop => vz_n len 1 (vz_1 st fun a r => vz_b (a.category == 1) (some (pc + 1, lv, r)))
  | .dup_x1 => vz_n len 1 (vz_1 st fun a r => vz_1 r fun b r => vz_b (a.category == 1) (vz_b (b.category == 1) (some (pc + 1, lv, a :: b :: a :: r))))
  | .dup_x2 => vz_n len 1 (vz_1 st fun a r => vz_1 r fun b r => vz_1 r fun d r => vz_b (a.category == 1) (vz_b (b.category == 1) (vz_b (d.category == 1) (some (pc + 1, lv, a :: b :: d :: a :: r)))))
  | .dup2 => vz_n len 1 (vz_1 st fun a r => if a.category = 2 then some (pc + 1, lv, a :: a :: r) else vz_1 r fun b r => vz_b (b.category == 1) (some (pc + 1, lv, a :: b :: a :: b :: r)))
  | .pop2 => vz_n len 1 (vz_1 st fun a r => if a.category = 2 then some (pc + 1, lv, r) else vz_1 r fun b r => vz_b (b.category == 1) (some (pc + 1, lv, r)))
  | .ifCond cd off => vz_n len 3 (vz_i st fun x r => vz_j pc off fun t => some (vz_c0 cd x t pc, lv, r))
  | .if_icmp cd off => vz_n len 3 (vz_ii st fun x y r => vz_j pc off fun t => some (vz_c2 cd x y t pc, lv, r))
  | .goto off => vz_n len 3 (vz_j pc off fun t => some (t, lv, st))
  | .ifnull off => vz_n len 3 (vz_va1 st fun v r => vz_j pc off fun t => some (if v = .null then t else pc + 3, lv, r))
  | .ifnonnull off => vz_n len 3 (vz_va1 st fun v r => vz_j pc off fun t => some (if v = .null then pc + 3 else t, lv, r))
  | .lookupswitch dflt ps => vz_b ((ps.toList.zip (ps.toList.drop 1)).all (fun (a, next) => a.1 < next.1)) (vz_i st fun x r => vz_j pc (Op.lookupswitch.offset ps.toList dflt x.toInt) fun t => some (t, lv, r))
  | .tableswitch dflt lo hi offs => vz_i st fun x r => if x.toInt < lo ∨ hi < x.toInt then vz_j pc dflt fun t => some (t, lv, r) else (offs[(x.toInt - lo).toNat]?).bind fun off => vz_j pc off fun t => some (t, lv, r)
  | _ => none
section VZT
variable {p : Program} {l : Launch} {e : Env} {R : Room} {s : State} {m : MethodId} {args : Array Value} {below : List Frame} {meth : Method} {c : Code} {H : Heap} {locs : List Loc} {cells slots : Nat} {Q : State → Prop}
variable {cc : ByteArray} {pc nL len : Nat} {ls : Array Slot} {lv : vz_L} {st : List Value} {ρ : Nat → Nat} {z : Nat × vz_L × List Value}
set_option maxHeartbeats 4000000 in
set_option maxRecDepth 100000 in
/-- a simple instruction of the abstract machine is one of the machine -/
theorem vz_A (hexec : p.tables.exec = Jvm.exec) (hb : c.code = cc) {i : Instr} (hd : decode cc pc = .ok (i, len)) (h : vz_a nL i len pc lv st = some z) (hl : lv_has ls nL (vz_tl ρ lv))
    (k : ∀ ls' : Array Slot, lv_has ls' nL (vz_tl ρ z.2.1) → W p l e R s m args below meth c H locs cells slots Q (F0 m z.1 ls' (vz_ts ρ z.2.2))) : W p l e R s m args below meth c H locs cells slots Q (F0 m pc ls (vz_ts ρ st)) := by
  cases i with
  | iconst n =>
    obtain ⟨rfl, h⟩ := vz_n_of h
    cases h
    exact lv_iconst hexec hb hd rfl (k ls hl)
  | bipush n =>
    obtain ⟨rfl, h⟩ := vz_n_of h
    cases h
    exact lv_bipush hexec hb hd rfl (k ls hl)
  | sipush n =>
    obtain ⟨rfl, h⟩ := vz_n_of h
    cases h
    exact lv_sipush hexec hb hd rfl (k ls hl)
  | lconst n =>
    obtain ⟨rfl, h⟩ := vz_n_of h
    cases h
    exact lv_lconst hexec hb hd rfl (k ls hl)
  | aconst_null =>
    obtain ⟨rfl, h⟩ := vz_n_of h
    cases h
    exact lv_null hexec hb hd (k ls hl)
  | iload_n n =>
    obtain ⟨rfl, h⟩ := vz_n_of h
    obtain ⟨v, hv, h⟩ := Option.bind_eq_some_iff.mp h
    obtain ⟨x, rfl, h⟩ := vz_vi_of h
    cases h
    exact lv_iload_n hexec hb hd rfl (vz_at hl hv) (k ls hl)
  | iload n =>
    obtain ⟨rfl, h⟩ := vz_n_of h
    obtain ⟨v, hv, h⟩ := Option.bind_eq_some_iff.mp h
    obtain ⟨x, rfl, h⟩ := vz_vi_of h
    cases h
    exact lv_iload hexec hb hd (vz_at hl hv) (k ls hl)
  | lload_n n =>
    obtain ⟨rfl, h⟩ := vz_n_of h
    obtain ⟨v, hv, h⟩ := Option.bind_eq_some_iff.mp h
    obtain ⟨x, rfl, h⟩ := vz_vl_of h
    cases h
    exact lv_lload_n hexec hb hd rfl (vz_at hl hv) (k ls hl)
  | lload n =>
    obtain ⟨rfl, h⟩ := vz_n_of h
    obtain ⟨v, hv, h⟩ := Option.bind_eq_some_iff.mp h
    obtain ⟨x, rfl, h⟩ := vz_vl_of h
    cases h
    exact lv_lload hexec hb hd (vz_at hl hv) (k ls hl)
  | aload_n n =>
    obtain ⟨rfl, h⟩ := vz_n_of h
    obtain ⟨v, hv, h⟩ := Option.bind_eq_some_iff.mp h
    obtain ⟨hz, h⟩ := vz_va_of h
    cases h
    rcases hz with rfl | ⟨a, rfl⟩
    · exact lv_aload_nN hexec hb hd rfl (vz_at hl hv) (k ls hl)
    · exact lv_aload_n hexec hb hd rfl (vz_at hl hv) (k ls hl)
  | aload n =>
    obtain ⟨rfl, h⟩ := vz_n_of h
    obtain ⟨v, hv, h⟩ := Option.bind_eq_some_iff.mp h
    obtain ⟨hz, h⟩ := vz_va_of h
    cases h
    rcases hz with rfl | ⟨a, rfl⟩
    · exact lv_aloadN hexec hb hd (vz_at hl hv) (k ls hl)
    · exact lv_aload hexec hb hd (vz_at hl hv) (k ls hl)
  | istore_n n =>
    obtain ⟨rfl, h⟩ := vz_n_of h
    obtain ⟨x, r, rfl, h⟩ := vz_i_of h
    obtain ⟨hn, h⟩ := vz_b_of h
    cases h
    exact lv_istore_n hexec hb hd rfl hl (of_decide_eq_true hn) (vz_tl_s1 ρ lv _ (.int x)) (fun ls' hl' => k ls' hl')
  | istore n =>
    obtain ⟨rfl, h⟩ := vz_n_of h
    obtain ⟨x, r, rfl, h⟩ := vz_i_of h
    obtain ⟨hn, h⟩ := vz_b_of h
    cases h
    exact lv_istore hexec hb hd hl (of_decide_eq_true hn) (vz_tl_s1 ρ lv _ (.int x)) (fun ls' hl' => k ls' hl')
  | lstore_n n =>
    obtain ⟨rfl, h⟩ := vz_n_of h
    obtain ⟨x, r, rfl, h⟩ := vz_l_of h
    obtain ⟨hn, h⟩ := vz_b_of h
    cases h
    exact lv_lstore_n hexec hb hd rfl hl (of_decide_eq_true hn) (vz_tl_s2 ρ lv _ (.long x)) (fun ls' hl' => k ls' hl')
  | lstore n =>
    obtain ⟨rfl, h⟩ := vz_n_of h
    obtain ⟨x, r, rfl, h⟩ := vz_l_of h
    obtain ⟨hn, h⟩ := vz_b_of h
    cases h
    exact lv_lstore hexec hb hd hl (of_decide_eq_true hn) (vz_tl_s2 ρ lv _ (.long x)) (fun ls' hl' => k ls' hl')
  | astore_n n =>
    obtain ⟨rfl, h⟩ := vz_n_of h
    obtain ⟨v, r, rfl, hz, h⟩ := vz_va1_of h
    obtain ⟨hn, h⟩ := vz_b_of h
    cases h
    rcases hz with rfl | ⟨a, rfl⟩
    · exact lv_astore_nN hexec hb hd rfl hl (of_decide_eq_true hn) (vz_tl_s1 ρ lv _ .null) (fun ls' hl' => k ls' hl')
    · exact lv_astore_n hexec hb hd rfl hl (of_decide_eq_true hn) (vz_tl_s1 ρ lv _ (.ref a)) (fun ls' hl' => k ls' hl')
  | astore n =>
    obtain ⟨rfl, h⟩ := vz_n_of h
    obtain ⟨v, r, rfl, hz, h⟩ := vz_va1_of h
    obtain ⟨hn, h⟩ := vz_b_of h
    cases h
    rcases hz with rfl | ⟨a, rfl⟩
    · exact lv_astoreN hexec hb hd hl (of_decide_eq_true hn) (vz_tl_s1 ρ lv _ .null) (fun ls' hl' => k ls' hl')
    · exact lv_astore hexec hb hd hl (of_decide_eq_true hn) (vz_tl_s1 ρ lv _ (.ref a)) (fun ls' hl' => k ls' hl')
  | iinc i n =>
    obtain ⟨rfl, h⟩ := vz_n_of h
    obtain ⟨v, hv, h⟩ := Option.bind_eq_some_iff.mp h
    obtain ⟨x, rfl, h⟩ := vz_vi_of h
    obtain ⟨hn, h⟩ := vz_b_of h
    cases h
    obtain ⟨k9, hk9⟩ := vz_k (ρ := ρ) hv
    exact lv_iinc hexec hb hd hl hk9 rfl (of_decide_eq_true hn) (vz_tl_s1 ρ lv _ (.int (x + Int32.ofInt n))) (fun ls' hl' => k ls' hl')
  | iadd =>
    obtain ⟨rfl, h⟩ := vz_n_of h
    obtain ⟨x, y, r, rfl, h⟩ := vz_ii_of h
    cases h
    exact lv_iadd hexec hb hd (k ls hl)
  | isub =>
    obtain ⟨rfl, h⟩ := vz_n_of h
    obtain ⟨x, y, r, rfl, h⟩ := vz_ii_of h
    cases h
    exact lv_isub hexec hb hd (k ls hl)
  | imul =>
    obtain ⟨rfl, h⟩ := vz_n_of h
    obtain ⟨x, y, r, rfl, h⟩ := vz_ii_of h
    cases h
    exact lv_imul hexec hb hd (k ls hl)
  | iand =>
    obtain ⟨rfl, h⟩ := vz_n_of h
    obtain ⟨x, y, r, rfl, h⟩ := vz_ii_of h
    cases h
    exact lv_iand hexec hb hd (k ls hl)
  | ior =>
    obtain ⟨rfl, h⟩ := vz_n_of h
    obtain ⟨x, y, r, rfl, h⟩ := vz_ii_of h
    cases h
    exact lv_ior hexec hb hd (k ls hl)
  | ixor =>
    obtain ⟨rfl, h⟩ := vz_n_of h
    obtain ⟨x, y, r, rfl, h⟩ := vz_ii_of h
    cases h
    exact lv_ixor hexec hb hd (k ls hl)
  | ishl =>
    obtain ⟨rfl, h⟩ := vz_n_of h
    obtain ⟨x, y, r, rfl, h⟩ := vz_ii_of h
    cases h
    exact lv_ishl hexec hb hd (k ls hl)
  | ishr =>
    obtain ⟨rfl, h⟩ := vz_n_of h
    obtain ⟨x, y, r, rfl, h⟩ := vz_ii_of h
    cases h
    exact lv_ishr hexec hb hd (k ls hl)
  | iushr =>
    obtain ⟨rfl, h⟩ := vz_n_of h
    obtain ⟨x, y, r, rfl, h⟩ := vz_ii_of h
    cases h
    exact lv_iushr hexec hb hd rfl (k ls hl)
  | idiv =>
    obtain ⟨rfl, h⟩ := vz_n_of h
    obtain ⟨x, y, r, rfl, h⟩ := vz_ii_of h
    obtain ⟨hn, h⟩ := vz_b_of h
    cases h
    exact lv_idiv hexec hb hd (by simpa using hn) (k ls hl)
  | irem =>
    obtain ⟨rfl, h⟩ := vz_n_of h
    obtain ⟨x, y, r, rfl, h⟩ := vz_ii_of h
    obtain ⟨hn, h⟩ := vz_b_of h
    cases h
    exact lv_irem hexec hb hd (by simpa using hn) (k ls hl)
  | ladd =>
    obtain ⟨rfl, h⟩ := vz_n_of h
    obtain ⟨x, y, r, rfl, h⟩ := vz_ll_of h
    cases h
    exact lv_ladd hexec hb hd (k ls hl)
  | lsub =>
    obtain ⟨rfl, h⟩ := vz_n_of h
    obtain ⟨x, y, r, rfl, h⟩ := vz_ll_of h
    cases h
    exact lv_lsub hexec hb hd (k ls hl)
  | lmul =>
    obtain ⟨rfl, h⟩ := vz_n_of h
    obtain ⟨x, y, r, rfl, h⟩ := vz_ll_of h
    cases h
    exact lv_lmul hexec hb hd (k ls hl)
  | land =>
    obtain ⟨rfl, h⟩ := vz_n_of h
    obtain ⟨x, y, r, rfl, h⟩ := vz_ll_of h
    cases h
    exact lv_land hexec hb hd (k ls hl)
  | lor =>
    obtain ⟨rfl, h⟩ := vz_n_of h
    obtain ⟨x, y, r, rfl, h⟩ := vz_ll_of h
    cases h
    exact lv_lor hexec hb hd (k ls hl)
  | lxor =>
    obtain ⟨rfl, h⟩ := vz_n_of h
    obtain ⟨x, y, r, rfl, h⟩ := vz_ll_of h
    cases h
    exact lv_lxor hexec hb hd (k ls hl)
  | ldiv =>
    obtain ⟨rfl, h⟩ := vz_n_of h
    obtain ⟨x, y, r, rfl, h⟩ := vz_ll_of h
    obtain ⟨hn, h⟩ := vz_b_of h
    cases h
    exact lv_ldiv hexec hb hd (by simpa using hn) (k ls hl)
  | lrem =>
    obtain ⟨rfl, h⟩ := vz_n_of h
    obtain ⟨x, y, r, rfl, h⟩ := vz_ll_of h
    obtain ⟨hn, h⟩ := vz_b_of h
    cases h
    exact lv_lrem hexec hb hd (by simpa using hn) (k ls hl)
  | lushr =>
    obtain ⟨rfl, h⟩ := vz_n_of h
    obtain ⟨x, y, r, rfl, h⟩ := vz_li_of h
    cases h
    exact lv_lushr hexec hb hd rfl (k ls hl)
  | lshl =>
    obtain ⟨rfl, h⟩ := vz_n_of h
    obtain ⟨x, y, r, rfl, h⟩ := vz_li_of h
    cases h
    exact lv_lshl hexec hb hd rfl (k ls hl)
  | lshr =>
    obtain ⟨rfl, h⟩ := vz_n_of h
    obtain ⟨x, y, r, rfl, h⟩ := vz_li_of h
    cases h
    exact lv_lshr hexec hb hd rfl (k ls hl)
  | lcmp =>
    obtain ⟨rfl, h⟩ := vz_n_of h
    obtain ⟨x, y, r, rfl, h⟩ := vz_ll_of h
    cases h
    exact W.lcmp hexec hb hd (k ls hl)
  | ineg =>
    obtain ⟨rfl, h⟩ := vz_n_of h
    obtain ⟨x, r, rfl, h⟩ := vz_i_of h
    cases h
    exact lv_ineg hexec hb hd (k ls hl)
  | lneg =>
    obtain ⟨rfl, h⟩ := vz_n_of h
    obtain ⟨x, r, rfl, h⟩ := vz_l_of h
    cases h
    exact lv_lneg hexec hb hd (k ls hl)
  | i2l =>
    obtain ⟨rfl, h⟩ := vz_n_of h
    obtain ⟨x, r, rfl, h⟩ := vz_i_of h
    cases h
    exact lv_i2l hexec hb hd rfl (k ls hl)
  | i2b =>
    obtain ⟨rfl, h⟩ := vz_n_of h
    obtain ⟨x, r, rfl, h⟩ := vz_i_of h
    cases h
    exact lv_i2b hexec hb hd rfl (k ls hl)
  | i2s =>
    obtain ⟨rfl, h⟩ := vz_n_of h
    obtain ⟨x, r, rfl, h⟩ := vz_i_of h
    cases h
    exact lv_i2s hexec hb hd rfl (k ls hl)
  | i2c =>
    obtain ⟨rfl, h⟩ := vz_n_of h
    obtain ⟨x, r, rfl, h⟩ := vz_i_of h
    cases h
    exact lv_i2c hexec hb hd rfl (k ls hl)
  | l2i =>
    obtain ⟨rfl, h⟩ := vz_n_of h
    obtain ⟨x, r, rfl, h⟩ := vz_l_of h
    cases h
    exact lv_l2i hexec hb hd rfl (k ls hl)
  | dup =>
    obtain ⟨rfl, h⟩ := vz_n_of h
    obtain ⟨a, r, rfl, h⟩ := vz_1_of h
    obtain ⟨hn, h⟩ := vz_b_of h
    cases h
    exact lv_dup hexec hb hd (vz_c1 hn) (k ls hl)
  | pop =>
    obtain ⟨rfl, h⟩ := vz_n_of h
    obtain ⟨a, r, rfl, h⟩ := vz_1_of h
    obtain ⟨hn, h⟩ := vz_b_of h
    cases h
    exact lv_pop hexec hb hd (vz_c1 hn) (k ls hl)
  | dup_x1 =>
    obtain ⟨rfl, h⟩ := vz_n_of h
    obtain ⟨a, r, rfl, h⟩ := vz_1_of h
    obtain ⟨b, r, rfl, h⟩ := vz_1_of h
    obtain ⟨hn, h⟩ := vz_b_of h
    obtain ⟨hn2, h⟩ := vz_b_of h
    cases h
    exact lv_dup_x1 hexec hb hd (vz_c1 hn) (vz_c1 hn2) (k ls hl)
  | dup_x2 =>
    obtain ⟨rfl, h⟩ := vz_n_of h
    obtain ⟨a, r, rfl, h⟩ := vz_1_of h
    obtain ⟨b, r, rfl, h⟩ := vz_1_of h
    obtain ⟨d, r, rfl, h⟩ := vz_1_of h
    obtain ⟨hn, h⟩ := vz_b_of h
    obtain ⟨hn2, h⟩ := vz_b_of h
    obtain ⟨hn3, h⟩ := vz_b_of h
    cases h
    exact lv_dup_x2 hexec hb hd (vz_c1 hn) (vz_c1 hn2) (vz_c1 hn3) (k ls hl)
  | dup2 =>
    obtain ⟨rfl, h⟩ := vz_n_of h
    obtain ⟨a, r, e1, h1⟩ := vz_1_of h
    clear h
    subst e1
    by_cases hc : a.category = 2
    · rw [if_pos hc] at h1
      cases h1
      exact lv_dup2_2 hexec hb hd ((vz_t_cat ρ a).trans hc) (k ls hl)
    · rw [if_neg hc] at h1
      obtain ⟨b, r, e2, h2⟩ := vz_1_of h1
      clear h1
      subst e2
      obtain ⟨hn2, h3⟩ := vz_b_of h2
      cases h3
      exact lv_dup2_11 hexec hb hd ((vz_t_cat ρ a).trans ((lv_cat a).resolve_right hc)) (vz_c1 hn2) (k ls hl)
  | pop2 =>
    obtain ⟨rfl, h⟩ := vz_n_of h
    obtain ⟨a, r, e1, h1⟩ := vz_1_of h
    clear h
    subst e1
    by_cases hc : a.category = 2
    · rw [if_pos hc] at h1
      cases h1
      exact lv_pop2_2 hexec hb hd ((vz_t_cat ρ a).trans hc) (k ls hl)
    · rw [if_neg hc] at h1
      obtain ⟨b, r, e2, h2⟩ := vz_1_of h1
      clear h1
      subst e2
      obtain ⟨hn2, h3⟩ := vz_b_of h2
      cases h3
      exact lv_pop2_11 hexec hb hd ((vz_t_cat ρ a).trans ((lv_cat a).resolve_right hc)) (vz_c1 hn2) (k ls hl)
  | ifCond cd off =>
    obtain ⟨rfl, h⟩ := vz_n_of h
    obtain ⟨x, r, rfl, h⟩ := vz_i_of h
    obtain ⟨t, ht, h⟩ := vz_j_of h
    cases h
    cases cd
    · exact lv_if_eq hexec hb hd ht (fun q => by have k := k ls hl; simp only [vz_c0, if_pos q] at k; exact k) (fun q => by have k := k ls hl; simp only [vz_c0, if_neg q] at k; exact k)
    · exact lv_if_ne hexec hb hd ht (fun q => by have k := k ls hl; simp only [vz_c0, if_pos q] at k; exact k) (fun q => by have k := k ls hl; simp only [vz_c0, if_neg (fun (w : ¬ x = 0) => w q)] at k; exact k)
    · exact lv_if_lt hexec hb hd ht (fun q => by have k := k ls hl; simp only [vz_c0, if_pos q] at k; exact k) (fun q => by have k := k ls hl; simp only [vz_c0, if_neg q] at k; exact k)
    · exact lv_if_ge hexec hb hd ht (fun q => by have k := k ls hl; simp only [vz_c0, if_pos q] at k; exact k) (fun q => by have k := k ls hl; simp only [vz_c0, if_neg q] at k; exact k)
    · exact lv_if_gt hexec hb hd ht (fun q => by have k := k ls hl; simp only [vz_c0, if_pos q] at k; exact k) (fun q => by have k := k ls hl; simp only [vz_c0, if_neg q] at k; exact k)
    · exact lv_if_le hexec hb hd ht (fun q => by have k := k ls hl; simp only [vz_c0, if_pos q] at k; exact k) (fun q => by have k := k ls hl; simp only [vz_c0, if_neg q] at k; exact k)
  | if_icmp cd off =>
    obtain ⟨rfl, h⟩ := vz_n_of h
    obtain ⟨x, y, r, rfl, h⟩ := vz_ii_of h
    obtain ⟨t, ht, h⟩ := vz_j_of h
    cases h
    cases cd
    · exact lv_icmp_eq hexec hb hd ht (fun q => by have k := k ls hl; simp only [vz_c2, if_pos q] at k; exact k) (fun q => by have k := k ls hl; simp only [vz_c2, if_neg q] at k; exact k)
    · exact lv_icmp_ne hexec hb hd ht (fun q => by have k := k ls hl; simp only [vz_c2, if_pos q] at k; exact k) (fun q => by have k := k ls hl; simp only [vz_c2, if_neg (fun (w : ¬ x = y) => w q)] at k; exact k)
    · exact lv_icmp_lt hexec hb hd ht (fun q => by have k := k ls hl; simp only [vz_c2, if_pos q] at k; exact k) (fun q => by have k := k ls hl; simp only [vz_c2, if_neg q] at k; exact k)
    · exact lv_icmp_ge hexec hb hd ht (fun q => by have k := k ls hl; simp only [vz_c2, if_pos q] at k; exact k) (fun q => by have k := k ls hl; simp only [vz_c2, if_neg q] at k; exact k)
    · exact lv_icmp_gt hexec hb hd ht (fun q => by have k := k ls hl; simp only [vz_c2, if_pos q] at k; exact k) (fun q => by have k := k ls hl; simp only [vz_c2, if_neg q] at k; exact k)
    · exact lv_icmp_le hexec hb hd ht (fun q => by have k := k ls hl; simp only [vz_c2, if_pos q] at k; exact k) (fun q => by have k := k ls hl; simp only [vz_c2, if_neg q] at k; exact k)
  | goto off =>
    obtain ⟨rfl, h⟩ := vz_n_of h
    obtain ⟨t, ht, h⟩ := vz_j_of h
    cases h
    exact lv_goto hexec hb hd ht (k ls hl)
  | ifnull off =>
    obtain ⟨rfl, h⟩ := vz_n_of h
    obtain ⟨v, r, rfl, hz, h⟩ := vz_va1_of h
    obtain ⟨t, ht, h⟩ := vz_j_of h
    cases h
    rcases hz with rfl | ⟨a, rfl⟩
    · exact lv_ifnullN hexec hb hd ht (by have k := k ls hl; rwa [if_pos rfl] at k)
    · exact lv_ifnull hexec hb hd (by have k := k ls hl; rwa [if_neg (fun z => nomatch z)] at k)
  | ifnonnull off =>
    obtain ⟨rfl, h⟩ := vz_n_of h
    obtain ⟨v, r, rfl, hz, h⟩ := vz_va1_of h
    obtain ⟨t, ht, h⟩ := vz_j_of h
    cases h
    rcases hz with rfl | ⟨a, rfl⟩
    · exact lv_ifnonnullN hexec hb hd (by have k := k ls hl; rwa [if_pos rfl] at k)
    · exact lv_ifnonnull hexec hb hd ht (by have k := k ls hl; rwa [if_neg (fun z => nomatch z)] at k)
  | lookupswitch dflt ps =>
    obtain ⟨hp, h⟩ := vz_b_of h
    obtain ⟨x, r, rfl, h⟩ := vz_i_of h
    obtain ⟨t, ht, h⟩ := vz_j_of h
    cases h
    exact lv_lookup hexec hb hd hp rfl ht (k ls hl)
  | tableswitch dflt lo hi offs =>
    obtain ⟨x, r, e1, h1⟩ := vz_i_of h
    clear h
    subst e1
    by_cases hc : x.toInt < lo ∨ hi < x.toInt
    · rw [if_pos hc] at h1
      obtain ⟨t, ht, h2⟩ := vz_j_of h1
      cases h2
      exact lv_tableOut hexec hb hd hc ht (k ls hl)
    · rw [if_neg hc] at h1
      obtain ⟨off, ho, h2⟩ := Option.bind_eq_some_iff.mp h1
      obtain ⟨t, ht, h3⟩ := vz_j_of h2
      cases h3
      exact lv_tableIn hexec hb hd (fun z => hc (Or.inl z)) (fun z => hc (Or.inr z)) ho ht (k ls hl)
  | _ => exact nomatch (show (none : Option (Nat × vz_L × List Value)) = some z from h)
end VZT
theorem vz_okS_c {n : Nat} {v : Value} {r : List Value} (h : vz_ok n v) (hr : vz_okS n r) : vz_okS n (v :: r) := fun w hw => (List.mem_cons.mp hw).elim (fun e => by rw [e]; exact h) (hr w)
theorem vz_okS_t {n : Nat} {v : Value} {r : List Value} (h : vz_okS n (v :: r)) : vz_okS n r := fun w hw => h w (List.mem_cons_of_mem _ hw)
theorem vz_okS_h {n : Nat} {v : Value} {r : List Value} (h : vz_okS n (v :: r)) : vz_ok n v := h v List.mem_cons_self
theorem vz_ok_i {n : Nat} {x : Int32} : vz_ok n (.int x) := fun _ e => nomatch e
theorem vz_ok_l {n : Nat} {x : Int64} : vz_ok n (.long x) := fun _ e => nomatch e
theorem vz_ok_n {n : Nat} : vz_ok n .null := fun _ e => nomatch e
theorem vz_okL_g {n : Nat} {lv : vz_L} {i : Nat} {v : Value} (h : vz_okL n lv) (hg : vz_g lv i = some v) : vz_ok n v := h (i, v) (vz_g_mem hg)
theorem vz_okL_s1 {n : Nat} {lv : vz_L} {i : Nat} {v : Value} (h : vz_okL n lv) (hv : vz_ok n v) : vz_okL n (vz_s1 lv i v) := fun q hq => (List.mem_cons.mp hq).elim (fun e => by rw [e]; exact hv) (fun z => h q (List.mem_filter.mp z).1)
theorem vz_okL_s2 {n : Nat} {lv : vz_L} {i : Nat} {v : Value} (h : vz_okL n lv) (hv : vz_ok n v) : vz_okL n (vz_s2 lv i v) := fun q hq => (List.mem_cons.mp hq).elim (fun e => by rw [e]; exact hv) (fun z => h q (List.mem_filter.mp z).1)
set_option maxHeartbeats 4000000 in
/-- .. and keeps the references to cells that are there -/
theorem vz_a_ok {nL n len pc : Nat} {i : Instr} {lv : vz_L} {st : List Value} {z : Nat × vz_L × List Value} (h : vz_a nL i len pc lv st = some z) (hs : vz_okS n st) (hl : vz_okL n lv) : vz_okS n z.2.2 ∧ vz_okL n z.2.1 := by
  cases i with
  | iconst n =>
    obtain ⟨rfl, h⟩ := vz_n_of h
    cases h
    exact ⟨vz_okS_c vz_ok_i hs, hl⟩
  | bipush n =>
    obtain ⟨rfl, h⟩ := vz_n_of h
    cases h
    exact ⟨vz_okS_c vz_ok_i hs, hl⟩
  | sipush n =>
    obtain ⟨rfl, h⟩ := vz_n_of h
    cases h
    exact ⟨vz_okS_c vz_ok_i hs, hl⟩
  | lconst n =>
    obtain ⟨rfl, h⟩ := vz_n_of h
    cases h
    exact ⟨vz_okS_c vz_ok_l hs, hl⟩
  | aconst_null =>
    obtain ⟨rfl, h⟩ := vz_n_of h
    cases h
    exact ⟨vz_okS_c vz_ok_n hs, hl⟩
  | iload_n n =>
    obtain ⟨rfl, h⟩ := vz_n_of h
    obtain ⟨v, hv, h⟩ := Option.bind_eq_some_iff.mp h
    obtain ⟨x, rfl, h⟩ := vz_vi_of h
    cases h
    exact ⟨vz_okS_c vz_ok_i hs, hl⟩
  | iload n =>
    obtain ⟨rfl, h⟩ := vz_n_of h
    obtain ⟨v, hv, h⟩ := Option.bind_eq_some_iff.mp h
    obtain ⟨x, rfl, h⟩ := vz_vi_of h
    cases h
    exact ⟨vz_okS_c vz_ok_i hs, hl⟩
  | lload_n n =>
    obtain ⟨rfl, h⟩ := vz_n_of h
    obtain ⟨v, hv, h⟩ := Option.bind_eq_some_iff.mp h
    obtain ⟨x, rfl, h⟩ := vz_vl_of h
    cases h
    exact ⟨vz_okS_c vz_ok_l hs, hl⟩
  | lload n =>
    obtain ⟨rfl, h⟩ := vz_n_of h
    obtain ⟨v, hv, h⟩ := Option.bind_eq_some_iff.mp h
    obtain ⟨x, rfl, h⟩ := vz_vl_of h
    cases h
    exact ⟨vz_okS_c vz_ok_l hs, hl⟩
  | aload_n n =>
    obtain ⟨rfl, h⟩ := vz_n_of h
    obtain ⟨v, hv, h⟩ := Option.bind_eq_some_iff.mp h
    obtain ⟨hz, h⟩ := vz_va_of h
    cases h
    exact ⟨vz_okS_c (vz_okL_g hl hv) hs, hl⟩
  | aload n =>
    obtain ⟨rfl, h⟩ := vz_n_of h
    obtain ⟨v, hv, h⟩ := Option.bind_eq_some_iff.mp h
    obtain ⟨hz, h⟩ := vz_va_of h
    cases h
    exact ⟨vz_okS_c (vz_okL_g hl hv) hs, hl⟩
  | istore_n n =>
    obtain ⟨rfl, h⟩ := vz_n_of h
    obtain ⟨x, r, rfl, h⟩ := vz_i_of h
    obtain ⟨hn, h⟩ := vz_b_of h
    cases h
    exact ⟨vz_okS_t hs, vz_okL_s1 hl vz_ok_i⟩
  | istore n =>
    obtain ⟨rfl, h⟩ := vz_n_of h
    obtain ⟨x, r, rfl, h⟩ := vz_i_of h
    obtain ⟨hn, h⟩ := vz_b_of h
    cases h
    exact ⟨vz_okS_t hs, vz_okL_s1 hl vz_ok_i⟩
  | lstore_n n =>
    obtain ⟨rfl, h⟩ := vz_n_of h
    obtain ⟨x, r, rfl, h⟩ := vz_l_of h
    obtain ⟨hn, h⟩ := vz_b_of h
    cases h
    exact ⟨vz_okS_t hs, vz_okL_s2 hl vz_ok_l⟩
  | lstore n =>
    obtain ⟨rfl, h⟩ := vz_n_of h
    obtain ⟨x, r, rfl, h⟩ := vz_l_of h
    obtain ⟨hn, h⟩ := vz_b_of h
    cases h
    exact ⟨vz_okS_t hs, vz_okL_s2 hl vz_ok_l⟩
  | astore_n n =>
    obtain ⟨rfl, h⟩ := vz_n_of h
    obtain ⟨v, r, rfl, hz, h⟩ := vz_va1_of h
    obtain ⟨hn, h⟩ := vz_b_of h
    cases h
    exact ⟨vz_okS_t hs, vz_okL_s1 hl (vz_okS_h hs)⟩
  | astore n =>
    obtain ⟨rfl, h⟩ := vz_n_of h
    obtain ⟨v, r, rfl, hz, h⟩ := vz_va1_of h
    obtain ⟨hn, h⟩ := vz_b_of h
    cases h
    exact ⟨vz_okS_t hs, vz_okL_s1 hl (vz_okS_h hs)⟩
  | iinc i n =>
    obtain ⟨rfl, h⟩ := vz_n_of h
    obtain ⟨v, hv, h⟩ := Option.bind_eq_some_iff.mp h
    obtain ⟨x, rfl, h⟩ := vz_vi_of h
    obtain ⟨hn, h⟩ := vz_b_of h
    cases h
    exact ⟨hs, vz_okL_s1 hl vz_ok_i⟩
  | iadd =>
    obtain ⟨rfl, h⟩ := vz_n_of h
    obtain ⟨x, y, r, rfl, h⟩ := vz_ii_of h
    cases h
    exact ⟨vz_okS_c vz_ok_i (vz_okS_t (vz_okS_t hs)), hl⟩
  | isub =>
    obtain ⟨rfl, h⟩ := vz_n_of h
    obtain ⟨x, y, r, rfl, h⟩ := vz_ii_of h
    cases h
    exact ⟨vz_okS_c vz_ok_i (vz_okS_t (vz_okS_t hs)), hl⟩
  | imul =>
    obtain ⟨rfl, h⟩ := vz_n_of h
    obtain ⟨x, y, r, rfl, h⟩ := vz_ii_of h
    cases h
    exact ⟨vz_okS_c vz_ok_i (vz_okS_t (vz_okS_t hs)), hl⟩
  | iand =>
    obtain ⟨rfl, h⟩ := vz_n_of h
    obtain ⟨x, y, r, rfl, h⟩ := vz_ii_of h
    cases h
    exact ⟨vz_okS_c vz_ok_i (vz_okS_t (vz_okS_t hs)), hl⟩
  | ior =>
    obtain ⟨rfl, h⟩ := vz_n_of h
    obtain ⟨x, y, r, rfl, h⟩ := vz_ii_of h
    cases h
    exact ⟨vz_okS_c vz_ok_i (vz_okS_t (vz_okS_t hs)), hl⟩
  | ixor =>
    obtain ⟨rfl, h⟩ := vz_n_of h
    obtain ⟨x, y, r, rfl, h⟩ := vz_ii_of h
    cases h
    exact ⟨vz_okS_c vz_ok_i (vz_okS_t (vz_okS_t hs)), hl⟩
  | ishl =>
    obtain ⟨rfl, h⟩ := vz_n_of h
    obtain ⟨x, y, r, rfl, h⟩ := vz_ii_of h
    cases h
    exact ⟨vz_okS_c vz_ok_i (vz_okS_t (vz_okS_t hs)), hl⟩
  | ishr =>
    obtain ⟨rfl, h⟩ := vz_n_of h
    obtain ⟨x, y, r, rfl, h⟩ := vz_ii_of h
    cases h
    exact ⟨vz_okS_c vz_ok_i (vz_okS_t (vz_okS_t hs)), hl⟩
  | iushr =>
    obtain ⟨rfl, h⟩ := vz_n_of h
    obtain ⟨x, y, r, rfl, h⟩ := vz_ii_of h
    cases h
    exact ⟨vz_okS_c vz_ok_i (vz_okS_t (vz_okS_t hs)), hl⟩
  | idiv =>
    obtain ⟨rfl, h⟩ := vz_n_of h
    obtain ⟨x, y, r, rfl, h⟩ := vz_ii_of h
    obtain ⟨hn, h⟩ := vz_b_of h
    cases h
    exact ⟨vz_okS_c vz_ok_i (vz_okS_t (vz_okS_t hs)), hl⟩
  | irem =>
    obtain ⟨rfl, h⟩ := vz_n_of h
    obtain ⟨x, y, r, rfl, h⟩ := vz_ii_of h
    obtain ⟨hn, h⟩ := vz_b_of h
    cases h
    exact ⟨vz_okS_c vz_ok_i (vz_okS_t (vz_okS_t hs)), hl⟩
  | ladd =>
    obtain ⟨rfl, h⟩ := vz_n_of h
    obtain ⟨x, y, r, rfl, h⟩ := vz_ll_of h
    cases h
    exact ⟨vz_okS_c vz_ok_l (vz_okS_t (vz_okS_t hs)), hl⟩
  | lsub =>
    obtain ⟨rfl, h⟩ := vz_n_of h
    obtain ⟨x, y, r, rfl, h⟩ := vz_ll_of h
    cases h
    exact ⟨vz_okS_c vz_ok_l (vz_okS_t (vz_okS_t hs)), hl⟩
  | lmul =>
    obtain ⟨rfl, h⟩ := vz_n_of h
    obtain ⟨x, y, r, rfl, h⟩ := vz_ll_of h
    cases h
    exact ⟨vz_okS_c vz_ok_l (vz_okS_t (vz_okS_t hs)), hl⟩
  | land =>
    obtain ⟨rfl, h⟩ := vz_n_of h
    obtain ⟨x, y, r, rfl, h⟩ := vz_ll_of h
    cases h
    exact ⟨vz_okS_c vz_ok_l (vz_okS_t (vz_okS_t hs)), hl⟩
  | lor =>
    obtain ⟨rfl, h⟩ := vz_n_of h
    obtain ⟨x, y, r, rfl, h⟩ := vz_ll_of h
    cases h
    exact ⟨vz_okS_c vz_ok_l (vz_okS_t (vz_okS_t hs)), hl⟩
  | lxor =>
    obtain ⟨rfl, h⟩ := vz_n_of h
    obtain ⟨x, y, r, rfl, h⟩ := vz_ll_of h
    cases h
    exact ⟨vz_okS_c vz_ok_l (vz_okS_t (vz_okS_t hs)), hl⟩
  | ldiv =>
    obtain ⟨rfl, h⟩ := vz_n_of h
    obtain ⟨x, y, r, rfl, h⟩ := vz_ll_of h
    obtain ⟨hn, h⟩ := vz_b_of h
    cases h
    exact ⟨vz_okS_c vz_ok_l (vz_okS_t (vz_okS_t hs)), hl⟩
  | lrem =>
    obtain ⟨rfl, h⟩ := vz_n_of h
    obtain ⟨x, y, r, rfl, h⟩ := vz_ll_of h
    obtain ⟨hn, h⟩ := vz_b_of h
    cases h
    exact ⟨vz_okS_c vz_ok_l (vz_okS_t (vz_okS_t hs)), hl⟩
  | lushr =>
    obtain ⟨rfl, h⟩ := vz_n_of h
    obtain ⟨x, y, r, rfl, h⟩ := vz_li_of h
    cases h
    exact ⟨vz_okS_c vz_ok_l (vz_okS_t (vz_okS_t hs)), hl⟩
  | lshl =>
    obtain ⟨rfl, h⟩ := vz_n_of h
    obtain ⟨x, y, r, rfl, h⟩ := vz_li_of h
    cases h
    exact ⟨vz_okS_c vz_ok_l (vz_okS_t (vz_okS_t hs)), hl⟩
  | lshr =>
    obtain ⟨rfl, h⟩ := vz_n_of h
    obtain ⟨x, y, r, rfl, h⟩ := vz_li_of h
    cases h
    exact ⟨vz_okS_c vz_ok_l (vz_okS_t (vz_okS_t hs)), hl⟩
  | lcmp =>
    obtain ⟨rfl, h⟩ := vz_n_of h
    obtain ⟨x, y, r, rfl, h⟩ := vz_ll_of h
    cases h
    exact ⟨vz_okS_c vz_ok_i (vz_okS_t (vz_okS_t hs)), hl⟩
  | ineg =>
    obtain ⟨rfl, h⟩ := vz_n_of h
    obtain ⟨x, r, rfl, h⟩ := vz_i_of h
    cases h
    exact ⟨vz_okS_c vz_ok_i (vz_okS_t hs), hl⟩
  | lneg =>
    obtain ⟨rfl, h⟩ := vz_n_of h
    obtain ⟨x, r, rfl, h⟩ := vz_l_of h
    cases h
    exact ⟨vz_okS_c vz_ok_l (vz_okS_t hs), hl⟩
  | i2l =>
    obtain ⟨rfl, h⟩ := vz_n_of h
    obtain ⟨x, r, rfl, h⟩ := vz_i_of h
    cases h
    exact ⟨vz_okS_c vz_ok_l (vz_okS_t hs), hl⟩
  | i2b =>
    obtain ⟨rfl, h⟩ := vz_n_of h
    obtain ⟨x, r, rfl, h⟩ := vz_i_of h
    cases h
    exact ⟨vz_okS_c vz_ok_i (vz_okS_t hs), hl⟩
  | i2s =>
    obtain ⟨rfl, h⟩ := vz_n_of h
    obtain ⟨x, r, rfl, h⟩ := vz_i_of h
    cases h
    exact ⟨vz_okS_c vz_ok_i (vz_okS_t hs), hl⟩
  | i2c =>
    obtain ⟨rfl, h⟩ := vz_n_of h
    obtain ⟨x, r, rfl, h⟩ := vz_i_of h
    cases h
    exact ⟨vz_okS_c vz_ok_i (vz_okS_t hs), hl⟩
  | l2i =>
    obtain ⟨rfl, h⟩ := vz_n_of h
    obtain ⟨x, r, rfl, h⟩ := vz_l_of h
    cases h
    exact ⟨vz_okS_c vz_ok_i (vz_okS_t hs), hl⟩
  | dup =>
    obtain ⟨rfl, h⟩ := vz_n_of h
    obtain ⟨a, r, rfl, h⟩ := vz_1_of h
    obtain ⟨hn, h⟩ := vz_b_of h
    cases h
    exact ⟨vz_okS_c (vz_okS_h hs) hs, hl⟩
  | pop =>
    obtain ⟨rfl, h⟩ := vz_n_of h
    obtain ⟨a, r, rfl, h⟩ := vz_1_of h
    obtain ⟨hn, h⟩ := vz_b_of h
    cases h
    exact ⟨vz_okS_t hs, hl⟩
  | dup_x1 =>
    obtain ⟨rfl, h⟩ := vz_n_of h
    obtain ⟨a, r, rfl, h⟩ := vz_1_of h
    obtain ⟨b, r, rfl, h⟩ := vz_1_of h
    obtain ⟨hn, h⟩ := vz_b_of h
    obtain ⟨hn2, h⟩ := vz_b_of h
    cases h
    exact ⟨vz_okS_c (vz_okS_h hs) (vz_okS_c (vz_okS_h (vz_okS_t hs)) (vz_okS_c (vz_okS_h hs) (vz_okS_t (vz_okS_t hs)))), hl⟩
  | dup_x2 =>
    obtain ⟨rfl, h⟩ := vz_n_of h
    obtain ⟨a, r, rfl, h⟩ := vz_1_of h
    obtain ⟨b, r, rfl, h⟩ := vz_1_of h
    obtain ⟨d, r, rfl, h⟩ := vz_1_of h
    obtain ⟨hn, h⟩ := vz_b_of h
    obtain ⟨hn2, h⟩ := vz_b_of h
    obtain ⟨hn3, h⟩ := vz_b_of h
    cases h
    exact ⟨vz_okS_c (vz_okS_h hs) (vz_okS_c (vz_okS_h (vz_okS_t hs)) (vz_okS_c (vz_okS_h (vz_okS_t (vz_okS_t hs))) (vz_okS_c (vz_okS_h hs) (vz_okS_t (vz_okS_t (vz_okS_t hs)))))), hl⟩
  | dup2 =>
    obtain ⟨rfl, h⟩ := vz_n_of h
    obtain ⟨a, r, e1, h1⟩ := vz_1_of h
    clear h
    subst e1
    by_cases hc : a.category = 2
    · rw [if_pos hc] at h1
      cases h1
      exact ⟨vz_okS_c (vz_okS_h hs) hs, hl⟩
    · rw [if_neg hc] at h1
      obtain ⟨b, r, e2, h2⟩ := vz_1_of h1
      clear h1
      subst e2
      obtain ⟨hn2, h3⟩ := vz_b_of h2
      cases h3
      exact ⟨vz_okS_c (vz_okS_h hs) (vz_okS_c (vz_okS_h (vz_okS_t hs)) hs), hl⟩
  | pop2 =>
    obtain ⟨rfl, h⟩ := vz_n_of h
    obtain ⟨a, r, e1, h1⟩ := vz_1_of h
    clear h
    subst e1
    by_cases hc : a.category = 2
    · rw [if_pos hc] at h1
      cases h1
      exact ⟨vz_okS_t hs, hl⟩
    · rw [if_neg hc] at h1
      obtain ⟨b, r, e2, h2⟩ := vz_1_of h1
      clear h1
      subst e2
      obtain ⟨hn2, h3⟩ := vz_b_of h2
      cases h3
      exact ⟨vz_okS_t (vz_okS_t hs), hl⟩
  | ifCond cd off =>
    obtain ⟨rfl, h⟩ := vz_n_of h
    obtain ⟨x, r, rfl, h⟩ := vz_i_of h
    obtain ⟨t, ht, h⟩ := vz_j_of h
    cases h
    exact ⟨vz_okS_t hs, hl⟩
  | if_icmp cd off =>
    obtain ⟨rfl, h⟩ := vz_n_of h
    obtain ⟨x, y, r, rfl, h⟩ := vz_ii_of h
    obtain ⟨t, ht, h⟩ := vz_j_of h
    cases h
    exact ⟨vz_okS_t (vz_okS_t hs), hl⟩
  | goto off =>
    obtain ⟨rfl, h⟩ := vz_n_of h
    obtain ⟨t, ht, h⟩ := vz_j_of h
    cases h
    exact ⟨hs, hl⟩
  | ifnull off =>
    obtain ⟨rfl, h⟩ := vz_n_of h
    obtain ⟨v, r, rfl, hz, h⟩ := vz_va1_of h
    obtain ⟨t, ht, h⟩ := vz_j_of h
    cases h
    exact ⟨vz_okS_t hs, hl⟩
  | ifnonnull off =>
    obtain ⟨rfl, h⟩ := vz_n_of h
    obtain ⟨v, r, rfl, hz, h⟩ := vz_va1_of h
    obtain ⟨t, ht, h⟩ := vz_j_of h
    cases h
    exact ⟨vz_okS_t hs, hl⟩
  | lookupswitch dflt ps =>
    obtain ⟨hp, h⟩ := vz_b_of h
    obtain ⟨x, r, rfl, h⟩ := vz_i_of h
    obtain ⟨t, ht, h⟩ := vz_j_of h
    cases h
    exact ⟨vz_okS_t hs, hl⟩
  | tableswitch dflt lo hi offs =>
    obtain ⟨x, r, e1, h1⟩ := vz_i_of h
    clear h
    subst e1
    by_cases hc : x.toInt < lo ∨ hi < x.toInt
    · rw [if_pos hc] at h1
      obtain ⟨t, ht, h2⟩ := vz_j_of h1
      cases h2
      exact ⟨vz_okS_t hs, hl⟩
    · rw [if_neg hc] at h1
      obtain ⟨off, ho, h2⟩ := Option.bind_eq_some_iff.mp h1
      obtain ⟨t, ht, h3⟩ := vz_j_of h2
      cases h3
      exact ⟨vz_okS_t hs, hl⟩
  | _ => exact nomatch (show (none : Option (Nat × vz_L × List Value)) = some z from h)
