/-! AN ABSTRACT MACHINE: values, locals and a heap of numbered cells; a step a row. What it says of a method, the machine does (later parts). -/
/-- a value with its numbers of cells turned into addresses -/
def vz_t (ρ : Nat → Nat) (v : Value) : Value := match v with
  | .ref a => .ref (ρ a)
  | .int x => .int x
  | .long x => .long x
  | .float x => .float x
  | .double x => .double x
  | .null => .null
  | .retAddr x => .retAddr x
theorem vz_t_cat (ρ : Nat → Nat) (v : Value) : (vz_t ρ v).category = v.category := by cases v <;> rfl
abbrev vz_L : Type := List (Nat × Value)
def vz_g : vz_L → Nat → Option Value
  | [], _ => none
  | q :: r, i => if q.1 = i then some q.2 else vz_g r i
theorem vz_g_mem {lv : vz_L} {i : Nat} {v : Value} (h : vz_g lv i = some v) : (i, v) ∈ lv := by
  induction lv with
  | nil => cases h
  | cons q r ih =>
    unfold vz_g at h
    by_cases e : q.1 = i
    · rw [if_pos e] at h
      cases h
      subst e
      exact List.mem_cons_self
    · rw [if_neg e] at h
      exact List.mem_cons_of_mem _ (ih h)
def vz_s1 (lv : vz_L) (i : Nat) (v : Value) : vz_L := (i, v) :: lv.filter (fun q => !(q.1 == i) && !(q.1 + 1 == i && q.2.category == 2))
def vz_s2 (lv : vz_L) (i : Nat) (v : Value) : vz_L := (i, v) :: lv.filter (fun q => !(q.1 == i) && (!(q.1 == i + 1) && !(q.1 + 1 == i && q.2.category == 2)))
def vz_tl (ρ : Nat → Nat) (lv : vz_L) : vz_L := lv.map fun q => (q.1, vz_t ρ q.2)
def vz_ts (ρ : Nat → Nat) (st : List Value) : List Value := st.map (vz_t ρ)
theorem vz_tl_s1 (ρ : Nat → Nat) (lv : vz_L) (i : Nat) (v : Value) : (i, vz_t ρ v) :: (vz_tl ρ lv).filter (fun q => !(q.1 == i) && !(q.1 + 1 == i && q.2.category == 2)) = vz_tl ρ (vz_s1 lv i v) := by
  unfold vz_tl vz_s1
  rw [List.map_cons, List.filter_map]
  congr 2
  refine List.filter_congr fun q _ => ?_
  simp only [Function.comp_apply, vz_t_cat]
theorem vz_tl_s2 (ρ : Nat → Nat) (lv : vz_L) (i : Nat) (v : Value) : (i, vz_t ρ v) :: (vz_tl ρ lv).filter (fun q => !(q.1 == i) && (!(q.1 == i + 1) && !(q.1 + 1 == i && q.2.category == 2))) = vz_tl ρ (vz_s2 lv i v) := by
  unfold vz_tl vz_s2
  rw [List.map_cons, List.filter_map]
  congr 2
  refine List.filter_congr fun q _ => ?_
  simp only [Function.comp_apply, vz_t_cat]
theorem vz_at {ls : Array Slot} {nL : Nat} {ρ : Nat → Nat} {lv : vz_L} {i : Nat} {v : Value} (h : lv_has ls nL (vz_tl ρ lv)) (hg : vz_g lv i = some v) : ls[i]? = some (.val (vz_t ρ v)) :=
  h.2.2 (i, vz_t ρ v) (List.mem_map.mpr ⟨(i, v), vz_g_mem hg, rfl⟩)
theorem vz_k {ρ : Nat → Nat} {lv : vz_L} {i : Nat} {v : Value} (hg : vz_g lv i = some v) : ∃ k : Nat, (vz_tl ρ lv)[k]? = some (i, vz_t ρ v) :=
  List.getElem?_of_mem (List.mem_map.mpr ⟨(i, v), vz_g_mem hg, rfl⟩)
/-! readers of the operand stack -/
section VZR
variable {α : Type}
def vz_i (st : List Value) (k : Int32 → List Value → Option α) : Option α := match st with
  | .int x :: r => k x r
  | _ => none
def vz_ii (st : List Value) (k : Int32 → Int32 → List Value → Option α) : Option α := match st with
  | .int y :: .int x :: r => k x y r
  | _ => none
def vz_l (st : List Value) (k : Int64 → List Value → Option α) : Option α := match st with
  | .long x :: r => k x r
  | _ => none
def vz_ll (st : List Value) (k : Int64 → Int64 → List Value → Option α) : Option α := match st with
  | .long y :: .long x :: r => k x y r
  | _ => none
def vz_li (st : List Value) (k : Int64 → Int32 → List Value → Option α) : Option α := match st with
  | .int y :: .long x :: r => k x y r
  | _ => none
def vz_r (st : List Value) (k : Nat → List Value → Option α) : Option α := match st with
  | .ref a :: r => k a r
  | _ => none
def vz_ri (st : List Value) (k : Nat → Int32 → List Value → Option α) : Option α := match st with
  | .int i :: .ref a :: r => k a i r
  | _ => none
def vz_j (pc : Nat) (off : Int) (k : Nat → Option α) : Option α := match (pc : Int) + off with
  | .ofNat t => k t
  | .negSucc _ => none
theorem vz_i_of {st : List Value} {k : Int32 → List Value → Option α} {z : α} (h : vz_i st k = some z) : ∃ x r, st = .int x :: r ∧ k x r = some z := by
  unfold vz_i at h
  split at h
  · exact ⟨_, _, rfl, h⟩
  · cases h
theorem vz_ii_of {st : List Value} {k : Int32 → Int32 → List Value → Option α} {z : α} (h : vz_ii st k = some z) : ∃ x y r, st = .int y :: .int x :: r ∧ k x y r = some z := by
  unfold vz_ii at h
  split at h
  · exact ⟨_, _, _, rfl, h⟩
  · cases h
theorem vz_l_of {st : List Value} {k : Int64 → List Value → Option α} {z : α} (h : vz_l st k = some z) : ∃ x r, st = .long x :: r ∧ k x r = some z := by
  unfold vz_l at h
  split at h
  · exact ⟨_, _, rfl, h⟩
  · cases h
theorem vz_ll_of {st : List Value} {k : Int64 → Int64 → List Value → Option α} {z : α} (h : vz_ll st k = some z) : ∃ x y r, st = .long y :: .long x :: r ∧ k x y r = some z := by
  unfold vz_ll at h
  split at h
  · exact ⟨_, _, _, rfl, h⟩
  · cases h
theorem vz_li_of {st : List Value} {k : Int64 → Int32 → List Value → Option α} {z : α} (h : vz_li st k = some z) : ∃ x y r, st = .int y :: .long x :: r ∧ k x y r = some z := by
  unfold vz_li at h
  split at h
  · exact ⟨_, _, _, rfl, h⟩
  · cases h
theorem vz_r_of {st : List Value} {k : Nat → List Value → Option α} {z : α} (h : vz_r st k = some z) : ∃ x r, st = .ref x :: r ∧ k x r = some z := by
  unfold vz_r at h
  split at h
  · exact ⟨_, _, rfl, h⟩
  · cases h
theorem vz_ri_of {st : List Value} {k : Nat → Int32 → List Value → Option α} {z : α} (h : vz_ri st k = some z) : ∃ a i r, st = .int i :: .ref a :: r ∧ k a i r = some z := by
  unfold vz_ri at h
  split at h
  · exact ⟨_, _, _, rfl, h⟩
  · cases h
theorem vz_j_of {pc : Nat} {off : Int} {k : Nat → Option α} {z : α} (h : vz_j pc off k = some z) : ∃ t : Nat, (pc : Int) + off = (t : Int) ∧ k t = some z := by
  unfold vz_j at h
  split at h
  · next t e => exact ⟨t, e, h⟩
  · cases h
end VZR
