/-- the words that a frame carries on; the nest mates' links -/
def tb_T : List Cond := lw_tbl.filter goodWord
def tb_nest (w : Cond) : Bool := match w with
  | .fieldLinkNest .. => true
  | .methodLinkNest .. => true
  | _ => false
def tb_N : List Cond := lw_tbl.filter tb_nest
theorem tb_in {p : Nat} {w : Cond} (h : tables_1[p]? = some w) (g : goodWord w = true) : w ∈ tb_T := List.mem_filter.mpr ⟨List.mem_append_right _ (List.mem_of_getElem? h), g⟩
theorem tb_inN {p : Nat} {w : Cond} (h : tables_1[p]? = some w) (g : tb_nest w = true) : w ∈ tb_N := List.mem_filter.mpr ⟨List.mem_append_right _ (List.mem_of_getElem? h), g⟩
theorem tb_inS {p : Nat} {y : MethodName × Nat} (h : lw_privs[p]? = some y) (g : goodWord (Cond.selects y.1.cls y.1 y.1) = true) : Cond.selects y.1.cls y.1 y.1 ∈ tb_T := List.mem_filter.mpr ⟨List.mem_append_left _ (List.mem_map.mpr ⟨y, List.mem_of_getElem? h, rfl⟩), g⟩
/-- by places -/
def tb_w (p : Nat) (w : Cond) : Bool := decide (tables_1[p]? = some w) && goodWord w
def tb_wn (p : Nat) (w : Cond) : Bool := decide (tables_1[p]? = some w) && tb_nest w
theorem tb_w_of {p : Nat} {w : Cond} (h : tb_w p w = true) : w ∈ tb_T := by
  obtain ⟨h1, h2⟩ := Bool.and_eq_true_iff.mp h
  exact tb_in (of_decide_eq_true h1) h2
theorem tb_wn_of {p : Nat} {w : Cond} (h : tb_wn p w = true) : w ∈ tb_N := by
  obtain ⟨h1, h2⟩ := Bool.and_eq_true_iff.mp h
  exact tb_inN (of_decide_eq_true h1) h2
