/-! THE ABSTRACT HEAP: cells 1 .. n (0 is the law's script), how many cells and slots were made. An array's class is its tag (0 int, 1 long); tags and numbers of cells become classes and addresses by cc and ρ. -/
abbrev vz_H : Type := Nat × (Nat → va_E) × Nat × Nat
def vz_te (cc : Nat → ClassId) (ρ : Nat → Nat) (x : va_E) : va_E := match x with
  | .inl a => .inl (cc a.1, a.2)
  | .inr o => .inr (o.1, o.2.map (vz_t ρ))
def vz_w (cc : Nat → ClassId) (ρ : Nat → Nat) (μ : vz_H) : va_W := (List.range μ.1).map fun i => (ρ (i + 1), vz_te cc ρ (μ.2.1 (i + 1)))
theorem vz_w_len (cc : Nat → ClassId) (ρ : Nat → Nat) (μ : vz_H) : (vz_w cc ρ μ).length = μ.1 := by simp [vz_w]
theorem vz_w_get {cc : Nat → ClassId} {ρ : Nat → Nat} {μ : vz_H} {a : Nat} (h0 : 0 < a) (h1 : a ≤ μ.1) : (vz_w cc ρ μ)[a - 1]? = some (ρ a, vz_te cc ρ (μ.2.1 a)) := by
  unfold vz_w
  rw [List.getElem?_map, List.getElem?_range (by omega)]
  show some (ρ (a - 1 + 1), vz_te cc ρ (μ.2.1 (a - 1 + 1))) = _
  rw [Nat.sub_add_cancel h0]
def vz_upd (μ : vz_H) (a : Nat) (x : va_E) : vz_H := (μ.1, va_up μ.2.1 a x, μ.2.2.1, μ.2.2.2)
theorem vz_w_set {cc : Nat → ClassId} {ρ : Nat → Nat} {μ : vz_H} {a : Nat} (h0 : 0 < a) (h1 : a ≤ μ.1) (x : va_E) : (vz_w cc ρ μ).set (a - 1) (ρ a, vz_te cc ρ x) = vz_w cc ρ (vz_upd μ a x) := by
  apply List.ext_getElem?
  intro i
  by_cases hi : i < μ.1
  · have e2 : (vz_w cc ρ (vz_upd μ a x))[i]? = some (ρ (i + 1), vz_te cc ρ ((vz_upd μ a x).2.1 (i + 1))) := vz_w_get (a := i + 1) (by omega) hi
    rw [e2]
    by_cases e : a - 1 = i
    · have e3 : a = i + 1 := by omega
      subst e3
      rw [e, List.getElem?_set_self (by rw [vz_w_len]; exact hi)]
      show some (ρ (i + 1), vz_te cc ρ x) = some (ρ (i + 1), vz_te cc ρ (va_up μ.2.1 (i + 1) x (i + 1)))
      rw [va_up_self]
    · rw [List.getElem?_set_ne e]
      have e4 : (vz_w cc ρ μ)[i]? = some (ρ (i + 1), vz_te cc ρ (μ.2.1 (i + 1))) := vz_w_get (a := i + 1) (by omega) hi
      rw [e4]
      show _ = some (ρ (i + 1), vz_te cc ρ (va_up μ.2.1 a x (i + 1)))
      rw [va_up_ne _ _ (by omega)]
  · rw [List.getElem?_eq_none (by rw [List.length_set, vz_w_len]; omega), List.getElem?_eq_none (by rw [vz_w_len]; show μ.1 ≤ i; omega)]
/-- numbers from here on are the constants' texts -/
def vz_M0 : Nat := 1000000
/-- the lasting cells 1 .. N0; of a growing array among them, who holds it (object and slot), and the other way. Cells beyond N0 are for a while: fresh arrays that become the contents of a growing one -/
abbrev vz_Gr : Type := Nat × (Nat → Option (Nat × Nat)) × (Nat → Nat → Option Nat)
/-- a lasting cell that never moves, or a text -/
def vz_stb (g : vz_Gr) (a : Nat) : Bool := (Nat.ble a g.1 || Nat.ble vz_M0 a) && (g.2.1 a).isNone
/-- a reference is to a cell that is there, or to a text -/
def vz_ok (n : Nat) (v : Value) : Prop := ∀ a : Nat, v = .ref a → a ≤ n ∨ vz_M0 ≤ a
def vz_ng (g : vz_Gr) (v : Value) : Prop := ∀ a : Nat, v = .ref a → vz_stb g a = true
def vz_okF (g : vz_Gr) (n b j : Nat) (v : Value) : Prop := ∀ c : Nat, v = .ref c → ((c ≤ n ∧ c ≤ g.1) ∨ vz_M0 ≤ c) ∧ ∀ z, g.2.1 c = some z → z = (b, j)
def vz_okE (g : vz_Gr) (n b : Nat) (x : va_E) : Prop := match x with
  | .inl _ => True
  | .inr o => ∀ (j : Nat) (v : Value), o.2[j]? = some v → vz_okF g n b j v
def vz_okH (g : vz_Gr) (μ : vz_H) : Prop := μ.1 < vz_M0 ∧ ∀ a : Nat, 0 < a → a ≤ μ.1 → vz_okE g μ.1 a (μ.2.1 a)
def vz_okS (n : Nat) (st : List Value) : Prop := ∀ v ∈ st, vz_ok n v
def vz_okL (n : Nat) (lv : vz_L) : Prop := ∀ q ∈ lv, vz_ok n q.2
def vz_ngS (g : vz_Gr) (st : List Value) : Prop := ∀ v ∈ st, vz_ng g v
def vz_ngL (g : vz_Gr) (lv : vz_L) : Prop := ∀ q ∈ lv, vz_ng g q.2
/-- the addresses of what never moves are as they were -/
def vz_ex (g : vz_Gr) (n : Nat) (ρ' ρ : Nat → Nat) : Prop := ∀ a, a ≤ n ∨ vz_M0 ≤ a → vz_stb g a = true → ρ' a = ρ a
/-- .. and of all else too -/
def vz_ex0 (n : Nat) (ρ' ρ : Nat → Nat) : Prop := ∀ a, a ≤ n ∨ vz_M0 ≤ a → ρ' a = ρ a
theorem vz_ex.rf {g : vz_Gr} {n : Nat} {ρ : Nat → Nat} : vz_ex g n ρ ρ := fun _ _ _ => rfl
theorem vz_ex0.ex {g : vz_Gr} {n : Nat} {ρ' ρ : Nat → Nat} (h : vz_ex0 n ρ' ρ) : vz_ex g n ρ' ρ := fun a ha _ => h a ha
theorem vz_ex.tr {g : vz_Gr} {n k : Nat} {ρ1 ρ2 ρ3 : Nat → Nat} (h1 : vz_ex g n ρ2 ρ1) (hk : n ≤ k) (h2 : vz_ex g k ρ3 ρ2) : vz_ex g n ρ3 ρ1 := fun a ha hg => (h2 a (ha.imp (fun h => Nat.le_trans h hk) id) hg).trans (h1 a ha hg)
theorem vz_ok_le {n k : Nat} (h : n ≤ k) {v : Value} (hv : vz_ok n v) : vz_ok k v := fun a e => (hv a e).imp (fun q => Nat.le_trans q h) id
theorem vz_okF_ok {g : vz_Gr} {n b j : Nat} {v : Value} (h : vz_okF g n b j v) : vz_ok n v := fun a e => (h a e).1.imp (fun q => q.1) id
theorem vz_okE_le {g : vz_Gr} {n k b : Nat} (h : n ≤ k) {x : va_E} (hv : vz_okE g n b x) : vz_okE g k b x := by
  cases x with
  | inl a => exact trivial
  | inr o => exact fun j v hm c e => ⟨(hv j v hm c e).1.imp (fun q => ⟨Nat.le_trans q.1 h, q.2⟩) id, (hv j v hm c e).2⟩
theorem vz_t_ex0 {ρ ρ' : Nat → Nat} {n : Nat} (hρ : vz_ex0 n ρ' ρ) {v : Value} (hv : vz_ok n v) : vz_t ρ' v = vz_t ρ v := by
  cases v with
  | ref a => show Value.ref (ρ' a) = Value.ref (ρ a); rw [hρ a (hv a rfl)]
  | _ => rfl
theorem vz_t_ext {g : vz_Gr} {ρ ρ' : Nat → Nat} {n : Nat} (hρ : vz_ex g n ρ' ρ) {v : Value} (hv : vz_ok n v) (hg : vz_ng g v) : vz_t ρ' v = vz_t ρ v := by
  cases v with
  | ref a => show Value.ref (ρ' a) = Value.ref (ρ a); rw [hρ a (hv a rfl) (hg a rfl)]
  | _ => rfl
theorem vz_ts_ex0 {ρ ρ' : Nat → Nat} {n : Nat} (hρ : vz_ex0 n ρ' ρ) {st : List Value} (hv : vz_okS n st) : vz_ts ρ' st = vz_ts ρ st :=
  List.map_congr_left fun v hm => vz_t_ex0 hρ (hv v hm)
theorem vz_tl_ex0 {ρ ρ' : Nat → Nat} {n : Nat} (hρ : vz_ex0 n ρ' ρ) {lv : vz_L} (hv : vz_okL n lv) : vz_tl ρ' lv = vz_tl ρ lv :=
  List.map_congr_left fun q hm => by rw [vz_t_ex0 hρ (hv q hm)]
theorem vz_ts_ext {g : vz_Gr} {ρ ρ' : Nat → Nat} {n : Nat} (hρ : vz_ex g n ρ' ρ) {st : List Value} (hv : vz_okS n st) (hg : vz_ngS g st) : vz_ts ρ' st = vz_ts ρ st :=
  List.map_congr_left fun v hm => vz_t_ext hρ (hv v hm) (hg v hm)
theorem vz_tl_ext {g : vz_Gr} {ρ ρ' : Nat → Nat} {n : Nat} (hρ : vz_ex g n ρ' ρ) {lv : vz_L} (hv : vz_okL n lv) (hg : vz_ngL g lv) : vz_tl ρ' lv = vz_tl ρ lv :=
  List.map_congr_left fun q hm => by rw [vz_t_ext hρ (hv q hm) (hg q hm)]
theorem vz_te_ex0 {cc : Nat → ClassId} {g : vz_Gr} {ρ ρ' : Nat → Nat} {n b : Nat} (hρ : vz_ex0 n ρ' ρ) {x : va_E} (hv : vz_okE g n b x) : vz_te cc ρ' x = vz_te cc ρ x := by
  cases x with
  | inl a => rfl
  | inr o =>
    show Sum.inr (o.1, o.2.map (vz_t ρ')) = Sum.inr (o.1, o.2.map (vz_t ρ))
    rw [List.map_congr_left fun v hm => by
      obtain ⟨j, hj⟩ := List.getElem?_of_mem hm
      exact vz_t_ex0 hρ (vz_okF_ok (hv j v hj))]
/-- a new cell, of k slots -/
def vz_new (μ : vz_H) (x : va_E) (k : Nat) : vz_H := (μ.1 + 1, va_up μ.2.1 (μ.1 + 1) x, μ.2.2.1 + 1, μ.2.2.2 + k)
theorem vz_ex0_new {ρ : Nat → Nat} {n q : Nat} (hn : n + 1 < vz_M0) : vz_ex0 n (va_up ρ (n + 1) q) ρ := fun a ha => va_up_ne _ _ (by
  rcases ha with h | h
  · omega
  · omega)
theorem vz_w_new {cc : Nat → ClassId} {g : vz_Gr} {ρ : Nat → Nat} {μ : vz_H} (hH : vz_okH g μ) (hn : μ.1 + 1 < vz_M0) {x x' : va_E} {q k : Nat} (hx : vz_te cc (va_up ρ (μ.1 + 1) q) x = x') : vz_w cc ρ μ ++ [(q, x')] = vz_w cc (va_up ρ (μ.1 + 1) q) (vz_new μ x k) := by
  have hρ : vz_ex0 μ.1 (va_up ρ (μ.1 + 1) q) ρ := vz_ex0_new hn
  unfold vz_w
  show _ = (List.range (μ.1 + 1)).map _
  rw [List.range_succ, List.map_append]
  congr 1
  · refine List.map_congr_left fun i hi => ?_
    have hi : i < μ.1 := List.mem_range.mp hi
    show (ρ (i + 1), vz_te cc ρ (μ.2.1 (i + 1))) = (va_up ρ (μ.1 + 1) q (i + 1), vz_te cc (va_up ρ (μ.1 + 1) q) (va_up μ.2.1 (μ.1 + 1) x (i + 1)))
    rw [hρ (i + 1) (Or.inl hi), va_up_ne (k := μ.1 + 1) _ _ (by omega : i + 1 ≠ μ.1 + 1), vz_te_ex0 hρ (hH.2 (i + 1) (by omega) hi)]
  · show [(q, x')] = [(va_up ρ (μ.1 + 1) q (μ.1 + 1), vz_te cc (va_up ρ (μ.1 + 1) q) (va_up μ.2.1 (μ.1 + 1) x (μ.1 + 1)))]
    rw [va_up_self, va_up_self, hx]
theorem vz_okH_upd {g : vz_Gr} {μ : vz_H} {a : Nat} {x : va_E} (h : vz_okH g μ) (hx : vz_okE g μ.1 a x) : vz_okH g (vz_upd μ a x) := by
  refine ⟨h.1, fun b h0 h1 => ?_⟩
  show vz_okE g μ.1 b (va_up μ.2.1 a x b)
  by_cases e : b = a
  · subst e
    rw [va_up_self]
    exact hx
  · rw [va_up_ne _ _ e]
    exact h.2 b h0 h1
theorem vz_okH_new {g : vz_Gr} {μ : vz_H} {x : va_E} {k : Nat} (h : vz_okH g μ) (hn : μ.1 + 1 < vz_M0) (hx : vz_okE g μ.1 (μ.1 + 1) x) : vz_okH g (vz_new μ x k) := by
  refine ⟨hn, fun b h0 h1 => ?_⟩
  show vz_okE g (μ.1 + 1) b (va_up μ.2.1 (μ.1 + 1) x b)
  by_cases e : b = μ.1 + 1
  · subst e
    rw [va_up_self]
    exact vz_okE_le (Nat.le_succ _) hx
  · rw [va_up_ne _ _ e]
    exact vz_okE_le (Nat.le_succ _) (h.2 b h0 (by have h1 : b ≤ μ.1 + 1 := h1; omega))
/-- the cell of an object, the contents of an array -/
def vz_obj (μ : vz_H) (a : Nat) : Option (Nat × List Value) := if 0 < a ∧ a ≤ μ.1 then (match μ.2.1 a with
  | .inr o => some o
  | .inl _ => none) else none
def vz_arr (μ : vz_H) (a : Nat) : Option (Nat × vp_A) := if a ≤ μ.1 then (match μ.2.1 a with
  | .inl x => some x
  | .inr _ => none) else none
theorem vz_obj_of {μ : vz_H} {a : Nat} {o : Nat × List Value} (h : vz_obj μ a = some o) : 0 < a ∧ a ≤ μ.1 ∧ μ.2.1 a = .inr o := by
  unfold vz_obj at h
  split at h
  · next hc =>
    split at h
    · next o' e => cases h; exact ⟨hc.1, hc.2, e⟩
    · cases h
  · cases h
theorem vz_arr_of {μ : vz_H} {a : Nat} {x : Nat × vp_A} (h : vz_arr μ a = some x) : a ≤ μ.1 ∧ μ.2.1 a = .inl x := by
  unfold vz_arr at h
  split at h
  · next hc =>
    split at h
    · next o' e => cases h; exact ⟨hc, e⟩
    · cases h
  · cases h
theorem vz_obj_ok {g : vz_Gr} {μ : vz_H} {a : Nat} {o : Nat × List Value} (hH : vz_okH g μ) (h : vz_obj μ a = some o) {k : Nat} {v : Value} (hv : o.2[k]? = some v) : vz_ok μ.1 v := by
  obtain ⟨h0, h1, e⟩ := vz_obj_of h
  have h2 := hH.2 a h0 h1
  rw [e] at h2
  exact vz_okF_ok (h2 k v hv)
/-- what never moves, by a program -/
def vz_nb (g : vz_Gr) (v : Value) : Bool := match v with
  | .ref a => vz_stb g a
  | _ => true
theorem vz_nb_of {g : vz_Gr} {v : Value} (h : vz_nb g v = true) : vz_ng g v := by
  intro a e
  subst e
  exact h
def vz_nbS (g : vz_Gr) (st : List Value) : Bool := st.all (vz_nb g)
def vz_nbL (g : vz_Gr) (lv : vz_L) : Bool := lv.all fun q => vz_nb g q.2
theorem vz_nbS_of {g : vz_Gr} {st : List Value} (h : vz_nbS g st = true) : vz_ngS g st := fun v hv => vz_nb_of (List.all_eq_true.mp h v hv)
theorem vz_nbL_of {g : vz_Gr} {lv : vz_L} (h : vz_nbL g lv = true) : vz_ngL g lv := fun v hv => vz_nb_of (List.all_eq_true.mp h v hv)
/-- methods that put no array into a slot, nor call one that does: while they run nothing moves -/
def vz_q (y : Nat) : Bool := [139, 63, 77, 78, 177, 159].contains y
/-- what may move while a method runs -/
def vz_gq (g : vz_Gr) (y : Nat) : vz_Gr := bif vz_q y then (g.1, fun _ => none, g.2.2) else g
theorem vz_gq_f {g : vz_Gr} {y : Nat} (h : vz_q y = false) : vz_gq g y = g := by
  unfold vz_gq
  rw [h]
  rfl
theorem vz_gq_t {g : vz_Gr} {y : Nat} (h : vz_q y = true) : vz_gq g y = (g.1, fun _ => none, g.2.2) := by
  unfold vz_gq
  rw [h]
  rfl
theorem vz_gq_1 {g : vz_Gr} {y : Nat} : (vz_gq g y).1 = g.1 := by
  cases h : vz_q y with
  | true => rw [vz_gq_t h]
  | false => rw [vz_gq_f h]
theorem vz_gq_s {g : vz_Gr} {y y' a : Nat} (hq : (!vz_q y || vz_q y') = true) (h : vz_stb (vz_gq g y) a = true) : vz_stb (vz_gq g y') a = true := by
  cases h' : vz_q y' with
  | true =>
    unfold vz_stb at h ⊢
    obtain ⟨h1, h2⟩ := Bool.and_eq_true_iff.mp h
    rw [vz_gq_1] at h1 ⊢
    rw [h1, vz_gq_t h']
    rfl
  | false =>
    rw [h', Bool.or_false] at hq
    have h0 : vz_q y = false := by
      cases z : vz_q y with
      | true => rw [z] at hq; cases hq
      | false => rfl
    rw [vz_gq_f h0] at h
    rw [vz_gq_f h']
    exact h
theorem vz_gq_x {g : vz_Gr} {y y' n : Nat} {ρ' ρ : Nat → Nat} (hq : (!vz_q y || vz_q y') = true) (h : vz_ex (vz_gq g y') n ρ' ρ) : vz_ex (vz_gq g y) n ρ' ρ := fun a ha hs => h a ha (vz_gq_s hq hs)
theorem vz_nb_gq {g : vz_Gr} {y : Nat} {v : Value} (h : vz_nb g v = true) : vz_nb (vz_gq g y) v = true := by
  cases v with
  | ref a =>
    have h : vz_stb g a = true := h
    show vz_stb (vz_gq g y) a = true
    cases z : vz_q y with
    | true =>
      unfold vz_stb at h ⊢
      obtain ⟨h1, h2⟩ := Bool.and_eq_true_iff.mp h
      rw [vz_gq_1, h1, vz_gq_t z]
      rfl
    | false => rw [vz_gq_f z]; exact h
  | _ => rfl
theorem vz_nbL_gq {g : vz_Gr} {y : Nat} {lv : vz_L} (h : vz_nbL g lv = true) : vz_nbL (vz_gq g y) lv = true := List.all_eq_true.mpr fun q hq => vz_nb_gq (List.all_eq_true.mp h q hq)
/-- the locals that hold what never moves -/
def vz_fl (g : vz_Gr) (lv : vz_L) : vz_L := lv.filter fun q => vz_nb g q.2
