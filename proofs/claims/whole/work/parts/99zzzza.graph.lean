/-! what exploring comes to -/
theorem adq_nat {a u1 u2 v1 v2 : Nat} (ha : 0 < a) (hu : u2 ∣ a) (hv : v2 ∣ a) (h : u1 * (a / u2) + v1 * (a / v2) ≤ a) : 0 < u2 * v2 / Nat.gcd (u1 * v2 + v1 * u2) (u2 * v2) ∧ u2 * v2 / Nat.gcd (u1 * v2 + v1 * u2) (u2 * v2) ∣ a ∧ (u1 * v2 + v1 * u2) / Nat.gcd (u1 * v2 + v1 * u2) (u2 * v2) * (a / (u2 * v2 / Nat.gcd (u1 * v2 + v1 * u2) (u2 * v2))) = u1 * (a / u2) + v1 * (a / v2) ∧ (u1 * v2 + v1 * u2) / Nat.gcd (u1 * v2 + v1 * u2) (u2 * v2) ≤ u2 * v2 / Nat.gcd (u1 * v2 + v1 * u2) (u2 * v2) := by
  obtain ⟨A, hA⟩ := hu
  obtain ⟨B, hB⟩ := hv
  have u0 : 0 < u2 := Nat.pos_of_ne_zero (fun z => by rw [z, Nat.zero_mul] at hA; omega)
  have v0 : 0 < v2 := Nat.pos_of_ne_zero (fun z => by rw [z, Nat.zero_mul] at hB; omega)
  have eA : a / u2 = A := by rw [hA, Nat.mul_div_cancel_left _ u0]
  have eB : a / v2 = B := by rw [hB, Nat.mul_div_cancel_left _ v0]
  rw [eA, eB] at h ⊢
  have key : (u1 * v2 + v1 * u2) * a = (u1 * A + v1 * B) * (u2 * v2) := by
    have e1 : u1 * v2 * a = u1 * A * (u2 * v2) := by rw [hA]; ac_rfl
    have e2 : v1 * u2 * a = v1 * B * (u2 * v2) := by rw [hB]; ac_rfl
    rw [Nat.add_mul, Nat.add_mul, e1, e2]
  have q0 : 0 < u2 * v2 := Nat.mul_pos u0 v0
  generalize u1 * v2 + v1 * u2 = p at *
  generalize u2 * v2 = q at *
  generalize u1 * A + v1 * B = M at *
  have g0 : 0 < Nat.gcd p q := Nat.gcd_pos_of_pos_right _ q0
  obtain ⟨p', hp⟩ := Nat.gcd_dvd_left p q
  obtain ⟨q', hq⟩ := Nat.gcd_dvd_right p q
  have co : Nat.gcd (p / Nat.gcd p q) (q / Nat.gcd p q) = 1 := Nat.gcd_div_gcd_div_gcd_of_pos_right q0
  have ep : p / Nat.gcd p q = p' := by
    conv => lhs; lhs; rw [hp]
    exact Nat.mul_div_cancel_left _ g0
  have eq : q / Nat.gcd p q = q' := by
    conv => lhs; lhs; rw [hq]
    exact Nat.mul_div_cancel_left _ g0
  rw [ep, eq] at co ⊢
  have q'0 : 0 < q' := Nat.pos_of_ne_zero (fun z => by rw [z, Nat.mul_zero] at hq; omega)
  have k2 : p' * a = M * q' := by
    apply Nat.eq_of_mul_eq_mul_left g0
    rw [← Nat.mul_assoc, ← hp, key]
    conv => lhs; rw [hq]
    ac_rfl
  have dq : q' ∣ a := by
    have : q' ∣ p' * a := ⟨M, by rw [k2, Nat.mul_comm]⟩
    exact Nat.Coprime.dvd_of_dvd_mul_left (Nat.Coprime.symm co) this
  obtain ⟨c, hc⟩ := dq
  have c0 : 0 < c := Nat.pos_of_ne_zero (fun z => by rw [z, Nat.mul_zero] at hc; omega)
  have e3 : p' * c = M := by
    apply Nat.eq_of_mul_eq_mul_right q'0
    rw [← k2, hc]
    ac_rfl
  refine ⟨q'0, ⟨c, hc⟩, ?_, ?_⟩
  · rw [hc, Nat.mul_div_cancel_left _ q'0]; exact e3
  · apply Nat.le_of_mul_le_mul_right _ c0
    rw [e3, ← hc]
    exact h
/-- a chance by a-ths -/
def Fq (a : Nat) (v : Int64 × Int64) : Prop := 0 ≤ v.1.toInt ∧ 0 < v.2.toInt ∧ v.2.toInt.toNat ∣ a
def wt (a : Nat) (v : Int64 × Int64) : Nat := v.1.toInt.toNat * (a / v.2.toInt.toNat)
def adq (a v : Int64 × Int64) : Int64 × Int64 := ((a.1 * v.2 + v.1 * a.2) / dv (a.1 * v.2 + v.1 * a.2) (a.2 * v.2), a.2 * v.2 / dv (a.1 * v.2 + v.1 * a.2) (a.2 * v.2))
theorem Fq.le {a : Nat} {v : Int64 × Int64} (h : Fq a v) (ha : 0 < a) (hw : wt a v ≤ a) : v.1.toInt ≤ v.2.toInt ∧ v.2.toInt ≤ a := by
  obtain ⟨h1, h2, c, hc⟩ := h
  have c0 : 0 < c := Nat.pos_of_ne_zero (fun z => by rw [z, Nat.mul_zero] at hc; omega)
  have p0 : 0 < v.2.toInt.toNat := by omega
  have e : a / v.2.toInt.toNat = c := by rw [hc, Nat.mul_div_cancel_left _ p0]
  have l : v.2.toInt.toNat ≤ a := by
    conv => rhs; rw [hc]
    exact Nat.le_mul_of_pos_right _ c0
  unfold wt at hw
  rw [e, hc] at hw
  have := Nat.le_of_mul_le_mul_right hw c0
  omega
theorem mul_nn {a b : Int} {A B : Nat} (h1 : a = A) (h2 : b = B) : a * b = ((A * B : Nat) : Int) := by rw [h1, h2, Int.natCast_mul]
theorem adq_ok {a : Nat} {u v : Int64 × Int64} (ha : 0 < a) (ha2 : a < 1000000000) (hu : Fq a u) (hv : Fq a v) (h : wt a u + wt a v ≤ a) : Fq a (adq u v) ∧ wt a (adq u v) = wt a u + wt a v ∧ 0 ≤ (u.1 * v.2 + v.1 * u.2).toInt ∧ 0 < (u.2 * v.2).toInt ∧ dv (u.1 * v.2 + v.1 * u.2) (u.2 * v.2) ≠ 0 := by
  obtain ⟨u3, u4⟩ := hu.le ha (by omega)
  obtain ⟨v3, v4⟩ := hv.le ha (by omega)
  obtain ⟨u1, u2, ud⟩ := hu
  obtain ⟨v1, v2, vd⟩ := hv
  have b : ∀ x y : Nat, x ≤ 1000000000 → y ≤ 1000000000 → x * y ≤ 1000000000000000000 := fun x y hx hy => Nat.mul_le_mul hx hy
  have eu1 : u.1.toInt = (u.1.toInt.toNat : Int) := by omega
  have eu2 : u.2.toInt = (u.2.toInt.toNat : Int) := by omega
  have ev1 : v.1.toInt = (v.1.toInt.toNat : Int) := by omega
  have ev2 : v.2.toInt = (v.2.toInt.toNat : Int) := by omega
  have N := adq_nat (u1 := u.1.toInt.toNat) (v1 := v.1.toInt.toNat) ha ud vd h
  unfold wt Fq at *
  have m1 := mul_nn eu1 ev2
  have m2 := mul_nn ev1 eu2
  have m3 := mul_nn eu2 ev2
  have b1 := b u.1.toInt.toNat v.2.toInt.toNat (by omega) (by omega)
  have b2 := b v.1.toInt.toNat u.2.toInt.toNat (by omega) (by omega)
  have b3 := b u.2.toInt.toNat v.2.toInt.toNat (by omega) (by omega)
  have p3 : 0 < u.2.toInt.toNat * v.2.toInt.toNat := Nat.mul_pos (by omega) (by omega)
  have x1 : (u.1 * v.2).toInt = ((u.1.toInt.toNat * v.2.toInt.toNat : Nat) : Int) := by rw [L_mul (by omega) (by omega), m1]
  have x2 : (v.1 * u.2).toInt = ((v.1.toInt.toNat * u.2.toInt.toNat : Nat) : Int) := by rw [L_mul (by omega) (by omega), m2]
  have x3 : (u.2 * v.2).toInt = ((u.2.toInt.toNat * v.2.toInt.toNat : Nat) : Int) := by rw [L_mul (by omega) (by omega), m3]
  have x4 : (u.1 * v.2 + v.1 * u.2).toInt = ((u.1.toInt.toNat * v.2.toInt.toNat + v.1.toInt.toNat * u.2.toInt.toNat : Nat) : Int) := by rw [L_add (by omega) (by omega)]; omega
  generalize u.1.toInt.toNat * v.2.toInt.toNat + v.1.toInt.toNat * u.2.toInt.toNat = p at *
  generalize hq : u.2.toInt.toNat * v.2.toInt.toNat = q at *
  unfold adq
  generalize u.1 * v.2 + v.1 * u.2 = P at *
  generalize u.2 * v.2 = Q at *
  obtain ⟨d1, d2, -⟩ := dv_ok (x := P) (y := Q) (by omega) (by omega)
  have d3 : (dv P Q).toInt = ((Nat.gcd p q : Nat) : Int) := by
    have e1 : P.toInt.natAbs = p := by omega
    have e2 : Q.toInt.natAbs = q := by omega
    rw [e1, e2] at d2
    omega
  have y1 : (P / dv P Q).toInt = ((p / Nat.gcd p q : Nat) : Int) := by rw [lg_ldiv_nonneg (by omega) d1, x4, d3, Int.natCast_ediv]
  have y2 : (Q / dv P Q).toInt = ((q / Nat.gcd p q : Nat) : Int) := by rw [lg_ldiv_nonneg (by omega) d1, x3, d3, Int.natCast_ediv]
  obtain ⟨n1, n2, n3, n4⟩ := N
  have z1 : (P / dv P Q).toInt.toNat = p / Nat.gcd p q := by rw [y1]; exact Int.toNat_natCast _
  have z2 : (Q / dv P Q).toInt.toNat = q / Nat.gcd p q := by rw [y2]; exact Int.toNat_natCast _
  dsimp only
  refine ⟨⟨by rw [y1]; exact Int.natCast_nonneg _, by rw [y2]; exact Int.natCast_pos.mpr n1, by rw [z2]; exact n2⟩, by rw [z1, z2]; exact n3, by omega, by omega, fun z => ?_⟩
  rw [z, L0] at d1
  omega
/-- the least whole that has all as parts -/
def xlc (p : Nat) : List (Int64 × Int64) → Int64 → Rs Int64
  | [], a => .inr a
  | v :: L, a => if a / dv a v.2 * v.2 < 1000000000 then xlc p L (a / dv a v.2 * v.2) else .inl (6, p)
def xsm (a : Int64) : List (Int64 × Int64) → Int64 → Int64
  | [], s => s
  | v :: L, s => xsm a L (s + v.1 * (a / v.2))
/-- a chance: from 0 to 1 -/
def C01 (v : Int64 × Int64) : Prop := 0 ≤ v.1.toInt ∧ v.1.toInt ≤ v.2.toInt ∧ 0 < v.2.toInt ∧ v.2.toInt < 1000000000
theorem lc_st {a d : Int64} (ha : 0 < a.toInt) (ha2 : a.toInt < 1000000000) (hd : 0 < d.toInt) (hd2 : d.toInt < 1000000000) : (a / dv a d * d).toInt = ((a.toInt.toNat / Nat.gcd a.toInt.toNat d.toInt.toNat * d.toInt.toNat : Nat) : Int) ∧ 0 < a.toInt.toNat / Nat.gcd a.toInt.toNat d.toInt.toNat * d.toInt.toNat ∧ a.toInt.toNat ∣ a.toInt.toNat / Nat.gcd a.toInt.toNat d.toInt.toNat * d.toInt.toNat ∧ dv a d ≠ 0 := by
  obtain ⟨d1, d2, -⟩ := dv_ok (x := a) (y := d) (by omega) hd
  rw [show a.toInt.natAbs = a.toInt.toNat by omega, show d.toInt.natAbs = d.toInt.toNat by omega] at d2
  have ea : a.toInt = (a.toInt.toNat : Int) := by omega
  have ed : d.toInt = (d.toInt.toNat : Int) := by omega
  generalize a.toInt.toNat = A at *
  generalize d.toInt.toNat = D at *
  have g0 : 0 < Nat.gcd A D := Nat.gcd_pos_of_pos_right _ (by omega)
  have d3 : (dv a d).toInt = ((Nat.gcd A D : Nat) : Int) := by omega
  have y1 : (a / dv a d).toInt = ((A / Nat.gcd A D : Nat) : Int) := by rw [lg_ldiv_nonneg (by omega) d1, ea, d3, Int.natCast_ediv]
  obtain ⟨A', hA⟩ := Nat.gcd_dvd_left A D
  obtain ⟨D', hD⟩ := Nat.gcd_dvd_right A D
  have eA : A / Nat.gcd A D = A' := by
    conv => lhs; lhs; rw [hA]
    exact Nat.mul_div_cancel_left _ g0
  have A0 : 0 < A' := Nat.pos_of_ne_zero (fun z => by rw [z, Nat.mul_zero] at hA; omega)
  have le : A / Nat.gcd A D ≤ A := Nat.div_le_self _ _
  have b : A / Nat.gcd A D * D ≤ 1000000000 * 1000000000 := Nat.mul_le_mul (by omega) (by omega)
  have m := mul_nn y1 ed
  refine ⟨by rw [L_mul (by omega) (by omega), m], ?_, ?_, fun z => ?_⟩
  · rw [eA]; exact Nat.mul_pos A0 (by omega)
  · rw [eA]
    refine ⟨D', ?_⟩
    conv => lhs; rw [hD]
    conv => rhs; lhs; rw [hA]
    ac_rfl
  · rw [z, L0] at d1; omega
theorem xlc_ok {p : Nat} : ∀ {L : List (Int64 × Int64)} {a z : Int64}, (∀ v ∈ L, C01 v) → 0 < a.toInt → a.toInt < 1000000000 → xlc p L a = .inr z → 0 < z.toInt ∧ z.toInt < 1000000000 ∧ a.toInt.toNat ∣ z.toInt.toNat ∧ ∀ v ∈ L, v.2.toInt.toNat ∣ z.toInt.toNat := by
  intro L
  induction L with
  | nil =>
    intro a z _ h1 h2 h
    injection h with h
    subst h
    exact ⟨h1, h2, Nat.dvd_refl _, fun v hv => by cases hv⟩
  | cons v L ih =>
    intro a z hL h1 h2 h
    have hv := hL v List.mem_cons_self
    obtain ⟨e1, e2, e3, -⟩ := lc_st h1 h2 hv.2.2.1 hv.2.2.2
    unfold xlc at h
    by_cases c : a / dv a v.2 * v.2 < 1000000000
    · rw [if_pos c] at h
      rw [Int64.lt_iff_toInt_lt, LG] at c
      obtain ⟨i1, i2, i3, i4⟩ := ih (fun u hu => hL u (List.mem_cons_of_mem _ hu)) (by omega) c h
      have en : (a / dv a v.2 * v.2).toInt.toNat = a.toInt.toNat / Nat.gcd a.toInt.toNat v.2.toInt.toNat * v.2.toInt.toNat := by omega
      rw [en] at i3
      refine ⟨i1, i2, Nat.dvd_trans e3 i3, fun u hu => ?_⟩
      rcases List.mem_cons.mp hu with z1 | z1
      · rw [z1]
        exact Nat.dvd_trans ⟨_, Nat.mul_comm _ _⟩ i3
      · exact i4 u z1
    · rw [if_neg c] at h
      cases h
theorem xsm_ok {a : Int64} (ha : 0 < a.toInt) (ha2 : a.toInt < 1000000000) : ∀ {L : List (Int64 × Int64)} {s : Int64}, (∀ v ∈ L, Fq a.toInt.toNat v ∧ C01 v) → 0 ≤ s.toInt → s.toInt + L.length * 1000000000 < 1000000000000 → (xsm a L s).toInt = s.toInt + ((L.map (wt a.toInt.toNat)).sum : Nat) := by
  intro L
  induction L with
  | nil => intro s _ _ _; show s.toInt = s.toInt + ((0 : Nat) : Int); omega
  | cons v L ih =>
    intro s hL h1 h2
    obtain ⟨⟨q1, q2, q3⟩, q4⟩ := hL v List.mem_cons_self
    have e1 : (a / v.2).toInt = ((a.toInt.toNat / v.2.toInt.toNat : Nat) : Int) := by
      rw [lg_ldiv_nonneg (by omega) q2, Int.natCast_ediv, Int.toNat_of_nonneg (by omega), Int.toNat_of_nonneg (by omega)]
    have m := mul_nn (show v.1.toInt = (v.1.toInt.toNat : Int) by omega) e1
    have w1 : wt a.toInt.toNat v ≤ 1000000000 := by
      unfold wt
      have : v.1.toInt.toNat * (a.toInt.toNat / v.2.toInt.toNat) ≤ v.2.toInt.toNat * (a.toInt.toNat / v.2.toInt.toNat) := Nat.mul_le_mul_right _ (by have := q4.2.1; omega)
      have t := Nat.mul_div_le a.toInt.toNat v.2.toInt.toNat
      omega
    have e2 : (v.1 * (a / v.2)).toInt = ((wt a.toInt.toNat v : Nat) : Int) := by
      unfold wt at w1 ⊢
      rw [L_mul (by omega) (by omega), m]
    rw [List.length_cons] at h2
    have e3 : (s + v.1 * (a / v.2)).toInt = s.toInt + (wt a.toInt.toNat v : Nat) := by rw [L_add (by omega) (by omega), e2]
    show (xsm a L (s + v.1 * (a / v.2))).toInt = _
    rw [ih (fun u hu => hL u (List.mem_cons_of_mem _ hu)) (by omega) (by omega), e3, List.map_cons, List.sum_cons]
    omega
abbrev Vl : Type := Nat → Int32
/-- states: how many, their values -/
abbrev Pst : Type := Nat × (Nat → Vl)
/-- branches: how many; where each goes, its chance -/
abbrev Bn : Type := Nat × (Nat → Nat × Int64 × Int64)
/-- states, owners, the first command of each; commands: how many, which, the first branch of each; branches -/
abbrev Gsh : Type := Pst × (Nat → Nat) × (Nat → Nat) × (Nat × (Nat → Nat) × (Nat → Nat)) × Bn
def upv {α : Type} (f : Nat → α) (i : Nat) (v : α) : Nat → α := fun k => if k = i then v else f k
theorem upv_s {α : Type} (f : Nat → α) (i : Nat) (v : α) : upv f i v i = v := if_pos rfl
theorem upv_o {α : Type} (f : Nat → α) {i k : Nat} (v : α) (h : k ≠ i) : upv f i v k = f k := if_neg h
def vno (E : List En) (j : Nat) : Nat := (E.getD j eN).2.2.2.2.2.2.1
def vlo (E : List En) (j : Nat) : Int32 := (E.getD j eN).2.2.2.2.2.1.1
def vhi (E : List En) (j : Nat) : Int32 := (E.getD j eN).2.2.2.2.2.1.2.1
def vin (E : List En) (j : Nat) : Int32 := (E.getD j eN).2.2.2.2.2.1.2.2
/-- a state is found -/
def smv (V : Nat) (a b : Vl) : Bool := (List.range V).all fun v => decide (a v = b v)
theorem smv_t {V : Nat} {a b : Vl} : smv V a b = true ↔ ∀ v, v < V → a v = b v := by
  unfold smv
  simp
def fsv (V : Nat) (sv : Nat → Vl) (nx : Vl) : Nat → Nat → Option Nat
  | 0, _ => none
  | r + 1, k => if smv V (sv k) nx = true then some k else fsv V sv nx r (k + 1)
def xgo (V : Nat) (P : Pst) (nx : Vl) : Option (Nat × Pst) := match fsv V P.2 nx P.1 0 with
  | some k => some (k, P)
  | none => if P.1 = 512 then none else some (P.1, P.1 + 1, upv P.2 P.1 nx)
/-- a branch of the command goes there -/
def fbr (br : Nat → Nat × Int64 × Int64) (g : Nat) : Nat → Nat → Option Nat
  | 0, _ => none
  | r + 1, i => if (br i).1 = g then some i else fbr br g r (i + 1)
theorem fbr_at {br : Nat → Nat × Int64 × Int64} {g : Nat} : ∀ {r i j : Nat}, fbr br g r i = some j → (br j).1 = g := by
  intro r
  induction r with
  | zero => intro i j h; cases h
  | succ r ih =>
    intro i j h
    unfold fbr at h
    split at h
    · rename_i c
      injection h with h
      rw [← h]; exact c
    · exact ih h
def xbw (b0 : Nat) (B : Bn) (g : Nat) (v : Int64 × Int64) : Option Bn := match fbr B.2 g (B.1 - b0) b0 with
  | some i => some (B.1, upv B.2 i (g, adq (B.2 i).2 v))
  | none => if B.1 = 4096 then none else some (B.1 + 1, upv B.2 B.1 (g, v))
section GR
variable (l : List Int32) (w : List (Nat × Nat × Nat)) (E : List En)
def exv (vs : Vl) (T : Tr) : Rs (Int64 × Int64) := evl l w E (fvn l w E vs) T false
/-- the var that a set names -/
def vjx (T : Tr) : Nat := (fnd l w E (bw T - 3)).getD 0
/-- a set -/
def xs1 (T : Tr) (nx : Vl) (v : Int64 × Int64) : Rs Vl := if kdn (E.getD (vjx l w E T) eN) = 2 ∨ v.2 = 1 then (if v.1 < (vlo E (vjx l w E T)).toInt64 ∨ (vhi E (vjx l w E T)).toInt64 < v.1 then .inl (12, kP w (bw T - 4)) else .inr (upv nx (vno E (vjx l w E T)) v.1.toInt32)) else .inl (8, kP w (bw T - 4))
def xst (vs : Vl) : List Tr → Vl → Rs Vl
  | [], nx => .inr nx
  | T :: S, nx => sbd (sbd (exv l w E vs T) fun v => xs1 l w E T nx v) fun nx' => xst vs S nx'
/-- where a branch goes; V: how many vars -/
def xb2 (V pl b0 : Nat) (b : Tr) (v : Int64 × Int64) (s : Pst × Bn) (nx : Vl) : Rs (Pst × Bn) := match xgo V s.1 nx with
  | none => .inl (5, kP w (bw b))
  | some q => match xbw b0 s.2 q.1 v with
    | none => .inl (5, pl)
    | some B => .inr (q.2, B)
def xb1 (V : Nat) (vs : Vl) (pl b0 : Nat) (b : Tr × List Tr) (v : Int64 × Int64) (s : Pst × Bn) : Rs (Pst × Bn) := sbd (xst l w E vs b.2.reverse vs) fun nx => xb2 w V pl b0 b.1 v s nx
def xbs (V : Nat) (vs : Vl) (pl b0 : Nat) : List ((Tr × List Tr) × (Int64 × Int64)) → Pst × Bn → Rs (Pst × Bn)
  | [], s => .inr s
  | (b, v) :: L, s => if v.1 = 0 then xbs V vs pl b0 L s else sbd (xb1 l w E V vs pl b0 b v s) fun s' => xbs V vs pl b0 L s'
/-- the chances of a command -/
def xc1 (b : Tr) (v : Int64 × Int64) : Rs (Int64 × Int64) := if v.1 < 0 ∨ v.2 < v.1 then .inl (11, kP w (bw b)) else .inr v
def xch (vs : Vl) : List (Tr × List Tr) → Rs (List (Int64 × Int64))
  | [] => .inr []
  | b :: B => sbd (sbd (exv l w E vs b.1) fun v => xc1 w b.1 v) fun v => sbd (xch vs B) fun L => .inr (v :: L)
/-- who may take it: max 1, min 2 -/
def pwo (c : It) : Nat := if kK w c.2.1 = 8 then 2 else 1
/-- a command that may be taken, in the state k -/
def xcm (V : Nat) (vs : Vl) (k i : Nat) (c : It) (G : Gsh) : Rs Gsh := if G.2.1 k = 0 ∨ G.2.1 k = pwo w c then
    sbd (xch l w E vs (bsr c.2.2).reverse) fun L => sbd (xlc (kP w c.2.1) L 1) fun a => if xsm a L 0 = a then
      sbd (xbs l w E V vs (kP w c.2.1) G.2.2.2.2.1 ((bsr c.2.2).reverse.zip L) (G.1, G.2.2.2.2)) fun s => .inr (s.1, upv G.2.1 k (pwo w c), G.2.2.1, (G.2.2.2.1.1 + 1, upv G.2.2.2.1.2.1 G.2.2.2.1.1 i, upv G.2.2.2.1.2.2 G.2.2.2.1.1 G.2.2.2.2.1), s.2)
    else .inl (11, kP w c.2.1)
  else .inl (13, kP w c.2.1)
def xco (V : Nat) (vs : Vl) (k i : Nat) (c : It) (G : Gsh) : Rs Gsh := sbd (exv l w E vs (gdr c.2.2)) fun v => if v.1 = 1 then xcm l w E V vs k i c G else .inr G
def xcs (V : Nat) (vs : Vl) (k : Nat) : Nat → List It → Gsh → Rs Gsh
  | _, [], G => .inr G
  | i, c :: L, G => sbd (xco l w E V vs k i c G) fun G' => xcs V vs k (i + 1) L G'
/-- a state -/
def xbg (k : Nat) (G : Gsh) : Gsh := (G.1, upv G.2.1 k 0, upv G.2.2.1 k G.2.2.2.1.1, G.2.2.2)
def xen (V k : Nat) (tg : Tr) (C : List It) (G : Gsh) : Rs Gsh := sbd (exv l w E (G.1.2 k) tg) fun v => if v.1 = 1 then .inr (G.1, upv G.2.1 k 3, upv G.2.2.1 k G.2.2.2.1.1, G.2.2.2) else xcs l w E V (G.1.2 k) k 0 C (xbg k G)
def xal (V : Nat) (tg : Tr) (C : List It) : Nat → Nat → Gsh → (Nat × Nat × Nat) ⊕ Gsh
  | 0, _, G => .inr G
  | f + 1, k, G => if k < G.1.1 then (match xen l w E V k tg C G with
    | .inl e => .inl (e.1, e.2, k)
    | .inr G' => xal V tg C f (k + 1) G') else .inr G
end GR
/-- the values at the begin -/
def vi0 (E : List En) (v : Nat) : Int32 := match E.find? (fun e => decide (e.2.1 = 3 ∧ e.2.2.2.2.2.2.1 = v)) with
  | some e => e.2.2.2.2.2.1.2.2
  | none => 0
def G00 (E : List En) : Gsh := ((1, fun _ => vi0 E), fun _ => 0, fun _ => 0, (0, fun _ => 0, fun _ => 0), (0, fun _ => (0, 0, 0)))
/-- the whole graph of a text, or its fault: which, where, in which state -/
def xex (l : List Int32) (w : List (Nat × Nat × Nat)) (X : Tx) (tg : Tr) : (Nat × Nat × Nat) ⊕ Gsh := xal l w X.1 (cnt X.1 3) tg X.2.2.reverse 512 0 (G00 X.1)
