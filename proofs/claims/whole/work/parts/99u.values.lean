/-! values are small: numbers below 10^9 in size, truths 0 and 1 -/
theorem okv1 {v : Int64 × Int64} : okv 1 v ↔ v.1.toInt.natAbs < 1000000000 ∧ 0 < v.2.toInt ∧ v.2.toInt < 1000000000 := by
  unfold okv
  rw [Int64.lt_iff_toInt_lt, Int64.lt_iff_toInt_lt, Int64.lt_iff_toInt_lt, Int64.lt_iff_toInt_lt, L0, LG, LGn]
  constructor
  · rintro (⟨-, h⟩ | ⟨h, -⟩)
    · omega
    · omega
  · intro h
    exact Or.inl ⟨rfl, by omega, by omega, by omega, by omega⟩
theorem okv2 {v : Int64 × Int64} : okv 2 v ↔ (v.1 = 0 ∨ v.1 = 1) ∧ v.2 = 0 := by
  unfold okv
  constructor
  · rintro (⟨h, -⟩ | ⟨-, h⟩)
    · omega
    · exact h
  · intro h
    exact Or.inr ⟨rfl, h⟩
theorem mB {a d : Int} (ha : a.natAbs < 1000000000) (hd : d.natAbs < 1000000000) : (a * d).natAbs < 1000000000000000000 := by
  rw [Int.natAbs_mul]
  exact Nat.lt_of_lt_of_le (Nat.mul_lt_mul'' ha hd) (by decide)
theorem L_mB {a d : Int64} (ha : a.toInt.natAbs < 1000000000) (hd : d.toInt.natAbs < 1000000000) : (a * d).toInt = a.toInt * d.toInt ∧ (a * d).toInt.natAbs < 1000000000000000000 := by
  have h := mB ha hd
  have e : (a * d).toInt = a.toInt * d.toInt := L_mul (by omega) (by omega)
  exact ⟨e, by rw [e]; exact h⟩
theorem L_mP {a d : Int64} (ha : 0 < a.toInt) (ha2 : a.toInt < 1000000000) (hd : 0 < d.toInt) (hd2 : d.toInt < 1000000000) : 0 < (a * d).toInt ∧ (a * d).toInt < 1000000000000000000 := by
  obtain ⟨e, h⟩ := L_mB (a := a) (d := d) (by omega) (by omega)
  have p : 0 < a.toInt * d.toInt := Int.mul_pos ha hd
  omega
theorem fra_ok {x y : Int64} {z : Int64 × Int64} (hx : x.toInt ≠ -9223372036854775808) (hy : 0 < y.toInt) (h : fra x y = .inr z) : okv 1 z := by
  obtain ⟨d1, d2, -⟩ := dv_ok hx hy
  unfold fra at h
  split at h
  · cases h
  · rename_i c
    injection h with h
    subst h
    rw [Int64.le_iff_toInt_le, Int64.le_iff_toInt_le, Int64.le_iff_toInt_le, LG, LGn] at c
    rw [okv1]
    dsimp only
    have e : (y / dv x y).toInt = y.toInt / (dv x y).toInt := lg_ldiv_nonneg (Int.le_of_lt hy) d1
    have hd : (dv x y).toInt ∣ y.toInt := by
      have g : Nat.gcd x.toInt.natAbs y.toInt.natAbs ∣ y.toInt.natAbs := Nat.gcd_dvd_right _ _
      have e1 : (dv x y).toInt = ((Nat.gcd x.toInt.natAbs y.toInt.natAbs : Nat) : Int) := by omega
      have e2 : y.toInt = ((y.toInt.natAbs : Nat) : Int) := by omega
      rw [e1, e2]
      exact Int.natCast_dvd_natCast.mpr g
    have p : 0 < y.toInt / (dv x y).toInt := Int.ediv_pos_of_pos_of_dvd hy (Int.le_of_lt d1) hd
    refine ⟨by omega, by omega, by omega⟩
theorem md_ok {a c : Int64} (ha : a.toInt.natAbs < 1000000000) (hc : 0 < c.toInt) (hc2 : c.toInt < 1000000000) : 0 ≤ (md a c).toInt ∧ (md a c).toInt < c.toInt := by
  have hne : c ≠ -1 := fun z => by rw [z] at hc; exact absurd hc (by decide)
  have e1 := Int64.toInt_div_of_ne_right a c hne
  have n1 : (a / c).toInt.natAbs < 1000000000 := by
    rw [e1, Int.natAbs_tdiv]
    exact Nat.lt_of_le_of_lt (Nat.div_le_self _ _) ha
  obtain ⟨e2, b2⟩ := L_mB (a := a / c) (d := c) n1 (by omega)
  have e3 : (a - a / c * c).toInt = a.toInt.tmod c.toInt := by
    rw [L_sub (by omega) (by omega), e2, e1, Int.tmod_def, Int.mul_comm]
  have n2 : (a.toInt.tmod c.toInt).natAbs < c.toInt.natAbs := by
    rw [Int.natAbs_tmod]
    exact Nat.mod_lt _ (by omega)
  unfold md
  by_cases q : a - a / c * c < 0
  · rw [if_pos q]
    rw [Int64.lt_iff_toInt_lt, L0] at q
    rw [L_add (by omega) (by omega)]
    omega
  · rw [if_neg q]
    rw [Int64.lt_iff_toInt_lt, L0] at q
    omega
theorem rk_ok {op : Nat} {a b c d : Int64} {z : Int64 × Int64} (h1 : okv 1 (a, b)) (h2 : okv 1 (c, d)) (h : rk op a b c d = .inr z) : okv 1 z := by
  obtain ⟨a1, a2, a3⟩ := okv1.mp h1
  obtain ⟨c1, c2, c3⟩ := okv1.mp h2
  dsimp only at a1 a2 a3 c1 c2 c3
  obtain ⟨m1, m2⟩ := L_mB (a := a) (d := d) a1 (by omega)
  obtain ⟨m3, m4⟩ := L_mB (a := c) (d := b) c1 (by omega)
  obtain ⟨m5, m6⟩ := L_mB (a := a) (d := c) a1 c1
  obtain ⟨p1, p2⟩ := L_mP a2 a3 c2 c3
  have na : (-a).toInt = -a.toInt := L_neg (by omega)
  have nbb : (-b).toInt = -b.toInt := L_neg (by omega)
  obtain ⟨m7, m8⟩ := L_mB (a := -a) (d := d) (by omega) (by omega)
  obtain ⟨m9, m10⟩ := L_mB (a := b) (d := c) (by omega) c1
  obtain ⟨m11, m12⟩ := L_mB (a := -b) (d := c) (by omega) c1
  unfold rk at h
  split at h
  · exact fra_ok (by rw [L_add (by omega) (by omega)]; omega) p1 h
  split at h
  · exact fra_ok (by rw [L_sub (by omega) (by omega)]; omega) p1 h
  split at h
  · exact fra_ok (by omega) p1 h
  split at h
  · split at h
    · cases h
    · rename_i cz
      split at h
      · rename_i cn
        rw [Int64.lt_iff_toInt_lt, L0] at cn
        refine fra_ok (by omega) ?_ h
        rw [m11, nbb]
        exact Int.mul_pos_of_neg_of_neg (by omega) cn
      · rename_i cn
        rw [Int64.lt_iff_toInt_lt, L0] at cn
        have cne : c.toInt ≠ 0 := fun z => cz (Int64.toInt_inj.mp (by rw [z, L0]))
        refine fra_ok (by omega) ?_ h
        rw [m9]
        exact Int.mul_pos a2 (by omega)
  split at h
  · cases h
  split at h
  · cases h
  · rename_i cn
    rw [Int64.le_iff_toInt_le, L0] at cn
    injection h with h
    subst h
    obtain ⟨q1, q2⟩ := md_ok a1 (show 0 < c.toInt by omega) (by omega)
    rw [okv1]
    dsimp only
    rw [L1]
    omega
theorem okv_tv (b : Bool) : okv 2 (tv b) := by
  rw [okv2]
  cases b
  · exact ⟨Or.inl rfl, rfl⟩
  · exact ⟨Or.inr rfl, rfl⟩
theorem vr_ok {pl op : Nat} {u v z : Int64 × Int64} (h1 : okv 1 u) (h2 : okv 1 v) (ho : ¬ (10 ≤ op ∧ op ≤ 15)) (h : vr pl op u v = .inr z) : okv 1 z := by
  unfold vr at h
  rw [if_neg ho] at h
  split at h
  · injection h with h
    subst h
    split
    · exact h2
    · exact h1
  split at h
  · injection h with h
    subst h
    split
    · exact h2
    · exact h1
  split at h
  · cases h
  · rename_i z' e
    injection h with h
    subst h
    exact rk_ok h1 h2 e
/-- numbers read are small -/
def Nvk (l : List Int32) (w : List (Nat × Nat × Nat)) : Prop := ∀ k, kK w k = 2 → 0 ≤ (nv l (l.length - kP w k) (kP w k) 0).toInt ∧ (nv l (l.length - kP w k) (kP w k) 0).toInt < 1000000000
theorem sbd_i {α β : Type} {x : Rs α} {f : α → Rs β} {b : β} (h : sbd x f = .inr b) : ∃ a, x = .inr a ∧ f a = .inr b := by
  cases x with
  | inl e => cases h
  | inr a => exact ⟨a, rfl, h⟩
theorem evl_ok {l : List Int32} {w : List (Nat × Nat × Nat)} {E : List En} {fv : Nat → Rs (Int64 × Int64)} {co : Bool} (hn : Nvk l w) (hf : ∀ j, j < E.length → (co = true → (E.getD j eN).2.1 = 1) → ∀ v, fv j = .inr v → okv (if (E.getD j eN).2.2.1 then 2 else 1) v) : ∀ (T : Tr) (c : Bool) (kd : Nat) (v : Int64 × Int64), Wf w T → chk l w E co T = .inr kd → kd ≠ 0 → evl l w E fv T c = .inr v → okv kd v := by
  intro T
  induction T with
  | leaf k =>
    intro c kd v hW h1 h0 h2
    have hW : opd (kK w k) = true := hW
    simp only [opd, Bool.or_eq_true, decide_eq_true_eq] at hW
    unfold chk at h1
    unfold evl at h2
    split at h1
    · rename_i k2
      rw [if_pos k2] at h2
      injection h1 with h1
      injection h2 with h2
      subst h1 h2
      obtain ⟨n1, n2⟩ := hn k k2
      rw [okv1]
      dsimp only
      rw [Int32.toInt_toInt64, L1]
      omega
    · rename_i k2
      rw [if_neg k2] at h2
      split at h1
      · rename_i k1
        rw [if_neg (by omega), if_neg (by omega)] at h2
        unfold chn at h1
        split at h1
        · cases h1
        · rename_i j hj
          split at h1
          · cases h1
          · rename_i hco
            injection h1 with h1
            subst h1
            rw [hj] at h2
            have lt : j < E.length := by
              have hj : E.findIdx? (fun e => swd l w e.1 k) = some j := hj
              exact (List.findIdx?_eq_some_iff_getElem.mp hj).1
            exact hf j lt (fun z => Decidable.byContradiction fun y => hco ⟨z, y⟩) v h2
      · injection h1 with h1
        subst h1
        split at h2
        · injection h2 with h2
          subst h2
          exact okv2.mpr ⟨Or.inr rfl, rfl⟩
        · split at h2
          · injection h2 with h2
            subst h2
            exact okv2.mpr ⟨Or.inl rfl, rfl⟩
          · omega
  | branch n l' r il ir =>
    intro c kd v hW h1 h0 h2
    obtain ⟨hWl, hWr, -, -⟩ := hW
    unfold chk at h1
    unfold evl at h2
    by_cases cu : un (n % 64) = true
    · rw [if_pos cu] at h1 h2
      obtain ⟨a, ha, hk⟩ := sbd_i h1
      obtain ⟨u, hu, hv⟩ := sbd_i h2
      injection hv with hv
      subst hv
      have cu : n % 64 = 9 ∨ n % 64 = 16 ∨ n % 64 = 35 ∨ n % 64 = 22 := by
        simp only [un, Bool.or_eq_true, decide_eq_true_eq] at cu
        omega
      unfold ku at hk
      split at hk
      · rename_i c35
        injection hk with hk
        subst hk
        unfold vu
        rw [if_neg (by omega), if_neg (by omega)]
        exact ir false a u hWr ha h0 hu
      split at hk
      · rename_i c35 c16
        split at hk
        · rename_i a2
          injection hk with hk
          subst hk a2
          obtain ⟨q1, q2⟩ := okv2.mp (ir false 2 u hWr ha h0 hu)
          unfold vu
          rw [if_neg (by omega), if_pos c16]
          refine okv2.mpr ⟨?_, rfl⟩
          rcases q1 with q | q
          · rw [q]; exact Or.inr rfl
          · rw [q]; exact Or.inl rfl
        · cases hk
      · rename_i c35 c16
        split at hk
        · rename_i a2
          injection hk with hk
          subst hk a2
          have q := ir false 1 u hWr ha h0 hu
          unfold vu
          rw [if_neg c16]
          split
          · obtain ⟨q1, q2, q3⟩ := okv1.mp q
            refine okv1.mpr ⟨?_, q2, q3⟩
            dsimp only
            rw [L_neg (by omega)]
            omega
          · exact q
        · cases hk
    · have cu0 : un (n % 64) = false := by simpa using cu
      have hWl := hWl cu0
      rw [if_neg cu] at h1 h2
      obtain ⟨a, ha, h1⟩ := sbd_i h1
      obtain ⟨b, hb, h1⟩ := sbd_i h1
      unfold kr at h1
      by_cases c37 : n % 64 = 37
      · rw [if_pos c37] at h2
        rw [if_neg (by omega), if_neg (by omega), if_neg (by omega), if_pos c37] at h1
        injection h1 with h1
        by_cases cab : a = b
        · rw [if_pos cab] at h1
          subst h1
          split at h2
          · exact il false a v hWl ha h0 h2
          · exact ir false a v hWr (by rw [cab]; exact hb) h0 h2
        · rw [if_neg cab] at h1
          exact absurd h1.symm h0
      rw [if_neg c37] at h2 h1
      obtain ⟨u, hu, h2⟩ := sbd_i h2
      by_cases c17 : n % 64 = 17
      · rw [if_pos c17] at h2
        rw [if_neg (by omega), if_pos (Or.inl c17)] at h1
        split at h1
        · rename_i q
          injection h1 with h1
          subst h1
          split at h2
          · exact ir false 2 v hWr (by rw [← q.2]; exact hb) h0 h2
          · injection h2 with h2
            subst h2
            exact okv2.mpr ⟨Or.inl rfl, rfl⟩
        · cases h1
      rw [if_neg c17] at h2
      by_cases c18 : n % 64 = 18
      · rw [if_pos c18] at h2
        rw [if_neg (by omega), if_pos (Or.inr c18)] at h1
        split at h1
        · rename_i q
          injection h1 with h1
          subst h1
          split at h2
          · injection h2 with h2
            subst h2
            exact okv2.mpr ⟨Or.inr rfl, rfl⟩
          · exact ir false 2 v hWr (by rw [← q.2]; exact hb) h0 h2
        · cases h1
      rw [if_neg c18] at h2
      by_cases c19 : n % 64 = 19
      · rw [if_pos c19] at h2
        rw [if_neg (by omega), if_neg (by omega), if_pos c19] at h1
        split at h1
        · injection h1 with h1
          subst h1
          exact ir _ b v hWr hb h0 h2
        · cases h1
      rw [if_neg c19] at h2
      obtain ⟨v', hv', h2⟩ := sbd_i h2
      by_cases cc : 10 ≤ n % 64 ∧ n % 64 ≤ 15
      · have k2 : kd = 2 := by
          by_cases c10 : n % 64 = 10 ∨ n % 64 = 11
          · rw [if_pos c10] at h1
            split at h1
            · injection h1 with h1
              exact h1.symm
            · cases h1
          · rw [if_neg c10, if_neg (by omega), if_neg c19, if_neg (by omega), if_pos (by omega)] at h1
            split at h1
            · injection h1 with h1
              exact h1.symm
            · cases h1
        subst k2
        unfold vr at h2
        rw [if_pos cc] at h2
        injection h2 with h2
        subst h2
        exact okv_tv _
      · have k1 : kd = 1 ∧ a = 1 ∧ b = 1 := by
          rw [if_neg (by omega), if_neg (by omega), if_neg c19] at h1
          by_cases c20 : n % 64 = 20 ∨ n % 64 = 21
          · rw [if_pos c20] at h1
            injection h1 with h1
            by_cases q : a = 1 ∧ b = 1
            · rw [if_pos q] at h1
              exact ⟨h1.symm, q⟩
            · rw [if_neg q] at h1
              exact absurd h1.symm h0
          · rw [if_neg c20, if_neg (by omega)] at h1
            split at h1
            · rename_i q
              injection h1 with h1
              exact ⟨h1.symm, q⟩
            · cases h1
        obtain ⟨rfl, rfl, rfl⟩ := k1
        exact vr_ok (il false 1 u hWl ha h0 hu) (ir false 1 v' hWr hb h0 hv') cc h2
