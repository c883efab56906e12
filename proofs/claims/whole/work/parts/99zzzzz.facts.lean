/-! what holds of every text that was taken -/
section TFX
variable {l : List Int32} {w : List (Nat × Nat × Nat)} {E : List En} {e : En} {op k m r : Nat} {R : List (Nat × Tr)} {T : Tr} {x x' : Tx}
theorem rul_kk (h : rul l w E op k ((r, T) :: R) = none) : rul l w E op k R = none ∧ ahd l w E R r T = none ∧ ∃ kd, chk l w E (cOn op) T = .inr kd ∧ (wkd l w E k r T = 0 ∨ kd = wkd l w E k r T) := by
  rw [rul_s] at h
  cases hr : rul l w E op k R with
  | some e => rw [hr] at h; cases h
  | none =>
    rw [hr] at h
    dsimp only at h
    cases ha : ahd l w E R r T with
    | some e => rw [ha] at h; cases h
    | none =>
      rw [ha] at h
      dsimp only at h
      unfold rck at h
      cases hc : chk l w E (cOn op) T with
      | inl e => rw [hc] at h; cases h
      | inr kd =>
        rw [hc] at h
        dsimp only at h
        by_cases c : wkd l w E k r T = 0 ∨ kd = wkd l w E k r T
        · exact ⟨rfl, rfl, kd, rfl, c⟩
        · rw [if_neg c] at h; cases h
/-- a rule of constants has a value of its kind -/
theorem eT_ok (hn : Nvk l w) (hc : Cok E) {kd : Nat} (hw : Wf w T) (hk : chk l w E true T = .inr kd) (hz : kd ≠ 0) {v : Int64 × Int64} (h : eT l w E T = .inr v) : okv kd v := by
  refine evl_ok (co := true) hn (fun j hj s u z => ?_) T false kd v hw hk hz h
  have s1 := s rfl
  rw [fvn_c s1] at z
  injection z with z
  rw [← z]
  exact hc j hj s1
theorem eI_ok (hn : Nvk l w) (hc : Cok E) (hw : Wf w T) (hk : chk l w E true T = .inr 1) {a : Int32} (h : eI l w E T = .inr a) : -1000000000 < a.toInt64 ∧ a.toInt64 < 1000000000 := by
  obtain ⟨v, h1, h2⟩ := sbd_i h
  have ok := eT_ok hn hc hw hk (by decide) h1
  by_cases c : v.2 = 1
  · rw [if_pos c] at h2
    injection h2 with h2
    rcases ok with ⟨-, o1, o2, -⟩ | ⟨z, -⟩
    · have b1 := Int64.lt_iff_toInt_lt.mp o1
      have b2 := Int64.lt_iff_toInt_lt.mp o2
      have e1 : (-1000000000 : Int64).toInt = -1000000000 := by decide
      have e2 : (1000000000 : Int64).toInt = 1000000000 := by decide
      rw [e1] at b1
      rw [e2] at b2
      have t := toL (x := v.1) (by omega)
      rw [← h2, t]
      exact ⟨o1, o2⟩
    · omega
  · rw [if_neg c] at h2; cases h2
/-- one name more -/
theorem Evx_app (h : Evx E) (hq : e.2.1 = 3 → e.2.2.2.2.2.2.1 = cnt E 3 ∧ (e.2.2.2.2.2.1.1 ≤ e.2.2.2.2.2.1.2.2 ∧ e.2.2.2.2.2.1.2.2 ≤ e.2.2.2.2.2.1.2.1) ∧ ∀ y : Int32, e.2.2.2.2.2.1.1 ≤ y → y ≤ e.2.2.2.2.2.1.2.1 → okv (kdn e) (y.toInt64, if e.2.2.1 then 0 else 1)) : Evx (E ++ [e]) := by
  obtain ⟨h1, h2, h3, h4, h5⟩ := h
  have lt : ∀ j, j < (E ++ [e]).length → j < E.length ∨ j = E.length := fun j hj => by rw [len_app] at hj; omega
  have ct : cnt (E ++ [e]) 3 = cnt E 3 + if e.2.1 = 3 then 1 else 0 := cnt_app 3
  have vn : vno (E ++ [e]) E.length = e.2.2.2.2.2.2.1 := by unfold vno; rw [gD_new]
  have vo : ∀ j, j < E.length → vno (E ++ [e]) j = vno E j := fun j hj => by unfold vno; rw [gD_app hj]
  refine ⟨fun v hv => ?_, fun i j hi hj si sj hv => ?_, fun j hj sj => ?_, fun j hj sj y z1 z2 => ?_, fun j hj sj => ?_⟩
  · by_cases c : v < cnt E 3
    · obtain ⟨j, a, b, d⟩ := h1 v c
      exact ⟨j, by rw [len_app]; omega, by rw [gD_app a]; exact b, (vo j a).trans d⟩
    · by_cases s : e.2.1 = 3
      · rw [ct, if_pos s] at hv
        exact ⟨E.length, by rw [len_app]; omega, by rw [gD_new]; exact s, by rw [vn, (hq s).1]; omega⟩
      · rw [ct, if_neg s] at hv; omega
  · rcases lt i hi with a | a <;> rcases lt j hj with b | b
    · rw [gD_app a] at si
      rw [gD_app b] at sj
      rw [vo i a, vo j b] at hv
      exact h2 i j a b si sj hv
    · subst b
      rw [gD_app a] at si
      rw [gD_new] at sj
      rw [vo i a, vn, (hq sj).1] at hv
      have := h3 i a si
      omega
    · subst a
      rw [gD_app b] at sj
      rw [gD_new] at si
      rw [vo j b, vn, (hq si).1] at hv
      have := h3 j b sj
      omega
    · omega
  · rw [ct]
    rcases lt j hj with a | a
    · rw [gD_app a] at sj
      have := h3 j a sj
      rw [vo j a]
      omega
    · subst a
      rw [gD_new] at sj
      rw [vn, (hq sj).1, if_pos sj]
      omega
  · rcases lt j hj with a | a
    · unfold vlo at z1
      unfold vhi at z2
      rw [gD_app a] at sj z1 z2 ⊢
      exact h4 j a sj y z1 z2
    · subst a
      unfold vlo at z1
      unfold vhi at z2
      rw [gD_new] at sj z1 z2 ⊢
      exact (hq sj).2.2 y z1 z2
  · unfold vlo vin vhi
    rcases lt j hj with a | a
    · rw [gD_app a] at sj ⊢
      exact h5 j a sj
    · subst a
      rw [gD_new] at sj ⊢
      exact (hq sj).2.1
/-- a var's range -/
theorem rng_ok (hn : Nvk l w) (hc : Cok E) (hC : Ch w 29 k R) (hF : Fi w 29 k R m) (hr : rul l w E 29 k R = none) {b : Int32 × Int32 × Int32} (h : rng l w E k R = .inr b) : (b.1 ≤ b.2.2 ∧ b.2.2 ≤ b.2.1) ∧ ∀ y : Int32, b.1 ≤ y → y ≤ b.2.1 → okv (if decide (kK w (k + 3) = 5) then 2 else 1) (y.toInt64, if decide (kK w (k + 3) = 5) then 0 else 1) := by
  unfold rng at h
  by_cases k5 : kK w (k + 3) = 5
  · rw [if_pos k5] at h
    have d : decide (kK w (k + 3) = 5) = true := decide_eq_true k5
    have ok : ∀ y : Int32, 0 ≤ y → y ≤ 1 → okv 2 (y.toInt64, 0) := fun y a1 a2 => by
      have b1 := Int32.le_iff_toInt_le.mp a1
      have b2 := Int32.le_iff_toInt_le.mp a2
      have e0 : (0 : Int32).toInt = 0 := by decide
      have e1 : (1 : Int32).toInt = 1 := by decide
      rw [e0] at b1
      rw [e1] at b2
      have : y = 0 ∨ y = 1 := by
        by_cases c : y.toInt = 0
        · exact Or.inl (Int32.toInt_inj.mp (c.trans e0.symm))
        · exact Or.inr (Int32.toInt_inj.mp ((show y.toInt = 1 by omega).trans e1.symm))
      rcases this with rfl | rfl
      · exact Or.inr ⟨rfl, Or.inl (by decide), rfl⟩
      · exact Or.inr ⟨rfl, Or.inr (by decide), rfl⟩
    rcases one_b hC k5 with rfl | ⟨T, rfl⟩
    · injection h with h
      subst h
      exact ⟨⟨by decide, by decide⟩, fun y a1 a2 => by rw [if_pos d, if_pos d]; exact ok y a1 a2⟩
    · obtain ⟨v, h1, h2⟩ := sbd_i h
      injection h2 with h2
      subst h2
      obtain ⟨-, -, kd, q1, q2⟩ := rul_kk hr
      have e2 : wkd l w E k 3 T = 2 := by unfold wkd; rw [if_neg (by decide), if_pos rfl, if_pos k5]
      have ek : kd = 2 := by omega
      subst ek
      have ov := eT_ok hn hc hC.2.1 q1 (by decide) h1
      refine ⟨?_, fun y a1 a2 => by rw [if_pos d, if_pos d]; exact ok y a1 a2⟩
      rcases ov with ⟨z, -⟩ | ⟨-, z | z, -⟩
      · omega
      · show (0 : Int32) ≤ v.1.toInt32 ∧ v.1.toInt32 ≤ 1
        rw [z]; decide
      · show (0 : Int32) ≤ v.1.toInt32 ∧ v.1.toInt32 ≤ 1
        rw [z]; decide
  · rw [if_neg k5] at h
    have d : ¬ decide (kK w (k + 3) = 5) = true := fun z => k5 (of_decide_eq_true z)
    have ok : ∀ lo hi : Int32, (-1000000000 < lo.toInt64 ∧ lo.toInt64 < 1000000000) → (-1000000000 < hi.toInt64 ∧ hi.toInt64 < 1000000000) → ∀ y : Int32, lo ≤ y → y ≤ hi → okv 1 (y.toInt64, 1) := fun lo hi b1 b2 y a1 a2 => by
      have c1 := Int64.lt_iff_toInt_lt.mp b1.1
      have c2 := Int64.lt_iff_toInt_lt.mp b2.2
      have a1 := Int32.le_iff_toInt_le.mp a1
      have a2 := Int32.le_iff_toInt_le.mp a2
      have e1 : (-1000000000 : Int64).toInt = -1000000000 := by decide
      have e2 : (1000000000 : Int64).toInt = 1000000000 := by decide
      rw [e1, Int32.toInt_toInt64] at c1
      rw [e2, Int32.toInt_toInt64] at c2
      refine Or.inl ⟨rfl, Int64.lt_iff_toInt_lt.mpr ?_, Int64.lt_iff_toInt_lt.mpr ?_, (show (0 : Int64) < 1 by decide), (show (1 : Int64) < 1000000000 by decide)⟩
      · rw [e1, Int32.toInt_toInt64]; omega
      · rw [e2, Int32.toInt_toInt64]; omega
    have w1 : ∀ r T, r = 1 ∨ r = 2 → wkd l w E k r T = 1 := fun r T z => by unfold wkd; rw [if_pos (by omega)]
    rcases one_i hC hF k5 with ⟨Th, Tl, rfl⟩ | ⟨Tb, Th, Tl, rfl⟩
    · obtain ⟨r1, -, kh, p1, p2⟩ := rul_kk hr
      obtain ⟨-, -, kl, q1, q2⟩ := rul_kk r1
      rw [w1 2 Th (Or.inr rfl)] at p2
      rw [w1 1 Tl (Or.inl rfl)] at q2
      have eh : kh = 1 := by omega
      have el : kl = 1 := by omega
      subst eh; subst el
      obtain ⟨lo, h1, h2⟩ := sbd_i h
      obtain ⟨hi, h3, h4⟩ := sbd_i h2
      have bl := eI_ok hn hc hC.1.2.1 q1 h1
      have bh := eI_ok hn hc hC.2.1 p1 h3
      by_cases c : hi < lo ∨ ¬ hi - lo < 10000
      · rw [if_pos c] at h4; cases h4
      · rw [if_neg c] at h4
        injection h4 with h4
        subst h4
        exact ⟨⟨Int32.le_refl _, Int32.not_lt.mp fun z => c (Or.inl z)⟩, fun y a1 a2 => by rw [if_neg d, if_neg d]; exact ok lo hi bl bh y a1 a2⟩
    · obtain ⟨r0, -, -⟩ := rul_kk hr
      obtain ⟨r1, -, kh, p1, p2⟩ := rul_kk r0
      obtain ⟨-, -, kl, q1, q2⟩ := rul_kk r1
      rw [w1 2 Th (Or.inr rfl)] at p2
      rw [w1 1 Tl (Or.inl rfl)] at q2
      have eh : kh = 1 := by omega
      have el : kl = 1 := by omega
      subst eh; subst el
      obtain ⟨lo, h1, h2⟩ := sbd_i h
      obtain ⟨hi, h3, h4⟩ := sbd_i h2
      have bl := eI_ok hn hc hC.1.1.2.1 q1 h1
      have bh := eI_ok hn hc hC.1.2.1 p1 h3
      by_cases c : hi < lo ∨ ¬ hi - lo < 10000
      · rw [if_pos c] at h4; cases h4
      · rw [if_neg c] at h4
        obtain ⟨b0, h5, h6⟩ := sbd_i h4
        by_cases c2 : b0 < lo ∨ ¬ b0 ≤ hi
        · rw [if_pos c2] at h6; cases h6
        · rw [if_neg c2] at h6
          injection h6 with h6
          subst h6
          exact ⟨⟨Int32.not_lt.mp fun z => c2 (Or.inl z), Decidable.byContradiction fun z => c2 (Or.inr z)⟩, fun y a1 a2 => by rw [if_neg d, if_neg d]; exact ok lo hi bl bh y a1 a2⟩
theorem nd_map {f : Nat → Nat} : ∀ {S : List Nat}, S.Nodup → (∀ a ∈ S, ∀ b ∈ S, f a = f b → a = b) → (S.map f).Nodup := by
  intro S
  induction S with
  | nil => intro _ _; exact List.nodup_nil
  | cons a S ih =>
    intro h1 h2
    obtain ⟨n1, n2⟩ := List.nodup_cons.mp h1
    refine List.nodup_cons.mpr ⟨fun z => ?_, ih n2 fun b hb c hc => h2 b (List.mem_cons_of_mem _ hb) c (List.mem_cons_of_mem _ hc)⟩
    obtain ⟨b, hb, e⟩ := List.mem_map.mp z
    have := h2 b (List.mem_cons_of_mem _ hb) a (List.mem_cons_self ..) e
    subst this
    exact n1 hb
/-- branches and sets of a command -/
theorem cmw_r (hE : Evx E) (h12 : cnt E 3 ≤ 12) : ∀ {R : List (Nat × Tr)}, Ch w 31 k R → rul l w E 31 k R = none → ∀ b ∈ bsr R, b.2.length ≤ 12 := by
  intro R
  induction R with
  | nil => intro _ _ b hb; cases hb
  | cons y R ih =>
    obtain ⟨r, T⟩ := y
    intro hC hr b hb
    have hr0 := (rul_kk hr).1
    have eb : bsr ((r, T) :: R) = if r = 6 then (T, []) :: bsr R else if r = 7 then (match bsr R with
      | [] => []
      | (c, S) :: B => (c, T :: S) :: B) else bsr R := rfl
    by_cases c6 : r = 6
    · rw [eb, if_pos c6] at hb
      rcases List.mem_cons.mp hb with z | z
      · rw [z]; exact Nat.zero_le _
      · exact ih hC.1 hr0 b z
    by_cases c7 : r = 7
    · subst c7
      cases h0 : bsr R with
      | nil =>
        rw [eb, if_neg c6, if_pos rfl, h0] at hb
        cases hb
      | cons y B =>
        obtain ⟨c, S⟩ := y
        have e1 : bsr ((7, T) :: R) = (c, T :: S) :: B := by rw [eb, if_neg c6, if_pos rfl, h0]
        rw [e1] at hb
        rcases List.mem_cons.mp hb with z | z
        · have s := sts_b (l := l) (E := E) hC e1 ⟨T, R, Or.inr rfl⟩
          obtain ⟨-, n1, n2⟩ := rul_n hr
          have p := pig (cnt E 3) ((sts l w E ((7, T) :: R)).map (vno E)) (nd_map n1 fun a ha b hb => hE.2.1 a b (n2 a ha).1 (n2 b hb).1 (n2 a ha).2 (n2 b hb).2) (fun v hv => by
            obtain ⟨j, hj, ej⟩ := List.mem_map.mp hv
            rw [← ej]
            exact hE.2.2.1 j (n2 j hj).1 (n2 j hj).2)
          rw [List.length_map, s, List.length_map] at p
          rw [z]
          exact Nat.le_trans p h12
        · exact ih hC.1 hr0 b (by rw [h0]; exact List.mem_cons_of_mem _ z)
    · rw [eb, if_neg c6, if_neg c7] at hb
      exact ih hC.1 hr0 b hb
/-- a command -/
theorem cmd_r (hE : Evx E) (h12 : cnt E 3 ≤ 12) (ho : opw 31 (kK w k)) (hC : Ch w 31 k R) (hF : Fi w 31 k R m) (hr : rul l w E 31 k R = none) : Cmd w (31, k, R) ∧ CmW (31, k, R) := by
  have lb := bsr_len hC
  refine ⟨⟨?_, fun z => ?_⟩, ?_, cmw_r hE h12 hC hr⟩
  · unfold opw at ho
    show kK w k = 7 ∨ kK w k = 8
    omega
  · have z : bsr R = [] := z
    rw [z] at lb
    obtain ⟨-, ⟨-, q, -⟩ | ⟨r, T, R1, rfl, q⟩⟩ := hF
    · omega
    · have o := Ch_op hC
      have : r = 6 ∨ r = 7 := by
        have := o.2.2.1
        have := o.2.2.2.1
        have := o.2.2.2.2.1
        omega
      exact o.2.2.2.2.2.2.1 this lb.symm
  · show (bsr R).length ≤ 8
    rw [lb]
    exact (rul_n hr).1
/-- what holds of a text -/
def TFx (w : List (Nat × Nat × Nat)) (x : Tx) : Prop := Evx x.1 ∧ Cok x.1 ∧ (x.1.length = cnt x.1 1 + cnt x.1 2 + cnt x.1 3 ∧ cnt x.1 1 + cnt x.1 2 ≤ 60 ∧ cnt x.1 3 ≤ 12) ∧ ∀ c ∈ x.2.2, Cmd w c ∧ CmW c
theorem TFx.len (h : TFx w x) : x.1.length ≤ 72 := by
  have := h.2.2.1
  omega
theorem tfx_0 : TFx w ([], none, []) := ⟨⟨fun v hv => absurd hv (Nat.not_lt_zero v), fun i j hi => absurd hi (Nat.not_lt_zero i), fun j hj => absurd hj (Nat.not_lt_zero j), fun j hj => absurd hj (Nat.not_lt_zero j), fun j hj => absurd hj (Nat.not_lt_zero j)⟩, fun j hj => absurd hj (Nat.not_lt_zero j), ⟨rfl, Nat.zero_le _, Nat.zero_le _⟩, fun c hc => by cases hc⟩
theorem itk_tf (hn : Nvk l w) (h : TFx w x) (ho : opw op (kK w k)) (hC : Ch w op k R) (hF : Fi w op k R m) (hi : itk l w x op k R = .inr x') : TFx w x' := by
  unfold itk at hi
  cases hh : hdk l w x.1 x.2.1 x.2.2 op k with
  | some e => rw [hh] at hi; cases hi
  | none =>
  rw [hh] at hi
  dsimp only at hi
  cases hr : rul l w x.1 op k R with
  | some e => rw [hr] at hi; cases hi
  | none =>
  rw [hr] at hi
  dsimp only at hi
  obtain ⟨n1, n2, n3⟩ := hdk_n hh
  obtain ⟨t1, t2, ⟨t3, t4, t5⟩, t6⟩ := h
  have op5 : op = 27 ∨ op = 28 ∨ op = 29 ∨ op = 30 ∨ op = 31 := by unfold opw at ho; omega
  unfold fin at hi
  rcases op5 with rfl | rfl | rfl | rfl | rfl
  · rw [if_pos rfl] at hi
    obtain ⟨v, h1, h2⟩ := sbd_i hi
    injection h2 with h2
    subst h2
    obtain ⟨T, rfl⟩ := one_r (r := 0) hC hF (Or.inl rfl) rfl
    obtain ⟨-, -, kd, q1, -⟩ := rul_kk hr
    have q1 : chk l w x.1 true T = .inr kd := q1
    have h1 : eT l w x.1 T = .inr v := h1
    have k2 := (chk_3 T kd hC.2.1 q1).2 hC.2.2.1
    have ov := eT_ok hn t2 hC.2.1 q1 (by omega) h1
    have c60 := n1 (Or.inl rfl)
    refine ⟨Evx_app t1 (fun z => by cases z), Cok_app t2 fun _ => ?_, ⟨?_, ?_, ?_⟩, t6⟩
    · show okv (if kdT l w x.1 true T then 2 else 1) v
      unfold kdT
      rw [q1]
      dsimp only
      rcases k2 with rfl | rfl
      · exact ov
      · exact ov
    · rw [len_app, cnt_app, cnt_app, cnt_app, if_pos rfl, if_neg (fun z => by cases z), if_neg (fun z => by cases z)]; omega
    · rw [cnt_app, cnt_app, if_pos rfl, if_neg (fun z => by cases z)]; omega
    · rw [cnt_app, if_neg (fun z => by cases z)]; omega
  · rw [if_neg (by decide), if_pos rfl] at hi
    injection hi with h2
    subst h2
    have c60 := n1 (Or.inr rfl)
    refine ⟨Evx_app t1 (fun z => by cases z), Cok_app t2 (fun z => by cases z), ⟨?_, ?_, ?_⟩, t6⟩
    · rw [len_app, cnt_app, cnt_app, cnt_app, if_neg (fun z => by cases z), if_pos rfl, if_neg (fun z => by cases z)]; omega
    · rw [cnt_app, cnt_app, if_neg (fun z => by cases z), if_pos rfl]; omega
    · rw [cnt_app, if_neg (fun z => by cases z)]; omega
  · rw [if_neg (by decide), if_neg (by decide), if_pos rfl] at hi
    obtain ⟨b, h1, h2⟩ := sbd_i hi
    injection h2 with h2
    subst h2
    have c12 := n2 rfl
    have rk := rng_ok hn t2 hC hF hr h1
    refine ⟨Evx_app t1 (fun _ => ⟨rfl, rk.1, rk.2⟩), Cok_app t2 (fun z => by cases z), ⟨?_, ?_, ?_⟩, t6⟩
    · rw [len_app, cnt_app, cnt_app, cnt_app, if_neg (fun z => by cases z), if_neg (fun z => by cases z), if_pos rfl]; omega
    · rw [cnt_app, cnt_app, if_neg (fun z => by cases z), if_neg (fun z => by cases z)]; omega
    · rw [cnt_app, if_pos rfl]; omega
  · rw [if_neg (by decide), if_neg (by decide), if_neg (by decide), if_pos rfl] at hi
    injection hi with h2
    subst h2
    exact ⟨t1, t2, ⟨t3, t4, t5⟩, t6⟩
  · rw [if_neg (by decide), if_neg (by decide), if_neg (by decide), if_neg (by decide)] at hi
    injection hi with h2
    subst h2
    refine ⟨t1, t2, ⟨t3, t4, t5⟩, fun c hc => ?_⟩
    rcases List.mem_cons.mp hc with z | z
    · rw [z]; exact cmd_r t1 t5 ho hC hF hr
    · exact t6 c z
theorem itA_tf (hn : Nvk l w) : ∀ {I : List It} {i : Nat} {x : Tx}, PI w I i → itA l w I = .inr x → TFx w x := by
  intro I
  induction I with
  | nil =>
    intro i x _ h
    injection h with h
    subst h
    exact tfx_0
  | cons y I ih =>
    obtain ⟨op, k, R⟩ := y
    intro i x hP h
    obtain ⟨e, p1, p2, p3, p4, -⟩ := hP
    obtain ⟨x1, h1, h2⟩ := sbd_i h
    exact itk_tf hn (ih p1 h1) p2 p3 p4 h2
theorem txt_tf (hn : Nvk l w) {I : List It} {i : Nat} (hP : PI w I i) (h : txt l w I m = .inr x) : TFx w x ∧ ∃ tg, x.2.1 = some tg := by
  obtain ⟨x1, h1, h2⟩ := sbd_i h
  cases hx : x1.2.1 with
  | none => rw [hx] at h2; cases h2
  | some tg =>
    rw [hx] at h2
    injection h2 with h2
    subst h2
    exact ⟨itA_tf hn hP h1, tg, hx⟩
end TFX
