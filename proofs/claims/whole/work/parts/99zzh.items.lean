/-! the class's checker: an item, all items -/
section IT2
variable {N : Nat} {σ : st_S} {t n : Nat} {M : Nat → Nat → Int32} {l : List Int32} {w : List (Nat × Nat × Nat)} {X fs : Nat → Nat} {tge : Int32} {hs : Nat → Nat} {h op k : Nat} {R : List (Nat × Tr)} {E : List En} {tg : Option Tr} {C : List It}
theorem Lay.hd : ∀ {R : List (Nat × Tr)} {m : Nat}, Lay l w M op k h R m → Hn w M h op k := by
  intro R
  induction R with
  | nil => intro m q; exact q.1
  | cons x R ih =>
    obtain ⟨r, T⟩ := x
    intro m q
    obtain ⟨n1, q1, -⟩ := q
    exact ih q1
theorem hdk_n (q : hdk l w E tg C op k = none) : (op = 27 ∨ op = 28 → cnt E 1 + cnt E 2 < 60) ∧ (op = 29 → cnt E 3 < 12) ∧ (op = 31 → C.length < 60) := by
  unfold hdk at q
  refine ⟨fun z => ?_, fun z => ?_, fun z => ?_⟩
  · rw [if_pos z] at q
    by_cases c : 60 ≤ cnt E 1 + cnt E 2
    · rw [if_pos c] at q; cases q
    · omega
  · rw [if_neg (by omega), if_pos z] at q
    by_cases c : 12 ≤ cnt E 3
    · rw [if_pos c] at q; cases q
    · omega
  · rw [if_neg (by omega), if_neg (by omega), if_neg (by omega)] at q
    by_cases c : 60 ≤ C.length
    · rw [if_pos c] at q; cases q
    · omega
theorem fi_ok (ht : t = 4 ∨ t = 20) (hN : 200000 < N) (hnv : Nvk l w) (ho : 27 ≤ op ∧ op ≤ 31) (hI : RI σ t n M l w E X fs tge C.length hs h op k R) (hT : TS l w E tg C X fs M tge hs h) (hC : Ch w op k R) {m : Nat} (hF : Fi w op k R m) (hd : hdk l w E tg C op k = none) (hr : rul l w E op k R = none) (hn : lyn h R < n) (e34 : M (lyn h R) 0 = nI 34) : FiO N σ t n M l w (lyn h R) (fin l w (E, tg, C) op k R) := by
  obtain ⟨d1, d2, d3⟩ := hdk_n hd
  have o5 : op = 27 ∨ op = 28 ∨ op = 29 ∨ op = 30 ∨ op = 31 := by omega
  rcases o5 with rfl | rfl | rfl | rfl | rfl
  · exact fi_27 ht hN hnv hI hT hC hF (d1 (by decide)) hn e34
  · exact fi_28 ht hI hT hC hF (d1 (by decide)) hn e34
  · by_cases hk5 : kK w (k + 3) = 5
    · exact fi_29b ht hN hnv hI hT hC hk5 (d2 rfl) hn e34
    · rcases one_i hC hF hk5 with ⟨Th, Tl, rfl⟩ | ⟨Tb, Th, Tl, rfl⟩
      · exact fi_29n ht hN hnv hI hT hC hk5 (d2 rfl) hn e34
      · exact fi_29w ht hN hnv hI hT hC hk5 (d2 rfl) hn e34
  · exact fi_30 ht hI hT hC hF hn e34
  · exact fi_31 ht hI hT hC hr (d3 rfl) hn e34
/-- what items come to: from node b to node b' -/
def ItO (N : Nat) (σ : st_S) (t n : Nat) (M : Nat → Nat → Int32) (l : List Int32) (w : List (Nat × Nat × Nat)) (b b' : Nat) (o : Rs Tx) : Prop := match o with
  | .inl e => ∃ σ', Sft N t σ b (b' - b) e.1 σ' ∧ gI σ' 46 4 = nI e.2 ∧ FK t σ σ'
  | .inr x => ∃ σ' M' X fs tge hs, Sgo N t σ b σ' (b' - b) ∧ TI σ' t n M' l w x X fs tge hs b' ∧ (∀ i, b' ≤ i → M' i = M i) ∧ FK t σ σ' ∧ gI σ' 46 4 = -1
theorem it_one (ht : t = 4 ∨ t = 20) (hN : 200000 < N) (hP : Pw l w) (hnv : Nvk l w) (hI : TI σ t n M l w (E, tg, C) X fs tge hs h) (h4 : gI σ 46 4 = -1) (ho : opw op (kK w k)) (hC : Ch w op k R) {n1 m : Nat} (hL : Lay l w M op k h R n1) (hF : Fi w op k R m) (e34 : M n1 0 = 34) (hn : n1 < n) : ItO N σ t n M l w h (n1 + 1) (itk l w (E, tg, C) op k R) := by
  have e1 := hL.lyn
  have op5 : 27 ≤ op ∧ op ≤ 31 := by unfold opw at ho; omega
  have g := lyn_gt h R
  obtain ⟨i1, i2, i3, i4, i5, i6, i7, i8, i9, i10, i11⟩ := hI
  have hT : TS l w E tg C X fs M tge hs h := ⟨i5, i6, i7, i8, i9, i10, i11⟩
  have hH := hL.hd
  have K := hd_ok (N := N) (tg := tg) (C := C) ht (by omega) hP i1 i2 i3 rfl (by
    cases tg with
    | none =>
      have i10 : tge = -1 := i10
      rw [i10]
      decide
    | some T =>
      obtain ⟨a, m, z1, z2, -⟩ := i10
      have := i1.2.1
      show 0 ≤ tge
      rw [z1]
      exact (nI_lei (a := 0) (by decide) (by omega)).mpr (by omega)) (by omega) ho hH
  unfold itk
  dsimp only
  cases hd : hdk l w E tg C op k with
  | some e =>
    rw [hd] at K
    obtain ⟨σ', z1, z2, z3⟩ := K
    exact ⟨σ', z1.mo (by omega), z2, z3.fk⟩
  | none =>
    rw [hd] at K
    dsimp only at K ⊢
    obtain ⟨σ1, k1, k2, k3, k4, k5, k6⟩ := K
    have hI1 : RI σ1 t n M l w E X fs tge C.length hs h op k [] := by
      obtain ⟨⟨⟨e0, e1, e31⟩, e29⟩, e5⟩ := hH
      refine ⟨k5.cs ht i1, k5.wd i2, i3.kp (k5.kp ht), k5.un i4, k2, ⟨e0, e1, e29, fun z => ?_, e31⟩, ⟨fun r T R' z => (by cases z), fun f z => (by cases z), fun f z => (by cases z), fun z => k3 z, fun z => ⟨(k4 z).2, fun y => absurd rfl y⟩⟩, trivial, fun z y => absurd y (by decide)⟩
      rw [e5 z]
      split <;> rfl
    have Q := rl_ok (N := N) ht (by omega) hP i9.2.2 hI1 (k6.trans h4) i5 (by omega) R n1 hL (by omega) hC
    cases hr : rul l w E op k R with
    | some e =>
      rw [hr] at Q
      obtain ⟨σ', z1, z2, z3⟩ := Q
      exact ⟨σ', k1.fl z1 (by omega), z2, k5.fk.tr z3⟩
    | none =>
      rw [hr] at Q
      dsimp only at Q ⊢
      obtain ⟨σ2, M2, q1, q2, q3, q4, q5⟩ := Q
      have F := fi_ok (N := N) ht hN hnv op5 q2 (hT.fr (fun i hi => q3 i (by omega))) hC hF hd hr (by omega) (by rw [q3 _ (by omega), ← e1]; exact e34)
      have pos : h + (lyn h R - h) = lyn h R := by omega
      have go : Sgo N t σ h σ2 (lyn h R - h) := k1.tr q1 (by omega)
      cases hf : fin l w (E, tg, C) op k R with
      | inl e =>
        rw [hf] at F
        obtain ⟨σ3, z1, z2, z3⟩ := F
        exact ⟨σ3, go.fl (by rw [pos]; exact z1) (by omega), z2, k5.fk.tr (q4.tr z3)⟩
      | inr x =>
        rw [hf] at F
        obtain ⟨σ3, M3, X3, fs3, tge3, hs3, z1, z2, z3, z4, z5⟩ := F
        rw [← e1] at z2 z3
        refine ⟨σ3, M3, X3, fs3, tge3, hs3, go.tr (by rw [pos]; exact z1) (by omega), z2, fun i hi => ?_, k5.fk.tr (q4.tr z4), z5.trans q5⟩
        rw [z3 i hi, q3 i (by omega)]
theorem it_all (ht : t = 4 ∨ t = 20) (hN : 200000 < N) (hP : Pw l w) (hnv : Nvk l w) (hI : TI σ t n M l w ([], none, []) X fs tge hs 0) (h4 : gI σ 46 4 = -1) : ∀ (I : List It) (n' i : Nat), IL l w M I n' i → n' ≤ n → ItO N σ t n M l w 0 n' (itA l w I) := by
  intro I
  induction I with
  | nil =>
    intro n' i q hn
    obtain ⟨rfl, -⟩ := q
    exact ⟨σ, M, X, fs, tge, hs, Sgo.rf σ, hI, fun _ _ => rfl, FK.rf σ, h4⟩
  | cons y I ih =>
    obtain ⟨op, k, R⟩ := y
    intro n' i q hn
    obtain ⟨n0, n1, e, q1, q2, q3, q4, q5, q6, q7, q8⟩ := q
    have g := q4.le
    have K := ih n0 k q1 (by omega)
    have es : itA l w ((op, k, R) :: I) = sbd (itA l w I) fun x => itk l w x op k R := rfl
    rw [es]
    cases ha : itA l w I with
    | inl er =>
      rw [ha] at K
      obtain ⟨σ', z1, z2, z3⟩ := K
      exact ⟨σ', z1.mo (by omega), z2, z3⟩
    | inr x =>
      rw [ha] at K
      rw [sbd_r]
      obtain ⟨E1, tg1, C1⟩ := x
      obtain ⟨σ1, M1, X1, fs1, tge1, hs1, k1, k2, k3, k4, k5⟩ := K
      have F := it_one (N := N) ht hN hP hnv k2 k5 q2 q3 (q4.fr (fun j a b => k3 j a)) q5 (by rw [k3 _ (by omega)]; exact q6) (by omega)
      have pos : 0 + (n0 - 0) = n0 := by omega
      cases hk : itk l w (E1, tg1, C1) op k R with
      | inl er =>
        rw [hk] at F
        obtain ⟨σ2, z1, z2, z3⟩ := F
        exact ⟨σ2, k1.fl (by rw [pos]; exact z1) (by omega), z2, k4.tr z3⟩
      | inr x2 =>
        rw [hk] at F
        obtain ⟨σ2, M2, X2, fs2, tge2, hs2, z1, z2, z3, z4, z5⟩ := F
        rw [← q7] at z2 z3
        exact ⟨σ2, M2, X2, fs2, tge2, hs2, k1.tr (by rw [pos]; exact z1) (by omega), z2, fun j hj => by rw [z3 j hj, k3 j (by omega)], k4.tr z4, z5⟩
end IT2
