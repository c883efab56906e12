/-! the class's checker: a var is kept -/
section VA
variable {N : Nat} {σ : st_S} {t n : Nat} {M : Nat → Nat → Int32} {l : List Int32} {w : List (Nat × Nat × Nat)} {X fs : Nat → Nat} {tge : Int32} {hs : Nat → Nat} {h k b : Nat} {E : List En} {tg : Option Tr} {C : List It}
theorem var_ok (ht : t = 4 ∨ t = 20) (q : CS σ t n M) (hw : Wd σ l) (hS : SP σ t w E X fs tge C.length hs) (hu : Unm σ) (hT : TS l w E tg C X fs M tge hs h) (h5 : gI σ 46 5 = nI h) (hh : h < n) (hH : Hk w M h 29 k) (h12 : cnt E 3 < 12) (hb : h ≤ b) (lo hi bg : Int32) : ∃ σ', F_81 N t lo hi bg σ = some σ' ∧ TI σ' t n M l w (E ++ [(k + 1, 3, decide (kK w (k + 3) = 5), .leaf 0, (0, 0), (lo, hi, bg), cnt E 3, cnt E 3)], tg, C) (upf X E.length (cnt E 3)) (upf fs E.length 0) tge hs b ∧ FK t σ σ' ∧ gI σ' 46 4 = gI σ 46 4 := by
  obtain ⟨n0, n1, n23, n4, -⟩ := hH
  obtain ⟨n2, n3⟩ := n23 (by decide)
  have n4 := n4 rfl
  have a4 : aB (nI h) (gN σ (t + 4)) := q.a (c := 2) (by decide) hh
  have a5 : aB (nI h) (gN σ (t + 5)) := q.a (c := 3) (by decide) hh
  have a6 : aB (nI h) (gN σ (t + 6)) := q.a (c := 4) (by decide) hh
  have g4 : gE σ (t + 4) (nI h).toNatClampNeg = nI (kP w (k + 1)) := (q.g (c := 2) (by decide) hh).trans n2
  have g5 : gE σ (t + 5) (nI h).toNatClampNeg = nI (kE w (k + 1) - kP w (k + 1)) := (q.g (c := 3) (by decide) hh).trans n3
  have g6 : gE σ (t + 6) (nI h).toNatClampNeg = nI (if kK w (k + 3) = 5 then 2 else 1) := (q.g (c := 4) (by decide) hh).trans n4
  have sum := exm_sum hT.1
  have hS' := hS
  obtain ⟨sA, ⟨l10, l11, l12, l13, -⟩, ⟨b1, b2, b3, b4, b5⟩, ⟨c1, c2, c3⟩, -⟩ := hS
  have lt72 : E.length < 72 := by omega
  have ab : ∀ m, m = 12 → aB (nI (cnt E 3)) m := fun m z => by rw [z]; exact aB_nI h12 (by decide)
  obtain ⟨σ0, hσ0⟩ : ∃ s, s = st_i (st_e (st_e (st_e (st_e σ (t + 10) (cnt E 3) lo) (t + 11) (cnt E 3) hi) (t + 12) (cnt E 3) bg) (t + 13) (cnt E 3) (nI (if kK w (k + 3) = 5 then 2 else 1))) t 7 (nI (cnt E 3 + 1)) := ⟨_, rfl⟩
  have i0 : ∀ a x, ¬ (a = t ∧ x = 7) → gI σ0 a x = gI σ a x := fun a x z => by rw [hσ0, gI_i, if_neg z]; rfl
  have e0 : ∀ a i, a ≠ t + 10 → a ≠ t + 11 → a ≠ t + 12 → a ≠ t + 13 → gE σ0 a i = gE σ a i := fun a i z1 z2 z3 z4 => by
    rw [hσ0]
    exact (st_u_a _ _ _ _ z4).trans ((st_u_a _ _ _ _ z3).trans ((st_u_a _ _ _ _ z2).trans (st_u_a _ _ _ _ z1)))
  have A0 : NA σ0 w E X := by
    obtain ⟨z1, z2, z3, z4, z5, z6, z7⟩ := sA
    refine ⟨(i0 47 5 (by omega)).trans z1, z2, by rw [hσ0]; exact z3, by rw [hσ0]; exact z4, by rw [hσ0]; exact z5, by rw [hσ0]; exact z6, fun j hj => ?_⟩
    rw [e0 48 j (by omega) (by omega) (by omega) (by omega), e0 49 j (by omega) (by omega) (by omega) (by omega), e0 50 j (by omega) (by omega) (by omega) (by omega), e0 51 j (by omega) (by omega) (by omega) (by omega)]
    exact z7 j hj
  have u0 : ∀ y, (gE σ0 (t + 10) y = if y = cnt E 3 then lo else gE σ (t + 10) y) ∧ (gE σ0 (t + 11) y = if y = cnt E 3 then hi else gE σ (t + 11) y) ∧ (gE σ0 (t + 12) y = if y = cnt E 3 then bg else gE σ (t + 12) y) ∧ (gE σ0 (t + 13) y = if y = cnt E 3 then nI (if kK w (k + 3) = 5 then 2 else 1) else gE σ (t + 13) y) := fun y => by
    have eo : ∀ (s : st_S) (a' a i : Nat) (v : Int32), a' ≠ a → gE (st_e s a i v) a' y = gE s a' y := fun s a' a i v z => st_u_a _ _ _ _ z
    have es' : ∀ (s : st_S) (a i : Nat) (v : Int32), gE (st_e s a i v) a y = if y = i then v else gE s a y := fun s a i v => by
      show st_u (gE s) a i v a y = _
      unfold st_u
      by_cases c : y = i
      · rw [if_pos c, if_pos ⟨rfl, c⟩]
      · rw [if_neg c, if_neg (fun z => c z.2)]
    have ei : ∀ a, gE σ0 a y = gE (st_e (st_e (st_e (st_e σ (t + 10) (cnt E 3) lo) (t + 11) (cnt E 3) hi) (t + 12) (cnt E 3) bg) (t + 13) (cnt E 3) (nI (if kK w (k + 3) = 5 then 2 else 1))) a y := fun a => by rw [hσ0]; rfl
    rw [ei, ei, ei, ei]
    refine ⟨?_, ?_, ?_, ?_⟩
    · rw [eo _ _ _ _ _ (by omega), eo _ _ _ _ _ (by omega), eo _ _ _ _ _ (by omega), es']
    · rw [eo _ _ _ _ _ (by omega), eo _ _ _ _ _ (by omega), es', eo _ _ _ _ _ (by omega)]
    · rw [eo _ _ _ _ _ (by omega), es', eo _ _ _ _ _ (by omega), eo _ _ _ _ _ (by omega)]
    · rw [es', eo _ _ _ _ _ (by omega), eo _ _ _ _ _ (by omega), eo _ _ _ _ _ (by omega)]
  have f81 : F_81 N t lo hi bg σ = some (nam σ0 w E.length (k + 1) 3 (cnt E 3)) := by
    have f := F79' (N := N) A0 lt72 (k + 1) 3 (cnt E 3)
    have r29 : (29 : Int32) = nI (srt 3) := rfl
    unfold F_81
    rw [b1, h5, if_pos (ab _ l10), if_pos (ab _ l11), if_pos (ab _ l12), if_pos a6, if_pos (ab _ l13), if_pos a4, if_pos a5, g4, g5, g6, nI_clamp (by omega), nI_1, r29, ← hσ0, f]
    rfl
  refine ⟨_, f81, ?_, ?_, (nam_i (by omega)).trans (i0 46 4 (by omega))⟩
  · obtain ⟨e, he⟩ : ∃ e : En, e = (k + 1, 3, decide (kK w (k + 3) = 5), .leaf 0, (0, 0), (lo, hi, bg), cnt E 3, cnt E 3) := ⟨_, rfl⟩
    rw [← he]
    have es : e.2.1 = 3 := by rw [he]
    have ew1 : e.1 = k + 1 := by rw [he]
    have ek : kdn e = if kK w (k + 3) = 5 then 2 else 1 := by
      rw [he]
      unfold kdn
      by_cases c : kK w (k + 3) = 5
      · rw [if_pos c]; simp [c]
      · rw [if_neg c]; simp [c]
    have eb : e.2.2.2.2.2.1 = (lo, hi, bg) := by rw [he]
    have ec : e.2.2.2.2.2.2.1 = cnt E 3 := by rw [he]
    have sA1 : NA (nam σ0 w E.length (k + 1) 3 (cnt E 3)) w (E ++ [e]) (upf X E.length (cnt E 3)) := by
      have z := nam_na (e := e) A0 lt72 (cnt E 3)
      rw [es, ew1] at z
      exact z
    have gi : ∀ a x, ¬ (a = 47 ∧ x = 5) → ¬ (a = t ∧ x = 7) → gI (nam σ0 w E.length (k + 1) 3 (cnt E 3)) a x = gI σ a x := fun a x z1 z2 => (nam_i z1).trans (i0 a x z2)
    have ge : ∀ a i, (a < 48 ∨ 51 < a) → a ≠ t + 10 → a ≠ t + 11 → a ≠ t + 12 → a ≠ t + 13 → gE (nam σ0 w E.length (k + 1) 3 (cnt E 3)) a i = gE σ a i := fun a i z z1 z2 z3 z4 => (nam_o z).trans (e0 a i z1 z2 z3 z4)
    have gn : gN (nam σ0 w E.length (k + 1) 3 (cnt E 3)) = gN σ := by rw [hσ0]; rfl
    obtain ⟨t1, t2, t3, t4, t5, t6, t7⟩ := hT.mo hb
    have hXo : ∀ j, j < E.length → upf X E.length (cnt E 3) j = X j := fun j hj => upf_o (by omega)
    have hfo : ∀ j, j < E.length → upf fs E.length 0 j = fs j := fun j hj => upf_o (by omega)
    refine ⟨?_, ?_, ?_, ?_, ?_, ?_, ?_, ?_, ?_, ?_, ?_⟩
    · obtain ⟨q1, q2, q3, q4⟩ := q
      refine ⟨(gi (t + 1) 8 (by omega) (by omega)).trans q1, q2, by rw [gn]; exact q3, fun c hc i hi => ?_⟩
      rw [ge _ _ (by omega) (by omega) (by omega) (by omega) (by omega)]
      exact q4 c hc i hi
    · obtain ⟨w1, w2, w3, w4, w5⟩ := hw
      exact ⟨(gi 2 1 (by omega) (by omega)).trans w1, by rw [gn]; exact w2, by rw [gn]; exact w3, w4, fun j hj => by rw [ge 3 j (by omega) (by omega) (by omega) (by omega) (by omega)]; exact w5 j hj⟩
    · refine SP_app (f := 0) hS' t5 gn sA1 ?_ ?_ ?_ (gi t 10 (by omega) (by omega)) (gi t 11 (by omega) (by omega)) ?_ ?_ (fun y hy => ?_) (fun _ => ?_) (fun y hy => ge _ _ (by omega) (by omega) (by omega) (by omega) (by omega)) (fun z => by omega) (funext fun i => ge _ _ (by omega) (by omega) (by omega) (by omega) (by omega))
      · rw [cnt_app, if_pos es, nam_i (by omega), hσ0, gI_i, if_pos ⟨rfl, rfl⟩]
      · rw [cnt_app, cnt_app, if_neg (by omega), if_neg (by omega), gi t 8 (by omega) (by omega)]; exact b2
      · rw [cnt_app, if_neg (by omega), gi t 9 (by omega) (by omega)]; exact b3
      · rw [cnt_app, if_pos es]; omega
      · rw [cnt_app, cnt_app, if_neg (by omega), if_neg (by omega)]; exact c2
      · obtain ⟨y1, y2, y3, y4⟩ := u0 y
        rw [nam_o (by omega), nam_o (by omega), nam_o (by omega), nam_o (by omega), y1, y2, y3, y4, if_neg (by omega), if_neg (by omega), if_neg (by omega), if_neg (by omega)]
        exact ⟨rfl, rfl, rfl, rfl⟩
      · obtain ⟨y1, y2, y3, y4⟩ := u0 (cnt E 3)
        rw [nam_o (by omega), nam_o (by omega), nam_o (by omega), nam_o (by omega), y1, y2, y3, y4, if_pos rfl, if_pos rfl, if_pos rfl, if_pos rfl, eb, ek]
        exact ⟨h12, rfl, rfl, rfl, rfl⟩
    · intro x hx
      rw [gi 42 5 (by omega) (by omega), ge 44 x (by omega) (by omega) (by omega) (by omega) (by omega)]
      exact hu x hx
    · exact EXm_app t1 (Or.inr (Or.inr es))
    · exact SF_app t2 t1 (fun _ => ⟨h12, ec.symm⟩) (fun z => by omega)
    · exact Cok_app t3 (fun z => by omega)
    · exact t4.app (fun z => by omega)
    · exact t5.app (fun _ => rfl) (fun z => by omega)
    · exact t6.app hXo hfo (fun z => by omega)
    · exact t7.app hXo hfo (fun z => by omega)
  · have f1 : FK t σ σ0 := by
      rw [hσ0]
      exact ((((FK.e σ _ _ (by simp)).tr (FK.e _ _ _ (by simp))).tr (FK.e _ _ _ (by simp))).tr (FK.e _ _ _ (by simp))).tr (FK.i _ _ (by simp))
    exact f1.tr nam_fk
end VA
