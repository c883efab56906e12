/-! the class's checker: a formula -/
section FO
variable {N : Nat} {σ σ' : st_S} {t n : Nat} {M : Nat → Nat → Int32} {l : List Int32} {w : List (Nat × Nat × Nat)} {X fs : Nat → Nat} {tge : Int32} {hs : Nat → Nat} {h op k nc : Nat} {R : List (Nat × Tr)} {E : List En} {e : En} {tg : Option Tr} {C : List It}
theorem cnt_sum : ∀ {E : List En}, (∀ e ∈ E, 1 ≤ e.2.1 ∧ e.2.1 ≤ 3) → E.length = cnt E 1 + cnt E 2 + cnt E 3 := by
  intro E
  induction E with
  | nil => intro _; rfl
  | cons e E ih =>
    intro q
    have i := ih (fun e' z => q e' (List.mem_cons_of_mem _ z))
    have c : ∀ s, cnt (e :: E) s = (if e.2.1 = s then 1 else 0) + cnt E s := fun s => by
      unfold cnt
      by_cases z : e.2.1 = s
      · rw [if_pos z, List.filter_cons_of_pos (by simpa using z), List.length_cons]; omega
      · rw [if_neg z, List.filter_cons_of_neg (by simpa using z)]; omega
    have := q e (List.mem_cons_self ..)
    rw [List.length_cons, c 1, c 2, c 3, i]
    by_cases z1 : e.2.1 = 1
    · rw [if_pos z1, if_neg (by omega), if_neg (by omega)]; omega
    by_cases z2 : e.2.1 = 2
    · rw [if_neg (by omega), if_pos z2, if_neg (by omega)]; omega
    · rw [if_neg (by omega), if_neg (by omega), if_pos (by omega)]; omega
theorem exm_sum (q : EXm M E X fs h) : E.length = cnt E 1 + cnt E 2 + cnt E 3 := cnt_sum (fun e he => by
  obtain ⟨j, hj, rfl⟩ := List.mem_iff_getElem.mp he
  have e1 : E.getD j eN = E[j] := by rw [List.getD_eq_getElem?_getD, List.getElem?_eq_getElem hj]; rfl
  have := q j hj
  rw [e1] at this
  rcases this with ⟨z, -⟩ | ⟨z, -⟩ | z <;> omega)
/-- a name is kept -/
def nam (σ : st_S) (w : List (Nat × Nat × Nat)) (i q s x : Nat) : st_S := st_i (st_e (st_e (st_e (st_e σ 48 i (nI (kP w q))) 49 i (nI (kE w q - kP w q))) 50 i (nI (srt s))) 51 i (nI x)) 47 5 (nI (i + 1))
theorem F79' (hA : NA σ w E X) (hE : E.length < 72) (q s x : Nat) : F_79 N (nI (kP w q)) (nI (kE w q - kP w q)) (nI (srt s)) (nI x) σ = some (nam σ w E.length q s x) := by
  obtain ⟨a1, a2, a3, a4, a5, a6, -⟩ := hA
  have ab : ∀ m, m = 72 → aB (nI E.length) m := fun m z => by rw [z]; exact aB_nI hE (by decide)
  unfold F_79
  rw [a1, if_neg (fun z => by have := (nI_lei (a := 72) (by decide) (by omega)).mp z; omega), if_pos (ab _ a3), if_pos (ab _ a4), if_pos (ab _ a5), if_pos (ab _ a6), nI_clamp (by omega), nI_1]
  rfl
theorem nam_na (hA : NA σ w E X) (hE : E.length < 72) (x : Nat) : NA (nam σ w E.length e.1 e.2.1 x) w (E ++ [e]) (upf X E.length x) := by
  obtain ⟨a1, a2, a3, a4, a5, a6, a7⟩ := hA
  refine ⟨?_, by rw [len_app]; omega, a3, a4, a5, a6, fun j hj => ?_⟩
  · rw [len_app]
    unfold nam
    rw [gI_i, if_pos ⟨rfl, rfl⟩]
  · rw [len_app] at hj
    have g : ∀ a, gE (nam σ w E.length e.1 e.2.1 x) a j = if a = 51 ∧ j = E.length then nI x else if a = 50 ∧ j = E.length then nI (srt e.2.1) else if a = 49 ∧ j = E.length then nI (kE w e.1 - kP w e.1) else if a = 48 ∧ j = E.length then nI (kP w e.1) else gE σ a j := fun a => rfl
    rw [g 48, g 49, g 50, g 51]
    by_cases c : j = E.length
    · subst c
      rw [gD_new, upf_s]
      simp
    · rw [gD_app (by omega), upf_o c]
      simp only [c, and_false, if_false]
      exact a7 j (by omega)
theorem nam_o {i q s x a j : Nat} (h : a < 48 ∨ 51 < a) : gE (nam σ w i q s x) a j = gE σ a j := by
  unfold nam
  show st_u (st_u (st_u (st_u (gE σ) 48 i _) 49 i _) 50 i _) 51 i _ a j = _
  rw [st_u_a _ _ _ _ (by omega), st_u_a _ _ _ _ (by omega), st_u_a _ _ _ _ (by omega), st_u_a _ _ _ _ (by omega)]
theorem nam_i {i q s x a j : Nat} (h : ¬ (a = 47 ∧ j = 5)) : gI (nam σ w i q s x) a j = gI σ a j := by
  unfold nam
  rw [gI_i, if_neg h]
  rfl
theorem nam_fk {i q s x : Nat} : FK t σ (nam σ w i q s x) := ((((FK.e σ _ _ (by simp)).tr (FK.e _ _ _ (by simp))).tr (FK.e _ _ _ (by simp))).tr (FK.e _ _ _ (by simp))).tr (FK.i _ _ (by simp))
/-- the tables with one more name -/
theorem SP_app {x f : Nat} (hS : SP σ t w E X fs tge nc hs) (hX : XN E X) (gn : gN σ' = gN σ) (hA : NA σ' w (E ++ [e]) (upf X E.length x)) (b1 : gI σ' t 7 = nI (cnt (E ++ [e]) 3)) (b2 : gI σ' t 8 = nI (cnt (E ++ [e]) 1 + cnt (E ++ [e]) 2)) (b3 : gI σ' t 9 = nI (cnt (E ++ [e]) 2)) (b4 : gI σ' t 10 = gI σ t 10) (b5 : gI σ' t 11 = gI σ t 11) (c1 : cnt (E ++ [e]) 3 ≤ 12) (c2 : cnt (E ++ [e]) 1 + cnt (E ++ [e]) 2 ≤ 60)
    (h5 : ∀ y, y < cnt E 3 → gE σ' (t + 10) y = gE σ (t + 10) y ∧ gE σ' (t + 11) y = gE σ (t + 11) y ∧ gE σ' (t + 12) y = gE σ (t + 12) y ∧ gE σ' (t + 13) y = gE σ (t + 13) y) (h5' : e.2.1 = 3 → x < 12 ∧ gE σ' (t + 10) x = e.2.2.2.2.2.1.1 ∧ gE σ' (t + 11) x = e.2.2.2.2.2.1.2.1 ∧ gE σ' (t + 12) x = e.2.2.2.2.2.1.2.2 ∧ gE σ' (t + 13) x = nI (kdn e)) (h6 : ∀ y, y < cnt E 2 → gE σ' (t + 14) y = gE σ (t + 14) y) (h6' : e.2.1 = 2 → gE σ' (t + 14) x = nI (f + tln e.2.2.2.1)) (h7 : gE σ' (t + 15) = gE σ (t + 15)) : SP σ' t w (E ++ [e]) (upf X E.length x) (upf fs E.length f) tge nc hs := by
  obtain ⟨-, s2, ⟨-, -, -, s34, s35⟩, ⟨-, -, s43⟩, s5, s6, s7⟩ := hS
  refine ⟨hA, by unfold LN; rw [gn]; exact s2, ⟨b1, b2, b3, b4.trans s34, b5.trans s35⟩, ⟨c1, c2, s43⟩, fun j hj s => ?_, fun j hj s => ?_, by rw [h7]; exact s7⟩
  · rw [len_app] at hj
    by_cases c : j = E.length
    · subst c
      rw [gD_new] at s ⊢
      rw [upf_s]
      exact h5' s
    · rw [gD_app (by omega)] at s ⊢
      rw [upf_o c]
      obtain ⟨y1, y2, y3, y4⟩ := h5 _ (hX.1 j (by omega) s)
      rw [y1, y2, y3, y4]
      exact s5 j (by omega) s
  · rw [len_app] at hj
    by_cases c : j = E.length
    · subst c
      rw [gD_new] at s
      rw [upf_s, upf_s, fTr_new]
      exact h6' s
    · rw [gD_app (by omega)] at s
      rw [upf_o c, upf_o c, fTr_app (by omega), h6 _ (hX.2.1 j (by omega) s)]
      exact s6 j (by omega) s
theorem fi_28 (ht : t = 4 ∨ t = 20) (hI : RI σ t n M l w E X fs tge C.length hs h 28 k R) (hT : TS l w E tg C X fs M tge hs h) (hC : Ch w 28 k R) {m : Nat} (hF : Fi w 28 k R m) (h60 : cnt E 1 + cnt E 2 < 60) (hn : lyn h R < n) (e34 : M (lyn h R) 0 = nI 34) : FiO N σ t n M l w (lyn h R) (fin l w (E, tg, C) 28 k R) := by
  obtain ⟨T, rfl⟩ := one_r (r := 0) hC hF (Or.inr (Or.inl rfl)) rfl
  obtain ⟨i1, i2, i3, i4, i5, i6, i7, ⟨-, kd, i8, i8'⟩, -⟩ := hI
  have g6 := i7.1 0 T [] rfl (Or.inl rfl)
  have e1 : lyn h [] + mk 0 = h + 1 := rfl
  rw [e1] at g6 i8
  have ey : lyn h [(0, T)] = h + 1 + tln T + 1 := rfl
  have hh : h < n := by rw [ey] at hn; omega
  have co : cOn 28 = false := rfl
  rw [co] at i8
  have hkd := (chk_3 T kd hC.2.1 i8.2.1).2 hC.2.2.1
  have kT : kdT l w E false T = decide (kd = 2) := by unfold kdT; rw [i8.2.1]
  obtain ⟨n2, n3⟩ := i6.2.2.1 (by decide)
  have a2 : aB (nI h) (gN σ (t + 2)) := i1.a (c := 0) (by decide) hh
  have a4 : aB (nI h) (gN σ (t + 4)) := i1.a (c := 2) (by decide) hh
  have a5 : aB (nI h) (gN σ (t + 5)) := i1.a (c := 3) (by decide) hh
  have g2 : gE σ (t + 2) (nI h).toNatClampNeg = nI 28 := (i1.g (c := 0) (by decide) hh).trans i6.1
  have g4 : gE σ (t + 4) (nI h).toNatClampNeg = nI (kP w (k + 1)) := (i1.g (c := 2) (by decide) hh).trans n2
  have g5 : gE σ (t + 5) (nI h).toNatClampNeg = nI (kE w (k + 1) - kP w (k + 1)) := (i1.g (c := 3) (by decide) hh).trans n3
  have sum := exm_sum hT.1
  have i3' := i3
  obtain ⟨sA, sL, ⟨b1, b2, b3, b4, b5⟩, ⟨c1, c2, c3⟩, -⟩ := i3
  have lt72 : E.length < 72 := by omega
  have a14 : aB (nI (cnt E 2)) (gN σ (t + 14)) := by rw [sL.2.2.2.2.1]; exact aB_nI (by omega) (by decide)
  obtain ⟨σ1, hσ1⟩ : ∃ s, s = st_i (st_i (st_e (nam σ w E.length (k + 1) 2 (cnt E 2)) (t + 14) (cnt E 2) (nI (h + 1 + tln T))) t 9 (nI (cnt E 2 + 1))) t 8 (nI (cnt E 1 + cnt E 2 + 1)) := ⟨_, rfl⟩
  have f67 : F_67 N t σ = some (0, σ1) := by
    have f := F79' (N := N) sA lt72 (k + 1) 2 (cnt E 2)
    have r28 : (28 : Int32) = nI (srt 2) := rfl
    unfold F_67
    rw [i5, if_pos a2]
    simp only [g2]
    rw [if_neg (show ¬ nI 28 = 27 by decide), if_pos (show nI 28 = 28 from rfl), if_pos a4, if_pos a5, g4, g5, b3, r28, f, ob_some, nam_i (by omega), b3]
    rw [if_pos (show aB (nI (cnt E 2)) (gN (nam σ w E.length (k + 1) 2 (cnt E 2)) (t + 14)) from a14), nam_i (by omega), g6, nam_i (by omega), b2, nI_1, nI_1, nI_clamp (by omega), hσ1]
  have gi : ∀ a x, ¬ (a = 47 ∧ x = 5) → ¬ (a = t ∧ (x = 8 ∨ x = 9)) → gI σ1 a x = gI σ a x := fun a x z z2 => by
    rw [hσ1, gI_i, if_neg (by omega), gI_i, if_neg (by omega)]
    exact nam_i z
  have g8 : gI σ1 t 8 = nI (cnt E 1 + cnt E 2 + 1) := by rw [hσ1, gI_i, if_pos ⟨rfl, rfl⟩]
  have g9 : gI σ1 t 9 = nI (cnt E 2 + 1) := by rw [hσ1, gI_i, if_neg (by omega), gI_i, if_pos ⟨rfl, rfl⟩]
  have ge : ∀ a i, (a < 48 ∨ 51 < a) → a ≠ t + 14 → gE σ1 a i = gE σ a i := fun a i z z2 => by
    rw [hσ1]
    exact (st_u_a _ _ _ _ z2).trans (nam_o z)
  have g14 : ∀ i, gE σ1 (t + 14) i = if i = cnt E 2 then nI (h + 1 + tln T) else gE σ (t + 14) i := fun i => by
    rw [hσ1]
    show st_u (gE (nam σ w E.length (k + 1) 2 (cnt E 2))) (t + 14) (cnt E 2) (nI (h + 1 + tln T)) (t + 14) i = _
    unfold st_u
    by_cases c : i = cnt E 2
    · rw [if_pos c, if_pos ⟨rfl, c⟩]
    · rw [if_neg c, if_neg (fun z => c z.2)]
      exact nam_o (by omega)
  have gn : gN σ1 = gN σ := by rw [hσ1]; rfl
  have fk : FK t σ σ1 := by
    rw [hσ1]
    exact (nam_fk.tr (FK.e _ _ _ (by simp))).tr ((FK.i _ _ (by simp)).tr (FK.i _ _ (by simp)))
  have hfin : fin l w (E, tg, C) 28 k [(0, T)] = .inr (E ++ [(k + 1, 2, decide (kd = 2), T, (0, 0), (0, 0, 0), cnt E 2, cnt E 1 + cnt E 2)], tg, C) := by
    rw [← kT]; rfl
  rw [hfin]
  obtain ⟨e, he⟩ : ∃ e : En, e = (k + 1, 2, decide (kd = 2), T, (0, 0), (0, 0, 0), cnt E 2, cnt E 1 + cnt E 2) := ⟨_, rfl⟩
  rw [← he]
  have es : e.2.1 = 2 := by rw [he]
  have eT' : e.2.2.2.1 = T := by rw [he]
  have ew1 : e.1 = k + 1 := by rw [he]
  have ek : kdn e = kd := by
    rw [he]
    unfold kdn
    rcases hkd with z | z <;> rw [z] <;> rfl
  have sA1 : NA σ1 w (E ++ [e]) (upf X E.length (cnt E 2)) := by
    have z := nam_na (e := e) sA lt72 (cnt E 2)
    rw [es, ew1] at z
    obtain ⟨z1, z2, z3, z4, z5, z6, z7⟩ := z
    have hh : ∀ a i, a ≠ t + 14 → gE σ1 a i = gE (nam σ w E.length (k + 1) 2 (cnt E 2)) a i := fun a i z2 => by
      rw [hσ1]
      exact st_u_a _ _ _ _ z2
    refine ⟨?_, z2, by rw [gn]; exact z3, by rw [gn]; exact z4, by rw [gn]; exact z5, by rw [gn]; exact z6, fun j hj => ?_⟩
    · rw [hσ1, gI_i, if_neg (by omega), gI_i, if_neg (by omega)]; exact z1
    · rw [hh 48 j (by omega), hh 49 j (by omega), hh 50 j (by omega), hh 51 j (by omega)]
      exact z7 j hj
  obtain ⟨t1, t2, t3, t4, t5, t6, t7⟩ := hT
  have hXo : ∀ j, j < E.length → upf X E.length (cnt E 2) j = X j := fun j hj => upf_o (by omega)
  have hfo : ∀ j, j < E.length → upf fs E.length (h + 1) j = fs j := fun j hj => upf_o (by omega)
  have xlt : cnt E 2 < 60 := by omega
  refine ⟨σ1, M, upf X E.length (cnt E 2), upf fs E.length (h + 1), tge, hs, fun k' => ?_, ⟨?_, ?_, ?_, ?_, ?_, ?_, ?_, ?_, ?_, ?_, ?_⟩, fun _ _ => rfl, fk, gi 46 4 (by omega) (by omega)⟩
  · rw [L53f i1 hn e34, f67, ob_some]
    rfl
  · obtain ⟨q1, q2, q3, q4⟩ := i1
    refine ⟨(gi (t + 1) 8 (by omega) (by omega)).trans q1, q2, by rw [gn]; exact q3, fun c hc i hi => ?_⟩
    rw [ge _ _ (by omega) (by omega)]
    exact q4 c hc i hi
  · obtain ⟨w1, w2, w3, w4, w5⟩ := i2
    exact ⟨(gi 2 1 (by omega) (by omega)).trans w1, by rw [gn]; exact w2, by rw [gn]; exact w3, w4, fun j hj => by rw [ge 3 j (by omega) (by omega)]; exact w5 j hj⟩
  · refine SP_app (f := h + 1) i3' t5 gn sA1 ?_ ?_ ?_ (gi t 10 (by omega) (by omega)) (gi t 11 (by omega) (by omega)) ?_ ?_ (fun y _ => ⟨ge _ _ (by omega) (by omega), ge _ _ (by omega) (by omega), ge _ _ (by omega) (by omega), ge _ _ (by omega) (by omega)⟩) (fun z => by omega) (fun y hy => by rw [g14, if_neg (by omega)]) (fun _ => by rw [g14, if_pos rfl, eT']) (funext fun i => ge _ _ (by omega) (by omega))
    · rw [cnt_app, if_neg (by omega), gi t 7 (by omega) (by omega)]; exact b1
    · rw [cnt_app, cnt_app, if_neg (by omega), if_pos es, g8]; rfl
    · rw [cnt_app, if_pos es, g9]
    · rw [cnt_app, if_neg (by omega)]; exact c1
    · rw [cnt_app, cnt_app, if_neg (by omega), if_pos es]; omega
  · intro x hx
    rw [gi 42 5 (by omega) (by omega), ge 44 x (by omega) (by omega)]
    exact i4 x hx
  · refine EXm_app (t1.mo (by rw [ey]; omega)) (Or.inr (Or.inl ⟨es, xlt, ?_, ?_, ?_⟩))
    · rw [eT', ey]; omega
    · rw [eT']; exact i8.2.2.2.2.2.1
    · rw [eT', ek]; exact i8.2.2.2.2.2.2.2
  · exact SF_app t2 t1 (fun z => by omega) (fun _ => ⟨xlt, by rw [eT']; exact hC.2.1, by rw [eT']; exact hC.2.2.1, by rw [eT']; exact chk_nbl hC.2.1 i8.2.1, by rw [eT', ek]; exact i8.2.1, by omega, fun j hj s z => by have := t5.2.1 j hj s; omega⟩)
  · exact Cok_app t3 (fun z => by omega)
  · exact t4.app (fun _ => by rw [eT']; exact ⟨i8.2.2.2.1, i8.2.2.2.2.2.2.1, i8.1⟩)
  · exact t5.app (fun z => by omega) (fun _ => rfl)
  · exact (t6.app hXo hfo (fun _ => by rw [upf_s]; omega)).fr (by rw [ey]; omega) (fun _ _ => rfl)
  · exact (t7.app hXo hfo (fun _ => by rw [upf_s]; omega)).fr (by rw [ey]; omega) (fun _ _ => rfl)
end FO
