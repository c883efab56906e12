/-! the reference works out: its stacks -/
/-- parts to begin -/
def kz (cs : List Nat) : List (Nat × Nat) := cs.map fun c => (0, c)
theorem kz_app (S S' : List Nat) : kz (S ++ S') = kz S ++ kz S' := by unfold kz; rw [List.map_append]
section WT
variable {N : Nat} {σ : st_S}
theorem L191 {b m n : Nat} {f c : Nat → Int32} (hn : n = 2 * (b + m)) (hn2 : n ≤ 60000) (hc : ∀ j, j < m → f (2 * (b + j) + 1) = c j) : ∀ (k i : Nat) (F : Nat → Int32) (σ : st_S) (fu : Nat), m - 2 * i ≤ k → k < fu → 1 ≤ m → i ≤ m → Nfw σ 165 n F → (∀ j, j < m → F (2 * (b + j) + 1) = if j < i ∨ m ≤ j + i then c (m - 1 - j) else c j) → (∀ q, q < n → (q < 2 * b ∨ q % 2 = 0) → F q = f q) → ∃ σ', L_191 N fu (nI (2 * (b + i))) (nI (2 * (b + m) - 2 - 2 * i)) σ = some σ' ∧ Fr 0 [] [] [] [166] [] σ σ' ∧ ∃ F', Nfw σ' 165 n F' ∧ (∀ j, j < m → F' (2 * (b + j) + 1) = c (m - 1 - j)) ∧ (∀ q, q < n → (q < 2 * b ∨ q % 2 = 0) → F' q = f q) := by
  have done : ∀ (i : Nat) (F : Nat → Int32) (σ : st_S) (fu : Nat), 0 < fu → 1 ≤ m → m ≤ 2 * i + 1 → i ≤ m → Nfw σ 165 n F → (∀ j, j < m → F (2 * (b + j) + 1) = if j < i ∨ m ≤ j + i then c (m - 1 - j) else c j) → (∀ q, q < n → (q < 2 * b ∨ q % 2 = 0) → F q = f q) → ∃ σ', L_191 N fu (nI (2 * (b + i))) (nI (2 * (b + m) - 2 - 2 * i)) σ = some σ' ∧ Fr 0 [] [] [] [166] [] σ σ' ∧ ∃ F', Nfw σ' 165 n F' ∧ (∀ j, j < m → F' (2 * (b + j) + 1) = c (m - 1 - j)) ∧ (∀ q, q < n → (q < 2 * b ∨ q % 2 = 0) → F' q = f q) := by
    intro i F σ fu hfu hm h1 h1' hF hF1 hF2
    obtain ⟨fu, rfl⟩ : ∃ k', fu = k' + 1 := ⟨fu - 1, by omega⟩
    refine ⟨σ, ?_, Fr.rf σ, F, hF, fun j hj => ?_, hF2⟩
    · unfold L_191
      rw [if_pos ((nI_lei (by omega) (by omega)).mpr (by omega))]
    · rw [hF1 j hj]
      by_cases z : j < i ∨ m ≤ j + i
      · rw [if_pos z]
      · rw [if_neg z, show m - 1 - j = j by omega]
  intro k
  induction k with
  | zero => intro i F σ fu h1 h2 hm hi hF hF1 hF2; exact done i F σ fu (by omega) hm (by omega) hi hF hF1 hF2
  | succ k ih =>
    intro i F σ fu h1 h2 hm hi hF hF1 hF2
    by_cases cd : m ≤ 2 * i + 1
    · exact done i F σ fu (by omega) hm cd hi hF hF1 hF2
    obtain ⟨fu, rfl⟩ : ∃ k', fu = k' + 1 := ⟨fu - 1, by omega⟩
    have lo : 2 * (b + i) + 1 < n := by omega
    have hi' : 2 * (b + m) - 2 - 2 * i + 1 < n := by omega
    have p1 : nI (2 * (b + i)) + 1 = nI (2 * (b + i) + 1) := nI_1 _
    have p2 : nI (2 * (b + m) - 2 - 2 * i) + 1 = nI (2 * (b + m) - 2 - 2 * i + 1) := nI_1 _
    have a1 : N_139 N 165 (nI (2 * (b + i) + 1)) σ = some (F (2 * (b + i) + 1), σ) := nf_at hF lo
    have a2 : N_139 N 165 (nI (2 * (b + m) - 2 - 2 * i + 1)) σ = some (F (2 * (b + m) - 2 - 2 * i + 1), σ) := nf_at hF hi'
    obtain ⟨s1, s2, s3⟩ := nf_set (v := F (2 * (b + m) - 2 - 2 * i + 1)) hF lo
    obtain ⟨t1, t2, t3⟩ := nf_set (v := F (2 * (b + i) + 1)) s3 hi'
    have e1 : nI (2 * (b + i)) + 2 = nI (2 * (b + (i + 1))) := by
      have := nI_add (2 * (b + i)) 2
      rw [show 2 * (b + (i + 1)) = 2 * (b + i) + 2 by omega]
      exact this
    have e2 : nI (2 * (b + m) - 2 - 2 * i) - 2 = nI (2 * (b + m) - 2 - 2 * (i + 1)) := by
      have := nI_sub (a := 2 * (b + m) - 2 - 2 * i) (b := 2) (by omega)
      rw [show 2 * (b + m) - 2 - 2 * (i + 1) = 2 * (b + m) - 2 - 2 * i - 2 by omega]
      exact this
    obtain ⟨σ', q1, q2, q3⟩ := ih (i + 1) _ _ fu (by omega) (by omega) hm (by omega) t3 (fun j hj => by
      show (if 2 * (b + j) + 1 = 2 * (b + m) - 2 - 2 * i + 1 then F (2 * (b + i) + 1) else (if 2 * (b + j) + 1 = 2 * (b + i) + 1 then F (2 * (b + m) - 2 - 2 * i + 1) else F (2 * (b + j) + 1))) = _
      by_cases y1 : j = m - 1 - i
      · rw [if_pos (by omega), hF1 i (by omega), if_neg (by omega), if_pos (by omega), show m - 1 - j = i by omega]
      rw [if_neg (by omega)]
      by_cases y2 : j = i
      · have := hF1 (m - 1 - i) (by omega)
        rw [show 2 * (b + (m - 1 - i)) = 2 * (b + m) - 2 - 2 * i by omega, if_neg (by omega)] at this
        rw [if_pos (by omega), this, if_pos (by omega), show m - 1 - j = m - 1 - i by omega]
      rw [if_neg (by omega), hF1 j hj]
      by_cases y3 : j < i ∨ m ≤ j + i
      · rw [if_pos y3, if_pos (by omega)]
      · rw [if_neg y3, if_neg (by omega)]) (fun q hq hq2 => by
      show (if q = 2 * (b + m) - 2 - 2 * i + 1 then F (2 * (b + i) + 1) else (if q = 2 * (b + i) + 1 then F (2 * (b + m) - 2 - 2 * i + 1) else F q)) = _
      rw [if_neg (by omega), if_neg (by omega)]
      exact hF2 q hq hq2)
    refine ⟨σ', ?_, Fr.t0 (Fr.e σ _ _ (by simp)) (Fr.t0 (Fr.e _ _ _ (by simp)) q2), q3⟩
    unfold L_191
    rw [if_neg (fun z => by have := (nI_lei (by omega) (by omega)).mp z; omega), p1, p2, a1, ob_some]
    dsimp only
    rw [a2, ob_some]
    dsimp only
    rw [if_pos s1, if_pos (show aB (nI (2 * (b + m) - 2 - 2 * i + 1)) (gN σ 166) from t1), e1, e2, s2, t2]
    exact q1
theorem kz_at (cs : List Nat) (j : Nat) (h : j < cs.length) : (kz cs).getD j (0, 0) = (0, cs.getD j 0) := by
  unfold kz
  rw [List.getD_eq_getElem?_getD, List.getD_eq_getElem?_getD, List.getElem?_map, List.getElem?_eq_getElem h]
  rfl
theorem kz_len (cs : List Nat) : (kz cs).length = cs.length := by unfold kz; rw [List.length_map]
/-- the kids are turned -/
theorem F191 (hN : 50000 < N) {R : List (Nat × Nat)} {cs : List Nat} (h : Sk σ 165 (g2 (R ++ kz cs))) (h1 : 1 ≤ cs.length) (hb : R.length + cs.length ≤ 25000) : ∃ σ', F_191 N (nI (2 * R.length)) σ = some σ' ∧ Sk σ' 165 (g2 (R ++ kz cs.reverse)) ∧ Fr 0 [] [] [] [166] [] σ σ' := by
  have ll : (R ++ kz cs).length = R.length + cs.length := by rw [List.length_append, kz_len]
  have lr : (R ++ kz cs.reverse).length = R.length + cs.length := by rw [List.length_append, kz_len, List.length_reverse]
  have gl : (g2 (R ++ kz cs)).length = 2 * (R.length + cs.length) := by rw [g2_len, ll]
  have nf := sk_nf h
  rw [gl] at nf
  have at1 : ∀ (S : List Nat) (j : Nat), S.length = cs.length → j < cs.length → (R ++ kz S).getD (R.length + j) (0, 0) = (0, S.getD j 0) := fun S j hS hj => by
    rw [← kz_at S j (by omega), List.getD_eq_getElem?_getD, List.getD_eq_getElem?_getD, List.getElem?_append_right (by omega), Nat.add_sub_cancel_left]
  have at0 : ∀ (S : List Nat) (i : Nat), i < R.length → (R ++ kz S).getD i (0, 0) = R.getD i (0, 0) := fun S i hi => by
    rw [List.getD_eq_getElem?_getD, List.getD_eq_getElem?_getD, List.getElem?_append_left hi]
  obtain ⟨σ', q1, q2, F', q3, q4, q5⟩ := L191 (N := N) (b := R.length) (m := cs.length) (n := 2 * (R.length + cs.length)) (f := fun k => (g2 (R ++ kz cs)).getD k 0) (c := fun j => nI (cs.getD j 0)) rfl (by omega) (fun j hj => by
    show (g2 (R ++ kz cs)).getD (2 * (R.length + j) + 1) 0 = nI (cs.getD j 0)
    rw [(g2_at (R ++ kz cs) (R.length + j) (by omega)).2, at1 cs j rfl hj]) cs.length 0 _ σ N (by omega) (by omega) h1 (Nat.zero_le _) nf (fun j hj => by
    rw [if_neg (by omega)]
    show (g2 (R ++ kz cs)).getD (2 * (R.length + j) + 1) 0 = nI (cs.getD j 0)
    rw [(g2_at (R ++ kz cs) (R.length + j) (by omega)).2, at1 cs j rfl hj]) (fun q _ _ => rfl)
  refine ⟨σ', ?_, ?_, q2⟩
  · unfold F_191
    rw [nf.1]
    have e : nI (2 * (R.length + cs.length)) - 2 = nI (2 * (R.length + cs.length) - 2 - 2 * 0) := nI_sub (b := 2) (by omega)
    rw [e]
    exact q1
  · refine nf_sk q3 (by rw [g2_len, lr]) (fun k hk => ?_)
    obtain ⟨i, e | e⟩ : ∃ i, k = 2 * i ∨ k = 2 * i + 1 := ⟨k / 2, by omega⟩
    · subst e
      rw [q5 _ hk (Or.inr (by omega))]
      show (g2 (R ++ kz cs)).getD (2 * i) 0 = _
      rw [(g2_at _ i (by omega)).1, (g2_at _ i (by omega)).1]
      by_cases c : i < R.length
      · rw [at0 _ _ c, at0 _ _ c]
      · obtain ⟨j, rfl⟩ : ∃ j, i = R.length + j := ⟨i - R.length, by omega⟩
        have hj : j < cs.length := by omega
        rw [at1 cs j rfl hj, at1 cs.reverse j (List.length_reverse ..) hj]
    · subst e
      by_cases c : i < R.length
      · rw [q5 _ hk (Or.inl (by omega))]
        show (g2 (R ++ kz cs)).getD (2 * i + 1) 0 = _
        rw [(g2_at _ i (by omega)).2, (g2_at _ i (by omega)).2, at0 _ _ c, at0 _ _ c]
      · obtain ⟨j, rfl⟩ : ∃ j, i = R.length + j := ⟨i - R.length, by omega⟩
        have hj : j < cs.length := by omega
        rw [q4 j hj, (g2_at _ (R.length + j) (by omega)).2, at1 cs.reverse j (List.length_reverse ..) hj]
        show nI (cs.getD (cs.length - 1 - j) 0) = nI (cs.reverse.getD j 0)
        congr 1
        rw [List.getD_eq_getElem?_getD, List.getD_eq_getElem?_getD, List.getElem?_reverse hj]
end WT
/-- values that wait -/
def VS (σ : st_S) (V : List (Int64 × Int64)) : Prop := gI σ 66 23 = nI V.length ∧ gN σ 163 = 16400 ∧ gN σ 164 = 16400 ∧ ∀ i, i < V.length → gL σ 163 i = (V.getD i (0, 0)).1 ∧ gL σ 164 i = (V.getD i (0, 0)).2
section VSS
variable {N : Nat} {σ σ' : st_S} {V ks : List (Int64 × Int64)} {I J Rr : List (Nat × Nat)} {A L : List Nat}
theorem VS.fr (h : VS σ V) (fr : Fr 0 I J Rr A L σ σ') (h1 : (66, 23) ∉ I) (h2 : 163 ∉ A) (h3 : 164 ∉ A) (h4 : 163 ∉ L) (h5 : 164 ∉ L) : VS σ' V := by
  obtain ⟨a1, a2, a3, a4⟩ := h
  refine ⟨(fr.1 66 23 h1).trans a1, by rw [(fr.2.2.2.1 163 h2).1]; exact a2, by rw [(fr.2.2.2.1 164 h3).1]; exact a3, ?_⟩
  rw [fr.2.2.2.2.1 163 h4, fr.2.2.2.2.1 164 h5]
  exact a4
theorem gL_E (σ : st_S) (a k b j : Nat) (v : Int64) : gL (st_E σ a k v) b j = if b = a ∧ j = k then v else gL σ b j := rfl
/-- a value is put on -/
theorem F188' (h : VS σ V) (hl : V.length < 16400) (u v : Int64) : ∃ σ', F_188 N u v σ = some σ' ∧ VS σ' (V ++ [(u, v)]) ∧ Fr 0 [(66, 23)] [] [] [] [163, 164] σ σ' := by
  obtain ⟨a1, a2, a3, a4⟩ := h
  refine ⟨st_i (st_E (st_E σ 163 V.length u) 164 V.length v) 66 23 (nI (V.length + 1)), ?_, ⟨?_, a2, a3, fun i hi => ?_⟩, Fr.t0 (Fr.E σ _ _ (by simp)) (Fr.t0 (Fr.E _ _ _ (by simp)) (Fr.i _ _ (by simp)))⟩
  · unfold F_188
    rw [a1, if_pos (by rw [a2]; exact aB_nI hl (by decide)), if_pos (by rw [a3]; exact aB_nI hl (by decide)), nI_clamp (by omega), nI_1]
  · rw [List.length_append]
    rfl
  · rw [List.length_append] at hi
    have hi : i < V.length + 1 := hi
    show (gL (st_E (st_E σ 163 V.length u) 164 V.length v) 163 i = _) ∧ (gL (st_E (st_E σ 163 V.length u) 164 V.length v) 164 i = _)
    rw [gL_E, gL_E, gL_E, gL_E, if_neg (by omega), if_neg (c := 164 = 163 ∧ i = V.length) (by omega)]
    by_cases c : i = V.length
    · rw [if_pos ⟨rfl, c⟩, if_pos ⟨rfl, c⟩, List.getD_eq_getElem?_getD, List.getElem?_append_right (by omega), c, Nat.sub_self]
      exact ⟨rfl, rfl⟩
    · rw [if_neg (fun z => c z.2), if_neg (fun z => c z.2), List.getD_eq_getElem?_getD, List.getElem?_append_left (by omega), ← List.getD_eq_getElem?_getD]
      exact a4 i (by omega)
/-- values are taken off; they can still be read -/
theorem VS.off (h : VS σ (V ++ ks)) : VS (st_i σ 66 23 (nI V.length)) V ∧ gI σ 66 23 = nI (V.length + ks.length) ∧ ∀ i, i < ks.length → gL σ 163 (V.length + i) = (ks.getD i (0, 0)).1 ∧ gL σ 164 (V.length + i) = (ks.getD i (0, 0)).2 := by
  obtain ⟨a1, a2, a3, a4⟩ := h
  rw [List.length_append] at a1 a4
  refine ⟨⟨by rw [gI_i, if_pos ⟨rfl, rfl⟩], a2, a3, fun i hi => ?_⟩, a1, fun i hi => ?_⟩
  · have := a4 i (by omega)
    rw [List.getD_eq_getElem?_getD, List.getElem?_append_left hi, ← List.getD_eq_getElem?_getD] at this
    exact this
  · have := a4 (V.length + i) (by omega)
    rw [List.getD_eq_getElem?_getD, List.getElem?_append_right (by omega), Nat.add_sub_cancel_left, ← List.getD_eq_getElem?_getD] at this
    exact this
end VSS
