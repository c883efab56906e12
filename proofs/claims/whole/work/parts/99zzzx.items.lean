/-! the reference's items: the loop over them -/
section IL
variable {N g x n k e op : Nat} {σ σ0 : st_S} {D : Nat → Nat → Int32} {w : List (Nat × Nat × Nat)} {l : List Int32} {X : Tx} {fa : Nat → Nat} {R : List (Nat × Tr)} {T : Tr}
def tgt (N g x k e : Nat) (σ : st_S) : Option st_S := if gI σ g 17 < 0 then (F_201 N g x (nI k + 1) (nI e) 1 0 σ).bind fun p => some (st_i p.2 g 17 p.1) else (F_159 N (nI k) σ).bind fun p => (F_165 N 4 p.1 p.2).bind fun r => some r
theorem rul_4 {E : List En} : rul l w E 30 k [(4, T)] = orE none (rok l w E false 2 T) := by
  have e0 : rul l w E 30 k [] = none := rfl
  have e1 : ahd l w E [] 4 T = none := rfl
  have e2 : wkd l w E k 4 T = 2 := rfl
  conv => lhs; unfold rul
  rw [e0, e1, e2]
  dsimp only
  unfold rok orE
  show (match chk l w E false T with
    | .inl e => some e
    | .inr kd => if 2 = 0 ∨ kd = 2 then none else some (3, kP w (bw T))) = _
  cases chk l w E false T with
  | inl e => rfl
  | inr kd =>
    dsimp only
    by_cases c : kd = 2
    · rw [if_pos (Or.inr c), if_pos c]
    · rw [if_neg (fun z => z.elim (by decide) c), if_neg c]
/-- a target -/
theorem tgt_ok (G : RG0 N g x l w σ0) (h : RS g x l w σ0 σ X n D fa) (ho : opw 30 (kK w k)) (hC : Ch w 30 k R) (hF : Fi w 30 k R e) (hn : n ≤ k) : ItR g x l w σ0 (e + 1) (itk l w X 30 k R) (tgt N g x k e σ) := by
  have G' := G
  obtain ⟨hg, hx, hN, h40, hwl, hq, hP, hm, hnv⟩ := G
  obtain ⟨hR, hf, hc⟩ := h
  have kl : k < w.length := kK_lt (by unfold opw at ho; omega)
  obtain ⟨T, rfl⟩ := one_r (r := 4) hC hF (by omega) (by rw [if_pos rfl])
  obtain ⟨-, hw, h6, hB⟩ := hC
  have hb : bw T = k + 1 := by
    rcases hB with ⟨-, h1, -⟩ | ⟨-, h1, -⟩ | ⟨-, h1, -⟩ | ⟨-, h1, h2, h3⟩ | ⟨-, h1, -⟩ | ⟨T', R1, h1, -⟩ | ⟨T', R1, h1, -⟩ | ⟨T', R1, h1, -⟩ | ⟨T', R1, h1, -⟩ | ⟨T', R1, h1, -⟩ | ⟨h1, -⟩
    · omega
    · omega
    · omega
    · exact h3
    · omega
    · cases h1
    · cases h1
    · cases h1
    · cases h1
    · cases h1
    · omega
  have he : e = ew T := by
    obtain ⟨-, ⟨z, -⟩ | ⟨r, T', R1, z, hz⟩⟩ := hF
    · cases z
    · injection z with z
      injection z with z z'
      subst z z'
      rcases hz with ⟨-, q⟩ | ⟨q, -⟩ | ⟨q, -⟩
      · exact q
      · omega
      · omega
  have rl := rln_le hw
  have rd := hw.wd.1
  obtain ⟨el, bl⟩ := ew_le hw
  obtain ⟨r1, r2, r3, r4, r5, r6, r7⟩ := id hR
  unfold itk hdk tgt
  rw [if_neg (by decide), if_neg (by decide), if_pos rfl]
  cases htg : X.2.1 with
  | some T' =>
    rw [htg] at r5
    obtain ⟨a, q1, q2⟩ := r5
    have : a < 20000 := by have := q2.2.2.2.1; have := rln_pos T'; omega
    rw [q1, if_neg (show ¬ nI a < 0 from fun z => by have := (nI_lti (b := 0) (by omega) (by decide)).mp z; omega)]
    exact RFl.st (f := 4) G' r1 kl
  | none =>
    rw [htg] at r5
    have r5 : gI σ g 17 = -1 := r5
    dsimp only
    rw [r5, if_pos (by decide), rul_4, nI_1, ← hb, he]
    have K := rm_rule (N := N) (co := false) (kw := 2) (G'.rg r4) (Or.inr rfl) hw h6 r1 hf (by omega)
    cases hr : rok l w X.1 false 2 T with
    | inl er =>
      rw [hr] at K
      obtain ⟨s1, n', D', a1, a2, a3, a4, a5⟩ := K
      have a1 : F_201 N g x (nI (bw T)) (nI (ew T)) 1 0 σ = some (nI n, s1) := a1
      show RFl g x l w σ0 er _
      rw [a1, ob_some]
      exact ⟨_, _, n', D', rfl, by rw [gI_i, if_neg (by omega)]; exact a2, by rw [gI_i, if_neg (by omega)]; exact a3, a4.i hg hx _ (Or.inl ⟨rfl, by omega⟩)⟩
    | inr kd =>
      rw [hr] at K
      have hkd := rok_k hr
      subst hkd
      obtain ⟨s1, D1, a1, a2, a3, a4, a5, a6⟩ := K
      have a1 : F_201 N g x (nI (bw T)) (nI (ew T)) 1 0 σ = some (nI n, s1) := a1
      have ef : fin l w X 30 k [(4, T)] = .inr (X.1, some T, X.2.2) := rfl
      show ItR g x l w σ0 (ew T + 1) (fin l w X 30 k [(4, T)]) _
      rw [ef, a1, ob_some]
      obtain ⟨q1, q2, q3, q4, q5, q6, q7⟩ := hR.fz hg a3 a6 (by omega) a4
      have ru : RuR l w X.1 fa D1 (n + rln T) 2 T n := rur_new r2 hw h6 hr a5
      refine ⟨_, n + rln T, D1, fa, rfl, ⟨⟨a3.i hg hx _ (Or.inl ⟨rfl, by omega⟩), q2.fr (Nat.le_refl _) (fun _ _ => rfl) (fun _ _ _ _ _ => rfl) (fun _ _ _ _ _ => rfl) (fun _ _ _ _ _ => rfl), q3, q4, ⟨n, by rw [gI_i, if_pos ⟨rfl, rfl⟩], ru⟩, q6, q7⟩, by rw [gI_i, if_neg (by omega)]; exact a2, ?_⟩, by omega⟩
      have fr : Fr 0 [(g, 17)] [] [] [] [] s1 (st_i s1 g 17 (nI n)) := Fr.i s1 _ (by simp)
      have c2 := (hc.fz hg a6).fr fr (by simp)
      exact c2
/-- an item -/
theorem it_step (G : RG0 N g x l w σ0) (h : RS g x l w σ0 σ X n D fa) (ho : opw op (kK w k)) (hC : Ch w op k R) (hF : Fi w op k R e) (hn : n ≤ k) : ∃ r, (∀ f, L_160 N g x (f + 1) (nI k) σ = r.bind fun p => L_160 N g x f (nI (e + 1)) p) ∧ ItR g x l w σ0 (e + 1) (itk l w X op k R) r := by
  have G' := G
  obtain ⟨hg, hx, hN, h40, hwl, hq, hP, hm, hnv⟩ := G
  have w3 := h.1.1.1.2.1
  obtain ⟨u1, u2, u3⟩ := it_u (N := N) (by omega) w3 h40 hwl ho hC hF
  have u1 : F_163 N (nI k) 34 σ = some (nI e, σ) := u1
  have kl : k < w.length := by omega
  have k0 : kK w k ≠ 0 ∧ kK w k < 40 := ⟨by unfold opw at ho; omega, h40 k⟩
  have f0 := F162 (N := N) (k := k) w3 kl
  have ne : ∀ m, m < 40 → kK w k ≠ m → ¬ nI (kK w k) = nI m := fun m hm h z => h ((nI_eq (by omega) (by omega)).mp z)
  have hd : ∀ f, L_160 N g x (f + 1) (nI k) σ = (if nI (kK w k) = 3 then (F_164 N g x (nI k) (nI e) σ).bind fun p_8 => L_160 N g x f (nI e + 1) p_8
          else if nI (kK w k) = 4 then (F_199 N g x (nI k) (nI e) σ).bind fun p_10 => L_160 N g x f (nI e + 1) p_10
          else if nI (kK w k) = 6 then (F_164 N g x (nI k) (nI e) σ).bind fun p_12 => L_160 N g x f (nI e + 1) p_12
          else if nI (kK w k) = 11 then (if gI σ g 17 < 0 then (F_201 N g x (nI k + 1) (nI e) 1 0 σ).bind fun p_15 => L_160 N g x f (nI e + 1) (st_i p_15.2 g 17 p_15.1)
            else (F_159 N (nI k) σ).bind fun p_16 => (F_165 N 4 p_16.1 p_16.2).bind fun p_17 => L_160 N g x f (nI e + 1) p_17)
          else (F_204 N g x (nI k) (nI e) σ).bind fun p_18 => L_160 N g x f (nI e + 1) p_18) := fun f => by
    conv => lhs; unfold L_160
    rw [if_pos h.2.1, f0, ob_some]
    dsimp only
    rw [if_neg (show ¬ nI (kK w k) = 0 from ne 0 (by decide) k0.1), u1, ob_some]
    dsimp only
    rw [f0, ob_some]
  have ho' := ho
  unfold opw at ho'
  rcases ho' with ⟨rfl, z⟩ | ⟨rfl, z⟩ | ⟨rfl, z⟩ | ⟨rfl, z⟩ | ⟨rfl, z⟩
  · refine ⟨F_164 N g x (nI k) (nI e) σ, fun f => ?_, F164 G' h (Or.inl rfl) ho hC hF hn⟩
    rw [hd, z, if_pos (by decide), nI_1]
  · refine ⟨F_164 N g x (nI k) (nI e) σ, fun f => ?_, F164 G' h (Or.inr rfl) ho hC hF hn⟩
    rw [hd, z, if_neg (by decide), if_neg (by decide), if_pos (by decide), nI_1]
  · refine ⟨F_199 N g x (nI k) (nI e) σ, fun f => ?_, F199 G' h ho hC hF hn⟩
    rw [hd, z, if_neg (by decide), if_pos (by decide), nI_1]
  · refine ⟨tgt N g x k e σ, fun f => ?_, tgt_ok G' h ho hC hF hn⟩
    rw [hd, z, if_neg (by decide), if_neg (by decide), if_neg (by decide), if_pos (by decide), nI_1 e]
    unfold tgt
    by_cases c : gI σ g 17 < 0
    · rw [if_pos c, if_pos c]
      cases F_201 N g x (nI k + 1) (nI e) 1 0 σ <;> rfl
    · rw [if_neg c, if_neg c]
      cases F_159 N (nI k) σ <;> rfl
  · refine ⟨F_204 N g x (nI k) (nI e) σ, fun f => ?_, F204 G' h ho hC hF u3 hn⟩
    rcases z with z | z
    · rw [hd, z, if_neg (by decide), if_neg (by decide), if_neg (by decide), if_neg (by decide), nI_1]
    · rw [hd, z, if_neg (by decide), if_neg (by decide), if_neg (by decide), if_neg (by decide), nI_1]
theorem PI_len (G : RG0 N g x l w σ0) (h3 : W3 σ w) : ∀ {I : List It} {i : Nat}, PI w I i → I.length ≤ i ∧ i ≤ w.length := by
  intro I
  induction I with
  | nil => intro i h; have h : i = 0 := h; subst h; exact ⟨Nat.le_refl _, Nat.zero_le _⟩
  | cons y I ih =>
    obtain ⟨op, k, R⟩ := y
    intro i h
    obtain ⟨e, h1, h2, h3', h4, rfl⟩ := h
    obtain ⟨u1, u2, u3⟩ := it_u (N := N) (by have := G.2.2.1; omega) h3 G.2.2.2.1 G.2.2.2.2.1 h2 h3' h4
    have := ih h1
    rw [List.length_cons]
    omega
/-- all items -/
theorem itr_all (G : RG0 N g x l w σ0) {D0 : Nat → Nat → Int32} {fa0 : Nat → Nat} (hs : RS g x l w σ0 σ ([], none, []) 0 D0 fa0) : ∀ {I : List It} {i : Nat}, PI w I i → match itA l w I with
    | .inl e => ∃ σ' E n D, (∀ f, L_160 N g x (f + I.length + 1) 0 σ = some σ') ∧ gI σ' 66 16 = nI e.1 ∧ gI σ' 66 17 = nI e.2 ∧ RM g x l w E σ0 σ' n D
    | .inr X => ∃ σ' n D fa, (∀ f, L_160 N g x (f + I.length) 0 σ = L_160 N g x f (nI i) σ') ∧ RS g x l w σ0 σ' X n D fa ∧ n ≤ i := by
  intro I
  induction I with
  | nil =>
    intro i h
    have h : i = 0 := h
    subst h
    exact ⟨σ, 0, D0, fa0, fun f => rfl, hs, Nat.le_refl _⟩
  | cons y I ih =>
    obtain ⟨op, k, R⟩ := y
    intro i h
    have hPI := h
    obtain ⟨e, h1, h2, h3', h4, rfl⟩ := h
    have K := ih h1
    show match sbd (itA l w I) (fun x => itk l w x op k R) with
      | .inl e => _
      | .inr X => _
    have stop : ∀ (s : st_S) (er : Nat × Nat), gI s 66 16 = nI er.1 → 2 ≤ er.1 ∧ er.1 ≤ 9 → ∀ y f, L_160 N g x (f + 1) y s = some s := fun s er z1 z2 y f => by
      have n0 : ¬ gI s 66 16 = 0 := by
        rw [z1]
        intro q
        have := (nI_eq (b := 0) (by omega) (by decide)).mp q
        omega
      unfold L_160
      rw [if_neg n0]
      unfold J_160_190
      rw [if_neg n0]
    cases hi : itA l w I with
    | inl er =>
      rw [hi] at K
      rw [sbd_l]
      obtain ⟨σ', E, n, D, k1, k2⟩ := K
      refine ⟨σ', E, n, D, fun f => ?_, k2⟩
      rw [List.length_cons, show f + (I.length + 1) + 1 = f + 1 + I.length + 1 by omega]
      exact k1 (f + 1)
    | inr X =>
      rw [hi] at K
      rw [sbd_r]
      obtain ⟨s1, n, D, fa, k1, k2, k3⟩ := K
      obtain ⟨r, r1, r2⟩ := it_step G k2 h2 h3' h4 k3
      cases hk : itk l w X op k R with
      | inl er =>
        rw [hk] at r2
        obtain ⟨s2, E, n', D', q1, q2, q3, q4⟩ := r2
        have b := itA_er (l := l) hPI (show itA l w ((op, k, R) :: I) = .inl er by show sbd (itA l w I) (fun x => itk l w x op k R) = _; rw [hi, sbd_r, hk])
        refine ⟨s2, E, n', D', fun f => ?_, q2, q3, q4⟩
        rw [List.length_cons, show f + (I.length + 1) + 1 = f + 1 + 1 + I.length by omega, k1, r1, q1, ob_some, stop s2 er q2 b]
      | inr X' =>
        rw [hk] at r2
        obtain ⟨s2, n', D', fa', q1, q2, q3⟩ := r2
        refine ⟨s2, n', D', fa', fun f => ?_, q2, q3⟩
        rw [List.length_cons, show f + (I.length + 1) = f + 1 + I.length by omega, k1, r1, q1, ob_some]
end IL
