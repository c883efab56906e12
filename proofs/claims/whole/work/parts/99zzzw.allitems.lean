/-! the reference's items: all of them -/
/-- inside a command: where its code stands behind the rules R0 -/
def CmS (N g x : Nat) (l : List Int32) (w : List (Nat × Nat × Nat)) (σ0 : st_S) (X : Tx) (fa : Nat → Nat) (k e : Nat) (R0 : List (Nat × Tr)) (F : Option st_S) : Prop := match R0 with
  | [] => False
  | (r, T) :: _ => ∃ σ' n D f, n ≤ ew T ∧ f + 1 + brs R0 = N ∧ ((r = 5 ∧ F = L_204 N g x (f + 1) (nI e) (nI X.2.2.length) (nI (ew T + 1)) σ' ∧ CmC g x l w σ0 X fa k σ' n D R0) ∨ (r = 6 ∧ ∃ b B, b.2 = [] ∧ F = C6 N g x e X.2.2.length B.length (f + 1) (ew T + 1) σ' ∧ CmO g x l w σ0 X fa k σ' n D R0 b B) ∨ (r = 7 ∧ ∃ b B f', f' + 1 + b.2.length = N ∧ F = C7 N g x e X.2.2.length B.length (f + 1) (f' + 1) (ew T + 1) σ' ∧ CmO g x l w σ0 X fa k σ' n D R0 b B))
section AI
variable {N g x n k e : Nat} {σ σ0 : st_S} {D : Nat → Nat → Int32} {w : List (Nat × Nat × Nat)} {l : List Int32} {X : Tx} {fa : Nat → Nat} {R : List (Nat × Tr)} {T : Tr}
theorem rul_some {E : List En} {op : Nat} {R : List (Nat × Tr)} {y : Nat × Tr} {er : Nat × Nat} (h : rul l w E op k R = some er) : rul l w E op k (y :: R) = some er := by
  obtain ⟨r, T⟩ := y
  unfold rul
  rw [h]
/-- all rules of a command -/
theorem cm_all (G : RG0 N g x l w σ0) (h : RS g x l w σ0 σ X n D fa) (hk : kK w k = 7 ∨ kK w k = 8) (hc60 : X.2.2.length < 60) (hn : n ≤ k) (hel : e < w.length) : ∀ {R0 : List (Nat × Tr)}, R0 ≠ [] → Ch w 31 k R0 → A33 w R0 → (∀ y ∈ R0, ew y.2 < e) → match rul l w X.1 31 k R0 with
    | some er => RFl g x l w σ0 er (F_204 N g x (nI k) (nI e) σ)
    | none => CmS N g x l w σ0 X fa k e R0 (F_204 N g x (nI k) (nI e) σ) := by
  have hN := G.2.2.1
  have hwl := G.2.2.2.2.1
  intro R0
  induction R0 with
  | nil => intro h; exact absurd rfl h
  | cons y R0 ih =>
    obtain ⟨r, T⟩ := y
    intro _ hC h33 hE
    have o := Ch_op hC
    have hC' := hC
    obtain ⟨hC0, hw, hl6, hB⟩ := hC
    have te : ew T < e := hE (r, T) (List.mem_cons_self ..)
    have rl := rln_le hw
    have rd := hw.wd.1
    cases R0 with
    | nil =>
      have r5 : r = 5 ∧ bw T = k + 1 := by
        rcases hB with ⟨-, h1, -⟩ | ⟨-, h1, -⟩ | ⟨-, h1, -⟩ | ⟨-, h1, -⟩ | ⟨-, h1, h2, h3⟩ | ⟨T', R1, h1, -⟩ | ⟨T', R1, h1, -⟩ | ⟨T', R1, h1, -⟩ | ⟨T', R1, h1, -⟩ | ⟨T', R1, h1, -⟩ | ⟨-, j0, h1, -⟩
        · omega
        · omega
        · omega
        · omega
        · exact ⟨h2, h3⟩
        · cases h1
        · cases h1
        · cases h1
        · cases h1
        · cases h1
        · exact absurd h1 (fun z => z)
      obtain ⟨rfl, hb⟩ := r5
      have K := F204s (e := e) G h hk hc60 hw hl6 hb (h33.2.1 rfl) hn
      cases hr : rul l w X.1 31 k [(5, T)] with
      | some er => rw [hr] at K; exact K
      | none =>
        rw [hr] at K
        obtain ⟨σ', D', k1, k2⟩ := K
        refine ⟨σ', n + rln T, D', N - 1, by omega, ?_, Or.inl ⟨rfl, ?_, k2⟩⟩
        · show N - 1 + 1 + 0 = N
          omega
        · rw [k1, show N - 1 + 1 = N by omega]
    | cons y' R1 =>
      obtain ⟨r', T'⟩ := y'
      have I := ih (by simp) hC0 h33.1 (fun y hy => hE y (List.mem_cons_of_mem _ hy))
      have lt : ew T' < bw T := chw_lt hC' (r', T') (List.mem_cons_self ..)
      have r67 : r = 6 ∨ r = 7 := by
        obtain ⟨o1, o2, o3, o4, o5, o6, -⟩ := o
        have : r ≠ 5 := fun z => by have := o6 z; cases this
        omega
      cases h0 : rul l w X.1 31 k ((r', T') :: R1) with
      | some er =>
        rw [h0] at I
        rw [rul_some h0]
        exact I
      | none =>
        rw [h0] at I
        obtain ⟨s1, n1, D1, f, i1, i2, i3⟩ := I
        rcases r67 with rfl | rfl
        · -- a branch: the one before it is closed
          have cl : ∃ s2, F_204 N g x (nI k) (nI e) σ = L_204 N g x (f + 1) (nI e) (nI X.2.2.length) (nI (bw T)) s2 ∧ CmC g x l w σ0 X fa k s2 n1 D1 ((r', T') :: R1) := by
            rcases hB with ⟨h1, -⟩ | ⟨h1, -⟩ | ⟨h1, -⟩ | ⟨h1, -⟩ | ⟨h1, -⟩ | ⟨T1, R2, h1, h2, -⟩ | ⟨T1, R2, h1, h2, -⟩ | ⟨T1, R2, h1, h2, h3, h4⟩ | ⟨T1, R2, h1, h2, h3, h4, h5, h7⟩ | ⟨T1, R2, h1, h2, h3, h4, h5⟩ | ⟨h2, -⟩
            · cases h1
            · cases h1
            · cases h1
            · cases h1
            · cases h1
            · omega
            · omega
            · injection h1 with h1
              injection h1 with h1 h1'
              subst h1'
              rcases i3 with ⟨-, z1, z2⟩ | ⟨z, -⟩ | ⟨z, -⟩
              · exact ⟨s1, by rw [h4]; exact z1, z2⟩
              · omega
              · omega
            · injection h1 with h1
              injection h1 with h1 h1'
              subst h1'
              rcases i3 with ⟨z, -⟩ | ⟨-, b, B, zb, z1, z2⟩ | ⟨z, -⟩
              · omega
              · obtain ⟨s2, a1, a2⟩ := C6s (e := e) (f := f + 1) G z2 h4
                exact ⟨s2, by rw [z1, a1, h7], a2⟩
              · omega
            · injection h1 with h1
              injection h1 with h1 h1'
              subst h1'
              rcases i3 with ⟨z, -⟩ | ⟨z, -⟩ | ⟨-, b, B, f', zb, z1, z2⟩
              · omega
              · omega
              · obtain ⟨s2, a1, a2⟩ := C7s (e := e) (f := f + 1) (f' := f') G z2 (show kK w (ew T' + 1) ≠ 29 by omega) (kK_lt (by omega))
                exact ⟨s2, by rw [z1, a1, h5], a2⟩
            · omega
          obtain ⟨s2, c1, c2⟩ := cl
          have b8 : brs ((r', T') :: R1) ≤ 8 := by
            have := c2.1.2.2.2.2.2.2.2.2
            rw [bsr_len hC0] at this
            exact this
          obtain ⟨f1, rfl⟩ : ∃ f1, f = f1 + 1 := ⟨f - 1, by omega⟩
          have K := st6 (f := f1) (e := e) G c2 h0 hC' (h33.2.2.1 rfl) te hel (by omega)
          rw [← c1] at K
          cases hr : rul l w X.1 31 k ((6, T) :: (r', T') :: R1) with
          | some er => rw [hr] at K; exact K
          | none =>
            rw [hr] at K
            obtain ⟨σ', D', k1, k2⟩ := K
            refine ⟨σ', n1 + rln T, D', f1, by omega, ?_, Or.inr (Or.inl ⟨rfl, _, _, rfl, k1, k2⟩)⟩
            show f1 + 1 + (brs ((r', T') :: R1) + 1) = N
            omega
        · -- a set
          have so : ∃ j0, So w ((r', T') :: R1) j0 ∧ kK w j0 = 36 ∧ kK w (j0 + 1) = 1 ∧ kK w (j0 + 2) = 38 ∧ kK w (j0 + 3) = 23 ∧ bw T = j0 + 4 := by
            rcases hB with ⟨h1, -⟩ | ⟨h1, -⟩ | ⟨h1, -⟩ | ⟨h1, -⟩ | ⟨h1, -⟩ | ⟨T1, R2, h1, h2, -⟩ | ⟨T1, R2, h1, h2, -⟩ | ⟨T1, R2, h1, h2, -⟩ | ⟨T1, R2, h1, h2, -⟩ | ⟨T1, R2, h1, h2, -⟩ | ⟨-, q⟩
            · cases h1
            · cases h1
            · cases h1
            · cases h1
            · cases h1
            · omega
            · omega
            · omega
            · omega
            · omega
            · exact q
          obtain ⟨j0, so, hj⟩ := so
          -- the loop over sets stands at j0
          have lp : ∃ b B f', f' + 1 + 1 + b.2.length = N ∧ F_204 N g x (nI k) (nI e) σ = ((L_205 N g x (f' + 1 + 1) (nI X.2.2.length) (nI B.length) (nI (8 * X.2.2.length + B.length)) (nI j0) 1 s1).bind fun p => L_204 N g x (f + 1) (nI e) (nI X.2.2.length) (p.1 + 1) p.2) ∧ CmO g x l w σ0 X fa k s1 n1 D1 ((r', T') :: R1) b B := by
            rcases so with ⟨z1, z2, z3⟩ | ⟨z1, z2, z3, z4⟩
            · rcases i3 with ⟨z, -⟩ | ⟨-, b, B, zb, y1, y2⟩ | ⟨z, -⟩
              · omega
              · refine ⟨b, B, N - 2, by rw [zb]; show N - 2 + 1 + 1 + 0 = N; omega, ?_, y2⟩
                rw [y1, show N - 2 + 1 + 1 = N by omega]
                unfold C6
                rw [F162 y2.2.1.1.1.1.2.1 (show ew T' + 1 < w.length by rw [← z3]; exact kK_lt (by omega)), ob_some]
                dsimp only
                rw [← z3, hj.1, if_neg (by decide)]
              · omega
            · rcases i3 with ⟨z, -⟩ | ⟨z, -⟩ | ⟨-, b, B, f', zb, y1, y2⟩
              · omega
              · omega
              · have bl : b.2.length ≤ 16400 := by
                  have q := y2.2.1.2.2.2.2.2.2.2.1
                  have e1 : nsb (bsr ((r', T') :: R1)) = b.2.length + nsb B := by rw [y2.1]; rfl
                  have := (ew_le hw).1
                  omega
                refine ⟨b, B, f' - 1, by omega, ?_, y2⟩
                rw [y1, show f' - 1 + 1 + 1 = f' + 1 by omega]
                unfold C7
                rw [F162 y2.2.1.1.1.1.2.1 (kK_lt (by omega)), ob_some]
                dsimp only
                rw [z3, show (if nI 29 = 29 then 1 else 0 : Int32) = 1 from rfl, if_neg (by decide), nI_1, ← z4]
          obtain ⟨b, B, f', l1, l2, l3⟩ := lp
          have nj : n1 ≤ j0 := by
            rcases so with ⟨z1, z2, z3⟩ | ⟨z1, z2, z3, z4⟩ <;> omega
          have K := st7 (f := f) (f' := f') (e := e) G l3 h0 hC' hj (h33.2.2.2 rfl) nj te hel
          rw [← l2] at K
          cases hr : rul l w X.1 31 k ((7, T) :: (r', T') :: R1) with
          | some er => rw [hr] at K; exact K
          | none =>
            rw [hr] at K
            obtain ⟨σ', D', k1, k2⟩ := K
            refine ⟨σ', n1 + rln T, D', f, by clear i3; omega, i2, Or.inr (Or.inr ⟨rfl, _, _, f', ?_, k1, k2⟩)⟩
            show f' + 1 + (b.2.length + 1) = N
            omega
/-- a command -/
theorem F204 (G : RG0 N g x l w σ0) (h : RS g x l w σ0 σ X n D fa) (ho : opw 31 (kK w k)) (hC : Ch w 31 k R) (hF : Fi w 31 k R e) (hel : e < w.length) (hn : n ≤ k) : ItR g x l w σ0 (e + 1) (itk l w X 31 k R) (F_204 N g x (nI k) (nI e) σ) := by
  have hk : kK w k = 7 ∨ kK w k = 8 := by unfold opw at ho; omega
  have kl : k < w.length := kK_lt (by omega)
  have hwl := G.2.2.2.2.1
  obtain ⟨h1, h2, n6, n12, n18, b60, b12, b60', n30, n32, n34⟩ := id h
  unfold itk hdk
  rw [if_neg (by decide), if_neg (by decide), if_neg (by decide)]
  by_cases c60 : 60 ≤ X.2.2.length
  · rw [if_pos c60]
    have e60 : X.2.2.length = 60 := by omega
    have : F_204 N g x (nI k) (nI e) σ = (F_159 N (nI k) σ).bind fun p => (F_165 N (nI 5) p.1 p.2).bind fun r => some r := by
      unfold F_204
      rw [n18, e60, if_pos (by decide)]
      rfl
    rw [this]
    exact RFl.st (f := 5) G h1.1 kl
  rw [if_neg c60]
  dsimp only
  obtain ⟨r, T, R1, rfl⟩ : ∃ r T R1, R = (r, T) :: R1 := by
    obtain ⟨-, ⟨-, z, -⟩ | ⟨r, T, R1, z, -⟩⟩ := hF
    · omega
    · exact ⟨r, T, R1, z⟩
  have K := cm_all G h hk (by omega) hn hel (by simp) hC (A33_a hC hF) (ch_end hC hF)
  cases hr : rul l w X.1 31 k ((r, T) :: R1) with
  | some er => rw [hr] at K; exact K
  | none =>
    rw [hr] at K
    dsimp only
    obtain ⟨s1, n1, D1, f, i1, i2, i3⟩ := K
    have ef : fin l w X 31 k ((r, T) :: R1) = .inr (X.1, X.2.1, (31, k, (r, T) :: R1) :: X.2.2) := rfl
    rw [ef]
    obtain ⟨q34, hF⟩ := hF
    have te := ch_end hC ⟨q34, hF⟩ (r, T) (List.mem_cons_self ..)
    rcases hF with ⟨-, z, -⟩ | ⟨r', T', R2, z, hz⟩
    · omega
    · injection z with z z'
      injection z with z z''
      subst z z''
      rcases hz with ⟨z1, z2⟩ | ⟨z1, z2, z3, z4⟩ | ⟨z1, z2, z3⟩
      · have o := Ch_op hC
        omega
      · rcases i3 with ⟨z, -⟩ | ⟨-, b, B, zb, y1, y2⟩ | ⟨z, -⟩
        · omega
        · obtain ⟨s2, a1, a2⟩ := C6s (e := e) (f := f + 1) G y2 z3
          rw [y1, a1]
          exact L204e G a2 (by omega) (by omega) (by omega)
        · omega
      · rcases i3 with ⟨z, -⟩ | ⟨z, -⟩ | ⟨-, b, B, f', zb, y1, y2⟩
        · omega
        · omega
        · obtain ⟨s2, a1, a2⟩ := C7s (e := e) (f := f + 1) (f' := f') G y2 (show kK w (ew T + 1) ≠ 29 by rw [← z3]; omega) (by omega)
          rw [y1, a1]
          exact L204e G a2 (by omega) (by omega) (by omega)
end AI
