/-! the class's machine: operations -/
theorem wfn_l {w : List (Nat × Nat × Nat)} {op k el ll br er lr : Nat} (h : wfn w op k el ll br er lr) : (op ≠ 19 → lr ≤ 7) ∧ (op = 19 → lr = 8) ∧ (un op = false → ll ≤ 7) ∧ (op = 35 → lr ≤ 6) ∧ (un op = false → op ≠ 20 → op ≠ 21 → ll ≤ 6) ∧ (un op = false → op ≠ 19 → lr ≤ 6) ∧ (un op = false → op ≠ 20 → op ≠ 21 → op ≠ 19 → op ≠ 37 → 4 ≤ op ∧ op ≤ 18 ∧ op ≠ 9 ∧ op ≠ 16) := by
  unfold wfn at h
  have u : ∀ {o : Nat}, un o = false → o ≠ 9 ∧ o ≠ 16 ∧ o ≠ 35 ∧ o ≠ 22 := by
    intro o ho
    simp only [un, Bool.or_eq_false_iff, decide_eq_false_iff_not] at ho
    omega
  by_cases c1 : op = 9
  · rw [if_pos c1] at h
    exact ⟨fun _ => by omega, fun z => by omega, fun z => by have := u z; omega, fun z => by omega, fun z => by have := u z; omega, fun z => by have := u z; omega, fun z => by have := u z; omega⟩
  rw [if_neg c1] at h
  by_cases c2 : op = 16
  · rw [if_pos c2] at h
    exact ⟨fun _ => by omega, fun z => by omega, fun z => by have := u z; omega, fun z => by omega, fun z => by have := u z; omega, fun z => by have := u z; omega, fun z => by have := u z; omega⟩
  rw [if_neg c2] at h
  by_cases c3 : op = 35
  · rw [if_pos c3] at h
    exact ⟨fun _ => by omega, fun z => by omega, fun z => by have := u z; omega, fun z => by omega, fun z => by have := u z; omega, fun z => by have := u z; omega, fun z => by have := u z; omega⟩
  rw [if_neg c3] at h
  by_cases c4 : op = 22
  · rw [if_pos c4] at h
    exact ⟨fun _ => by omega, fun z => by omega, fun z => by have := u z; omega, fun z => by omega, fun z => by have := u z; omega, fun z => by have := u z; omega, fun z => by have := u z; omega⟩
  rw [if_neg c4] at h
  by_cases c5 : op = 20 ∨ op = 21
  · rw [if_pos c5] at h
    exact ⟨fun _ => by omega, fun z => by omega, fun z => by omega, fun z => by omega, fun z => by omega, fun z => by omega, fun z => by omega⟩
  rw [if_neg c5] at h
  by_cases c6 : op = 19
  · rw [if_pos c6] at h
    exact ⟨fun _ => by omega, fun z => by omega, fun z => by omega, fun z => by omega, fun z => by omega, fun z => by omega, fun z => by omega⟩
  rw [if_neg c6] at h
  by_cases c7 : op = 37
  · rw [if_pos c7] at h
    exact ⟨fun _ => by omega, fun z => by omega, fun z => by omega, fun z => by omega, fun z => by omega, fun z => by omega, fun z => by omega⟩
  rw [if_neg c7] at h
  obtain ⟨b, -, -, -, b1, b2⟩ := h
  have l1 : lL op ≤ 5 := by unfold lL; repeat' split
                            all_goals omega
  have l2 : lR op ≤ 5 := by unfold lR; repeat' split
                            all_goals omega
  simp only [bin, Bool.and_eq_true, decide_eq_true_eq, bne_iff_ne, ne_eq] at b
  exact ⟨fun _ => by omega, fun z => by omega, fun z => by omega, fun z => by omega, fun z => by omega, fun z => by omega, fun z => by omega⟩
theorem kr_k {pl op a b kd : Nat} (h : kr pl op a b = .inr kd) (hk : kd ≠ 0) : (op = 10 ∨ op = 11 → a = b) ∧ (op = 17 ∨ op = 18 → a = 2 ∧ b = 2) ∧ (op = 19 → a = 2 ∧ b ≠ 0) ∧ (op = 37 → a = b) ∧ (op ≠ 10 → op ≠ 11 → op ≠ 17 → op ≠ 18 → op ≠ 19 → op ≠ 37 → a = 1 ∧ b = 1) := by
  unfold kr at h
  by_cases c1 : op = 10 ∨ op = 11
  · rw [if_pos c1] at h
    split at h
    · exact ⟨fun _ => by omega, fun z => by omega, fun z => by omega, fun z => by omega, fun z => by omega⟩
    · exact absurd h (by simp)
  rw [if_neg c1] at h
  by_cases c2 : op = 17 ∨ op = 18
  · rw [if_pos c2] at h
    split at h
    · exact ⟨fun _ => by omega, fun z => by omega, fun z => by omega, fun z => by omega, fun z => by omega⟩
    · exact absurd h (by simp)
  rw [if_neg c2] at h
  by_cases c3 : op = 19
  · rw [if_pos c3] at h
    split at h
    · exact ⟨fun _ => by omega, fun z => by omega, fun z => by omega, fun z => by omega, fun z => by omega⟩
    · exact absurd h (by simp)
  rw [if_neg c3] at h
  by_cases c4 : op = 37
  · rw [if_pos c4] at h
    injection h with h
    split at h
    · exact ⟨fun _ => by omega, fun z => by omega, fun z => by omega, fun z => by omega, fun z => by omega⟩
    · omega
  rw [if_neg c4] at h
  by_cases c5 : op = 20 ∨ op = 21
  · rw [if_pos c5] at h
    injection h with h
    split at h
    · exact ⟨fun _ => by omega, fun z => by omega, fun z => by omega, fun z => by omega, fun z => by omega⟩
    · omega
  rw [if_neg c5] at h
  split at h <;> split at h
  · exact ⟨fun _ => by omega, fun z => by omega, fun z => by omega, fun z => by omega, fun z => by omega⟩
  · exact absurd h (by simp)
  · exact ⟨fun _ => by omega, fun z => by omega, fun z => by omega, fun z => by omega, fun z => by omega⟩
  · exact absurd h (by simp)
theorem ku_k {pl op a kd : Nat} (h : ku pl op a = .inr kd) (hk : kd ≠ 0) : a ≠ 0 ∧ (op = 16 → a = 2) ∧ (op ≠ 16 → op ≠ 35 → a = 1) := by
  unfold ku at h
  split at h
  · injection h with h
    exact ⟨by omega, fun z => by omega, fun _ z => absurd (by assumption) z⟩
  · split at h <;> split at h
    · exact ⟨by omega, fun z => by omega, fun z => by omega⟩
    · exact absurd h (by simp)
    · exact ⟨by omega, fun z => by omega, fun z => by omega⟩
    · exact absurd h (by simp)
theorem sbd_id {α : Type} (x : Rs α) : sbd x (fun v => .inr v) = x := by cases x <;> rfl
theorem Va.t1 {M : Nat → Nat → Int32} {x : Nat} {u : Int64 × Int64} (h : Va M x u) (k : okv 2 u) : M x 6 = 1 ↔ u.1 = 1 := by
  obtain ⟨a, b⟩ := h.tru k
  rcases b with ⟨b, rfl⟩ | ⟨b, rfl⟩ <;> rw [b] <;> decide
section EV
variable {N t n : Nat} {l : List Int32} {w : List (Nat × Nat × Nat)} {E : List En} {X fs : Nat → Nat} {vs : Nat → Int32} {m B : Nat} {cc : Bool}
/-- a jump in a run -/
theorem EvG.jm (hB : B < 100000) {σ : st_S} {M : Nat → Nat → Int32} {d s i op x z e e' a b a2 b2 rt co co2 : Nat} {o : Rs (Int64 × Int64)} (h : PrS t n l w E X fs vs m d B σ M a b s co) (hc : 1 ≤ co) (hn : i < n) (ho : op = 23 ∨ op = 24 ∨ op = 25) (e0 : M i 0 = nI op) (hx : op ≠ 25 → x < n ∧ M i 2 = nI x) (e4 : M i 4 = nI z) (he : (if op = 25 then z else if op = 24 then (if M x 6 = 1 then z else i + 1) else (if M x 6 = 1 then i + 1 else z)) = e') (r : EvG N t n l w E X fs vs m d B σ M (s + 1) e' e a2 b2 rt co2 o) : EvG N t n l w E X fs vs m d B σ M s i e a2 b2 rt (1 + co2) o := by
  obtain ⟨h1, h2, h3, h4, h5, h6⟩ := h
  exact EvG.pr (a1 := a2) (b1 := b2) (Rn1.jm h1 h2 (fun k' => by rw [L70j (k := k') h1.1 hn ho e0 hx e4 (by omega) hB, he])) (Nat.le_refl _) r (Nat.le_refl _) (Nat.le_refl _) (Nat.le_refl _) (Nat.le_refl _)
theorem ev_un (G : Gv N t n l w E X fs vs B cc) (p : Nat) (l' r : Tr) (cu : un (p % 64) = true) (ir : EvP N t n l w E X fs vs B cc m r) : EvP N t n l w E X fs vs B cc m (.branch p l' r) := by
  intro co σ M a d s c kd hcc hW hNB hck hkd hCr han hP
  obtain ⟨ht, hN, hn24, hB, hSF, hnv, hok⟩ := G
  have hok' : ∀ j, j < E.length → (co = true → (E.getD j eN).2.1 = 1) → ∀ v, fvn l w E vs j = .inr v → okv (if (E.getD j eN).2.2.1 then 2 else 1) v := fun j h1 h2 => hok j h1 (fun z => h2 (hcc z))
  obtain ⟨hWl, hWr, hfo, hwf⟩ := hW
  obtain ⟨hBl, hBr⟩ := hNB
  have pr := tln_pos r
  obtain ⟨w1, w2, w3, w4, w5, w6, w7⟩ := wfn_l hwf
  have cu' : p % 64 = 9 ∨ p % 64 = 16 ∨ p % 64 = 35 ∨ p % 64 = 22 := by
    simp only [un, Bool.or_eq_true, decide_eq_true_eq] at cu
    omega
  have et : tln (.branch p l' r) = lnc (p % 64) (tln l') (tln r) := rfl
  have lv : lev (.branch p l' r) ≤ 7 := by
    show lvo (p % 64) ≤ 7
    rcases cu' with z | z | z | z <;> rw [z] <;> decide
  unfold EvO
  rw [st0_n lv, rt0_n lv]
  rw [et] at han hP ⊢
  unfold chk at hck
  rw [if_pos cu] at hck
  obtain ⟨ka, k1, k2⟩ := sbd_i hck
  obtain ⟨u1, u2, u3⟩ := ku_k k2 hkd
  unfold evl
  rw [if_pos cu]
  obtain ⟨hCr, hK⟩ := hCr
  rw [et] at hK
  unfold Code at hCr
  have rl : lev r ≤ 7 := w1 (by omega)
  by_cases c35 : p % 64 = 35
  · rw [if_neg (by omega), if_pos c35] at hCr
    rw [c35, lnc_2] at han hP ⊢
    rw [c35, lnc_2] at hK
    have R := ir co σ M a d s false ka hcc hWr hBr k1 u1 ⟨hCr, hK⟩ han hP
    unfold EvO at R
    rw [st0_n rl, rt0_n rl] at R
    have e : (fun u => (.inr (vu 35 u) : Rs (Int64 × Int64))) = fun u => .inr u := rfl
    rw [e, sbd_id]
    exact R
  · have c3 : p % 64 = 9 ∨ p % 64 = 16 ∨ p % 64 = 22 := by omega
    rw [if_pos c3] at hCr
    rw [lnc_1 c3] at han hP ⊢
    have R := ir co σ M a d s false ka hcc hWr hBr k1 u1 ⟨hCr.1, hK.sb (Nat.le_refl _) (by rw [lnc_1 c3]; omega)⟩ (by omega) (hP.mo (Nat.le_refl _) (by omega) (by omega))
    unfold EvO at R
    rw [st0_n rl, rt0_n rl] at R
    have e1 : a + (tln r + 1) - 1 = a + tln r := by omega
    rw [e1]
    refine (EvG.sb (c2 := 1) (a := a) (b := a + (tln r + 1)) (a2 := a) (b2 := a + (tln r + 1)) (e := a + (tln r + 1)) (rt := a + tln r) R (fun u σ1 M1 q1 hev hR hVa hq => ?_) (Nat.le_refl _) (by omega) (Nat.le_refl _) (Nat.le_refl _)).mo (Nat.le_refl _) (Nat.le_refl _) (by omega)
    obtain ⟨n0, n1, n2, n3, n4, n7⟩ := hR.st.nd hCr.2
    have n5 : ∀ op, 4 ≤ op → op ≤ 18 → p % 64 = op → M1 (a + tln r) 5 = if op < 10 then 1 else 2 := fun op o1 o2 o3 => by
      subst o3
      rw [(hR.st _).2.2.2 (Or.inr ⟨p % 64, o1, o2, hCr.2.1⟩)]
      exact hK _ _ (by omega) (by rw [lnc_1 c3]; omega) o1 o2 hCr.2.1
    have kv := evl_ok hnv hok' r false ka u hWr k1 u1 hev
    have P1 := hP.nx hR hq (c2 := 1) (a' := a) (b' := a + (tln r + 1)) (by omega) (Nat.le_refl _) (Nat.le_refl _)
    rcases c3 with z | z | z
    · rw [z] at n0 ⊢
      exact EvG.wo ht hB P1 (by omega) (by omega) (by omega) (op := 9) (by decide) (by decide) n0 (wk9 ht P1.1.1 (by omega) n0 n2 (by omega) hVa ((n5 9 (by decide) (by decide) z).trans (by rw [u3 (by omega) (by omega)] at kv; exact (kvv_k kv).symm))) (by decide)
    · rw [z] at n0 n7 ⊢
      rw [u2 z] at kv
      exact EvG.wo ht hB P1 (by omega) (by omega) (by omega) (op := 16) (by decide) (by decide) n0 (wk16 ht P1.1.1 (by omega) n2 (by omega) hVa kv (n7 (by decide)) (n5 16 (by decide) (by decide) z)) (by decide)
    · rw [z] at n0 ⊢
      exact EvG.wo ht hB P1 (by omega) (by omega) (by omega) (op := 22) (by decide) (by decide) n0 (wk22 ht P1.1.1 (by omega) n0 n2 (by omega) hVa) (by decide)
end EV
