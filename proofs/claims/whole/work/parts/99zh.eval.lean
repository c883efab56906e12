/-! the class's machine works out a rule -/
/-- where a run of a tree begins and where its value stands; of two (37), the one that is wanted -/
def st0 (T : Tr) (a : Nat) (c : Bool) : Nat := if lev T = 8 then (if c then a else a + fln T + 1) else a
def rt0 (T : Tr) (a : Nat) (c : Bool) : Nat := if lev T = 8 then (if c then a + fln T - 1 else a + tln T - 1) else a + tln T - 1
theorem st0_n {T : Tr} (h : lev T ≤ 7) (a : Nat) (c : Bool) : st0 T a c = a := if_neg (by omega)
theorem rt0_n {T : Tr} (h : lev T ≤ 7) (a : Nat) (c : Bool) : rt0 T a c = a + tln T - 1 := if_neg (by omega)
section EV
variable {N t n : Nat} {l : List Int32} {w : List (Nat × Nat × Nat)} {E : List En} {X fs : Nat → Nat} {vs : Nat → Int32} {B : Nat}
def EvO (N t n : Nat) (l : List Int32) (w : List (Nat × Nat × Nat)) (E : List En) (X fs : Nat → Nat) (vs : Nat → Int32) (B m d : Nat) (σ : st_S) (M : Nat → Nat → Int32) (s : Nat) (T : Tr) (a : Nat) (c : Bool) (o : Rs (Int64 × Int64)) : Prop := match o with
  | .inr v => ∃ σ' M' q, Rn1 N t n l w E X fs vs m d B σ M s (st0 T a c) (a + tln T) a (a + tln T) q σ' M' ∧ Va M' (rt0 T a c) v ∧ q + phi2 E X σ' m ≤ 2 * tln T + phi2 E X σ m
  | .inl e => ∃ σ' M' q, Fl1 N t n d B σ M s (st0 T a c) q e.1 e.2 σ' M' ∧ q ≤ 2 * tln T + phi2 E X σ m
/-- what is given -/
def Gv (N t n : Nat) (l : List Int32) (w : List (Nat × Nat × Nat)) (E : List En) (X fs : Nat → Nat) (vs : Nat → Int32) : Prop := (t = 4 ∨ t = 20) ∧ 300 < N ∧ n ≤ 24600 ∧ SF l w E X fs ∧ Nvk l w ∧ (∀ j, j < E.length → ∀ v, fvn l w E vs j = .inr v → okv (if (E.getD j eN).2.2.1 then 2 else 1) v)
theorem evT (G : Gv N t n l w E X fs vs) (hB : B < 100000) (co : Bool) : ∀ (m : Nat), m ≤ E.length → ∀ (T : Tr) (σ : st_S) (M : Nat → Nat → Int32) (a d s : Nat) (c : Bool) (kd : Nat), Wf w T → NBl l w E m T → chk l w E co T = .inr kd → Cr l w E X M T a → a + tln T ≤ n → MF σ t n M l w E X fs → Mtt l w E X fs vs σ M → (∀ v, v < 12 → gE σ 43 v = vs v) → DJ E X fs σ m a (a + tln T) → d + nfo E m ≤ 60 → s + 2 * tln T + phi2 E X σ m < B → EvO N t n l w E X fs vs B m d σ M s T a c (evl l w E (fvn l w E vs) T c) := by
  obtain ⟨ht, hN, hn24, ⟨SF1, SF2, SF3⟩, hnv, hok⟩ := G
  intro m
  induction m using Nat.strongRecOn with
  | _ m IH =>
  intro hmE T
  induction T with
  | leaf k =>
    intro σ M a d s c kd hW hNB hck hCr han hMF hMt hvs hDJ hd hs
    have han : a + 1 ≤ n := han
    have hs : s + 2 * 1 + phi2 E X σ m < B := hs
    have hDJ : DJ E X fs σ m a (a + 1) := hDJ
    have val : ∀ v, M a 0 = nI 0 → Va M a v → EvO N t n l w E X fs vs B m d σ M s (.leaf k) a c (.inr v) := by
      intro v e0 hv
      refine ⟨σ, M, 1, Rn1.jm hMF hMt (fun k' => ?_), hv, by show 1 + _ ≤ 2 * 1 + _; omega⟩
      rw [L70w (k := k') hMF.1 (by omega) (Or.inl (by decide)) e0 (by omega) hB, wk0 hMF.1 (by omega), ob_some]
    have wkd : ∀ op v, (op < 4 ∧ op ≠ 3 ∨ 8 < op ∧ op < 23) → op ≠ 0 → M a 0 = nI op → Wk N t n σ M a op v → EvO N t n l w E X fs vs B m d σ M s (.leaf k) a c (.inr v) := by
      intro op v ho ho0 e0 hw
      obtain ⟨σ', M', r1, r2, r3⟩ := Rn1.wk (N := N) (d := d) (B := B) (s := s) ht hMF hMt hDJ (Nat.le_refl a) (Nat.lt_succ_self a) (by omega) (by rw [e0]; exact nik (m := 0) (by omega) (by decide) ho0) (fun k' => L70w (k := k') hMF.1 (by omega) ho e0 (by omega) hB) hw
      exact ⟨σ', M', 1, r1, r2, by rw [phi2_eq m (fun j _ => r3 j)]; show 1 + _ ≤ 2 * 1 + _; omega⟩
    unfold evl
    rcases hCr with ⟨k1, n0, n6, n7⟩ | ⟨k1, n0, n6, n7⟩ | ⟨k1, n0, n6, n7⟩ | ⟨k1, j, hf, lt, hCr⟩
    · rw [if_pos k1]
      exact val _ n0 ⟨by rw [n6]; exact (lg_l2i_i2l _).symm, n7⟩
    · rw [if_neg (by omega), if_pos k1]
      exact val _ n0 ⟨n6, n7⟩
    · rw [if_neg (by omega), if_neg (by omega), if_pos k1]
      exact val _ n0 ⟨n6, n7⟩
    · rw [if_neg (by omega), if_neg (by omega), if_neg (by omega), hf]
      show EvO N t n l w E X fs vs B m d σ M s (.leaf k) a c (fvn l w E vs j)
      have jm : j < m := by
        obtain ⟨j', z1, z2⟩ := hNB k1
        rw [hf] at z1
        injection z1 with z1
        omega
      rcases hCr with ⟨s1, n0, n6, n7⟩ | ⟨s1, n0, n2⟩ | ⟨s1, n0, n2, n7⟩
      · have e : fvn l w E vs j = .inr (E.getD j eN).2.2.2.2.1 := by
          unfold fvn evn
          rw [if_pos s1]
        rw [e]
        exact val _ n0 ⟨n6, n7⟩
      · -- a formula
        obtain ⟨f1, f2, f3, f4, f5⟩ := SF2 j lt s1
        obtain ⟨g1, g2, g3, g4, g5, g6⟩ := hMF.2.2.2.2.2 j lt s1
        have pT := tln_pos (fTr E j)
        have e : fvn l w E vs j = evl l w E (fvn l w E vs) (fTr E j) false := by
          have e1 : fvn l w E vs j = evl l w E (fun j' => (fvs l w E vs j).getD j' (.inl (0, 0))) (fTr E j) false := by
            show evn l w E vs (fvs l w E vs j) (E.getD j eN) = _
            unfold evn
            rw [if_neg (by omega), if_neg (by omega)]
            rfl
          rw [e1]
          exact evl_cg (fun j' hj' => fvs_get l w E vs j j' hj') (fTr E j) false f2 f4
        have met : ∀ (σ1 : st_S) (M1 : Nat → Nat → Int32) (s1' : Nat) (v : Int64 × Int64), MF σ1 t n M1 l w E X fs → Mtt l w E X fs vs σ1 M1 → DJ E X fs σ1 m a (a + 1) → M1 a 0 = nI 3 → M1 a 2 = nI (X j) → gE σ1 44 (X j) = gI σ1 42 5 → fvn l w E vs j = .inr v → s1' < B → ∃ σ' M', Rn1 N t n l w E X fs vs m d B σ1 M1 s1' a (a + 1) a (a + 1) 1 σ' M' ∧ Va M' a v ∧ (∀ j, trm E X σ' j = trm E X σ1 j) := by
          intro σ1 M1 s1' v a1 a2 a3 a4 a5 a6 a7 a8
          obtain ⟨v', v1, v2⟩ := a2 j lt s1 a6
          have : v' = v := by rw [a7] at v1; injection v1 with v1; exact v1.symm
          subst this
          obtain ⟨b1, b2, b3, b4, b5, b6⟩ := a1.2.2.2.2.2 j lt s1
          exact Rn1.wk (N := N) (d := d) (B := B) (s := s1') ht a1 a2 a3 (Nat.le_refl a) (Nat.lt_succ_self a) (by omega) (by rw [a4]; decide) (fun k' => L70m (k := k') a1.1 (by omega) a4 a5 f1 a1.2.2.1 a6 a8 hB) (wk3 ht a1.1 (by omega) a4 a5 f1 a1.2.2.2.2.1 b1 b2 b4 (by omega) v2)
        by_cases hm : gE σ 44 (X j) = gI σ 42 5
        · obtain ⟨v, v1, v2⟩ := hMt j lt s1 hm
          rw [v1]
          obtain ⟨σ', M', r1, r2, r3⟩ := met σ M s v hMF hMt hDJ n0 n2 hm v1 (by omega)
          exact ⟨σ', M', 1, r1, r2, by rw [phi2_eq m (fun j _ => r3 j)]; show 1 + _ ≤ 2 * 1 + _; omega⟩
        · -- it is called
          have nf1 : nfo E j + 1 ≤ nfo E m := by
            have h1 : nfo E (j + 1) = nfo E j + 1 := by rw [nfo_s, if_pos s1]
            have := nfo_le (E := E) (show j + 1 ≤ m by omega)
            omega
          have tj : trm E X σ j = 2 * tln (fTr E j) + 2 := if_pos ⟨s1, hm⟩
          have call := fun k' => L70c (N := N) (B := B) (k := k') hMF.1 (show a < n by omega) n0 n2 f1 hMF.2.2.1 hMF.2.2.2.1 hMF.2.2.2.2.1 hm (show d < 60 by omega) g1 g2 g5 (show s < B by omega) hB
          have ne : ∀ b i, b ≠ 45 → gE (st_e σ 45 d (nI a)) b i = gE σ b i := fun b i z => st_u_a _ _ _ _ z
          have cCS : CS (st_e σ 45 d (nI a)) t n M := hMF.1.x (by omega) _
          have cMF : MF (st_e σ 45 d (nI a)) t n M l w E X fs := ⟨cCS, hMF.2.1, hMF.2.2.1, hMF.2.2.2.1, hMF.2.2.2.2.1, fun j' h1 h2 => by rw [ne (t + 14) _ (by omega)]; exact hMF.2.2.2.2.2 j' h1 h2⟩
          have cMt : Mtt l w E X fs vs (st_e σ 45 d (nI a)) M := fun j' h1 h2 h3 => hMt j' h1 h2 (by rw [ne 44 _ (by decide)] at h3; exact h3)
          have ct : ∀ j', trm E X (st_e σ 45 d (nI a)) j' = trm E X σ j' := fun j' => trm_eq (funext fun i => ne 44 i (by decide)) rfl j'
          have cDJ : DJ E X fs (st_e σ 45 d (nI a)) j (fs j) (fs j + tln (fTr E j)) := by
            intro j' h1 h2 h3
            have hne : j' ≠ j := by
              rintro rfl
              rcases h3 with z | z
              · rw [ne 44 _ (by decide)] at z; exact hm z
              · omega
            have := (SF3 j' j h1 lt h2 s1 hne).2
            omega
          have pe : phi2 E X (st_e σ 45 d (nI a)) j = phi2 E X σ j := phi2_eq j (fun j' _ => ct j')
          have split : phi2 E X σ j + trm E X σ j ≤ phi2 E X σ m := by
            have key : ∀ m', j < m' → phi2 E X σ j + trm E X σ j ≤ phi2 E X σ m' := by
              intro m'
              induction m' with
              | zero => intro z; omega
              | succ m' ih =>
                intro z
                have e1 : phi2 E X σ (m' + 1) = phi2 E X σ m' + trm E X σ m' := rfl
                by_cases c : j = m'
                · subst c; omega
                · have := ih (by omega); omega
            exact key m jm
          have R := IH j jm (by omega) (fTr E j) (st_e σ 45 d (nI a)) M (fs j) (d + 1) (s + 1) false (kdn (E.getD j eN)) f2 f4 (by
            -- a formula's kinds, whatever the item
            sorry) g6 (by omega) cMF cMt (fun v hv => by rw [ne 43 _ (by decide)]; exact hvs v hv) cDJ (by omega) (by omega)
          rw [e]
          rw [st0_n (by omega), rt0_n (by omega)] at *
          sorry
      · have e : fvn l w E vs j = .inr ((vs (X j)).toInt64, if (E.getD j eN).2.2.1 then 0 else 1) := by
          unfold fvn evn
          rw [if_neg (by omega), if_pos s1, (SF1 j lt s1).2]
        rw [e]
        refine wkd 2 _ (by decide) (by decide) n0 (wk2 ht hMF.1 (by omega) n2 (SF1 j lt s1).1 hMF.2.1 (hvs _ (SF1 j lt s1).1) n7 _ ?_)
        split <;> rfl
  | branch p l' r il ir =>
    intro σ M a d s c kd hW hNB hck hCr han hMF hMt hvs hDJ hd hs
    sorry
end EV
