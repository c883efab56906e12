/-! the reference's items: vars -/
def vnum (N g x : Nat) (l1 l3 l5 l6 l7 l8 l9 l10 : Int32) (σ : st_S) : Option st_S :=
  (F_202 N g l7 (l1 + 3) σ).bind fun p => if aB l3 (gN p.2 (g + 19)) then
    (F_202 N g l8 (l9 + 1) (st_e p.2 (g + 19) (l3 : Int32).toNatClampNeg p.1)).bind fun q =>
    if aB l3 (gN q.2 (g + 20)) then
    if aB l3 (gN q.2 (g + 19)) then
    if (gE (st_e (q.2) (g + 20) ((l3 : Int32).toNatClampNeg) q.1) (g + 20) (l3 : Int32).toNatClampNeg) < (gE (q.2) (g + 19) (l3 : Int32).toNatClampNeg) then
      J_199_340 N g x l1 l3 l5 l6 l9 l10 (st_e (q.2) (g + 20) ((l3 : Int32).toNatClampNeg) q.1)
    else
      if 10000 ≤ ((gE (st_e (q.2) (g + 20) ((l3 : Int32).toNatClampNeg) q.1) (g + 20) (l3 : Int32).toNatClampNeg) - (gE (q.2) (g + 19) (l3 : Int32).toNatClampNeg)) then
        J_199_340 N g x l1 l3 l5 l6 l9 l10 (st_e (q.2) (g + 20) ((l3 : Int32).toNatClampNeg) q.1)
      else
        if (gI q.2 66 16) = 0 then J_199_369 N g x l1 l3 l5 l6 l10 (st_e (q.2) (g + 20) ((l3 : Int32).toNatClampNeg) q.1)
        else J_199_369 N g x l1 l3 l5 l6 l10 (st_e (q.2) (g + 20) ((l3 : Int32).toNatClampNeg) q.1)
    else none
    else none
    else none
section VA
variable {N g x n k v : Nat} {σ σ0 : st_S} {D : Nat → Nat → Int32} {w : List (Nat × Nat × Nat)} {l : List Int32} {X : Tx} {fa : Nat → Nat} {b : Bool} {er : Nat × Nat} {l5 l6 l9 l10 : Int32} {R : List (Nat × Tr)} {e : Nat}
theorem J214e {l1 l3 l4 l7 l8 : Int32} (h0 : gI σ 66 16 = 0) (h4 : l4 = 0) : J_199_214 N g x l1 l3 l4 l5 l6 l7 l8 l9 σ = vnum N g x l1 l3 l5 l6 l7 l8 l9 (-1) σ := by
  unfold J_199_214
  rw [if_pos h0, if_pos h4]
  rfl
/-- a number's range and begin -/
theorem vnum_ok (G : RG0 N g x l w σ0) (h : RN g x l w σ0 σ X n D fa) (hc : NCt σ g X) (hv : v = cnt X.1 3) (hv2 : v < 12) (len : X.1.length + 1 ≤ 72) (k1l : k + 1 < w.length) (hfn : fnd l w X.1 (k + 1) = none) (h0 : gI σ 66 16 = 0) (hn : n ≤ 16400) (h18 : gE σ (g + 18) v = 0) {Tl Th : Tr} {al ah rg : Nat} (wl : Wf w Tl ∧ lev Tl ≤ 6 ∧ chk l w X.1 true Tl = .inr 1 ∧ Rt l w (Vx l w X.1) D Tl al (-1) ∧ al + rln Tl ≤ n ∧ bw Tl = k + 3) (wh : Wf w Th ∧ lev Th ≤ 6 ∧ chk l w X.1 true Th = .inr 1 ∧ Rt l w (Vx l w X.1) D Th ah (-1) ∧ ah + rln Th ≤ n ∧ bw Th = rg + 1) {i : Nat} (hi' : n ≤ i) (ob : Option Tr) {a : Nat} {init : Nat} (hob : match ob with
      | none => l6 = 0
      | some T => l6 = 1 ∧ Wf w T ∧ lev T ≤ 6 ∧ chk l w X.1 true T = .inr 1 ∧ Rt l w (Vx l w X.1) D T a (-1) ∧ a + rln T ≤ n ∧ l10 = nI a ∧ init + 1 = bw T) : ItR g x l w σ0 i (sbd (sbd (eI l w X.1 Tl) fun lo => sbd (eI l w X.1 Th) fun hi => if hi < lo ∨ ¬ hi - lo < 10000 then .inl (9, kP w (bw Th)) else match ob with
      | none => (.inr (lo, hi, lo) : Rs (Int32 × Int32 × Int32))
      | some T => sbd (eI l w X.1 T) fun q => if q < lo ∨ ¬ q ≤ hi then .inl (9, kP w (bw T)) else .inr (lo, hi, q)) fun r => .inr (X.1 ++ [(k + 1, 3, false, .leaf 0, (0, 0), r, cnt X.1 3, cnt X.1 3)], X.2.1, X.2.2)) (vnum N g x (nI k) (nI v) (nI init) l6 (nI al) (nI ah) (nI rg) l10 σ) := by
  have hg := G.1
  have hx := G.2.1
  have aV : aB (nI v) 12 := aB_nI hv2 (by decide)
  have cl : (nI v).toNatClampNeg = v := nI_clamp (by omega)
  have w18 : ∀ (s : st_S) (a : Nat) (y : Int32), a ≠ g + 18 → gE (st_e s a v y) (g + 18) v = gE s (g + 18) v := fun s a y z => by rw [gE_e, if_neg (by omega)]
  obtain ⟨l1, l2, l3, l4, l5', l6'⟩ := wl
  obtain ⟨t1, t2, t3, t4, t5, t6⟩ := wh
  have e3 : nI k + 3 = nI (bw Tl) := by rw [l6']; exact nI_add k 3
  have er1 : nI rg + 1 = nI (bw Th) := by rw [t6]; exact nI_1 rg
  have bl := (ew_le t1).2
  have K := F202 (N := N) G h h0 hn l1 l2 l3 l4 l5'
  -- behind a fault all ways lead on
  have tail : ∀ (s : st_S) (er : Nat × Nat), RM g x l w X.1 σ0 s n D → gE s (g + 18) v = 0 → gI s 66 16 = nI er.1 → ¬ nI er.1 = 0 → gI s 66 17 = nI er.2 → ∀ (c1 c2 : Prop) [Decidable c1] [Decidable c2], RFl g x l w σ0 er (if c1 then J_199_340 N g x (nI k) (nI v) (nI init) l6 (nI rg) l10 s else if c2 then J_199_340 N g x (nI k) (nI v) (nI init) l6 (nI rg) l10 s else J_199_369 N g x (nI k) (nI v) (nI init) l6 l10 s) := by
    intro s er hM e18 f1 f0 f2 c1 c2 _ _
    have j : J_199_340 N g x (nI k) (nI v) (nI init) l6 (nI rg) l10 s = J_199_369 N g x (nI k) (nI v) (nI init) l6 l10 s := by
      unfold J_199_340
      rw [if_neg (by rw [f1]; exact f0)]
    rw [j, ite_self, ite_self]
    exact J369f (b := false) G hM e18 hv2 len f1 f0 f2
  unfold vnum
  rw [e3, er1]
  cases hvl : eI l w X.1 Tl with
  | inl er =>
    rw [hvl] at K
    rw [sbd_l, sbd_l]
    obtain ⟨s1, z, k1, k2, k3, k4, k5, k6⟩ := K
    have hl1 := k4.2.1.2.1
    have f2 : F_202 N g (nI ah) (nI (bw Th)) (st_e s1 (g + 19) v z) = some (0, st_e s1 (g + 19) v z) := by
      unfold F_202
      rw [if_neg (show ¬ gI (st_e s1 (g + 19) v z) 66 16 = 0 from fun q => k6 (k2.symm.trans q))]
    rw [k1, ob_some]
    simp only [cl]
    rw [hl1 (g + 19) (by omega) (by omega), if_pos aV, f2, ob_some]
    dsimp only
    have hl2 : gN (st_e s1 (g + 19) v z) = gN s1 := rfl
    rw [hl2, hl1 (g + 20) (by omega) (by omega), hl1 (g + 19) (by omega) (by omega), if_pos aV, if_pos aV, ite_self]
    refine tail _ er ((k4.e hg hx z (by omega)).e hg hx 0 (by omega)) ?_ k2 k6 k3 _ _
    rw [w18 _ _ _ (by omega), w18 _ _ _ (by omega), fw_k k5 (by omega)]
    exact h18
  | inr lo =>
    rw [hvl] at K
    rw [sbd_r]
    obtain ⟨s1, k1, k2, k3, k4⟩ := K
    have hl1 := k3.1.2.1.2.1
    have q2 := k3.e3 hg hx (a := g + 19) (r := v) lo (by omega) hv
    have K := F202 (N := N) G q2 k2 hn t1 t2 t3 t4 t5
    rw [k1, ob_some]
    simp only [cl]
    rw [hl1 (g + 19) (by omega) (by omega), if_pos aV]
    have c1' : NCt (st_e s1 (g + 19) v lo) g X := NCt.eq (hc.fw hg k4) rfl
    have x18 : gE (st_e s1 (g + 19) v lo) (g + 18) v = 0 := by rw [w18 _ _ _ (by omega), fw_k k4 (by omega)]; exact h18
    have x19 : gE (st_e s1 (g + 19) v lo) (g + 19) v = lo := by rw [gE_e, if_pos ⟨rfl, rfl⟩]
    generalize hs1 : st_e s1 (g + 19) v lo = s1' at q2 K c1' x18 x19 ⊢
    cases hvh : eI l w X.1 Th with
    | inl er =>
      rw [hvh] at K
      rw [sbd_l, sbd_l]
      obtain ⟨s2, z, m1, m2, m3, m4, m5, m6⟩ := K
      have hl2 := m4.2.1.2.1
      rw [m1, ob_some]
      dsimp only
      rw [hl2 (g + 20) (by omega) (by omega), hl2 (g + 19) (by omega) (by omega), if_pos aV, if_pos aV, ite_self]
      refine tail _ er (m4.e hg hx z (by omega)) ?_ m2 m6 m3 _ _
      rw [w18 _ _ _ (by omega), fw_k m5 (by omega)]
      exact x18
    | inr hi =>
      rw [hvh] at K
      rw [sbd_r]
      obtain ⟨s2, m1, m2, m3, m4⟩ := K
      have hl2 := m3.1.2.1.2.1
      have y18 : gE s2 (g + 18) v = 0 := by rw [fw_k m4 (by omega)]; exact x18
      have y19 : gE s2 (g + 19) v = lo := by rw [fw_k m4 (by omega)]; exact x19
      have y20 : gE (st_e s2 (g + 20) v hi) (g + 20) v = hi := by rw [gE_e, if_pos ⟨rfl, rfl⟩]
      have q3 := m3.e3 hg hx (a := g + 20) (r := v) hi (by omega) hv
      have c3 : NCt (st_e s2 (g + 20) v hi) g X := NCt.eq (c1'.fw hg m4) rfl
      have z18 : gE (st_e s2 (g + 20) v hi) (g + 18) v = 0 := by rw [w18 _ _ _ (by omega)]; exact y18
      have z19 : gE (st_e s2 (g + 20) v hi) (g + 19) v = lo := by rw [gE_e, if_neg (by omega)]; exact y19
      have f3 : gI (st_e s2 (g + 20) v hi) 66 16 = 0 := m2
      rw [m1, ob_some]
      dsimp only
      rw [hl2 (g + 20) (by omega) (by omega), hl2 (g + 19) (by omega) (by omega), if_pos aV, if_pos aV, ite_self, y20, y19]
      generalize st_e s2 (g + 20) v hi = s3 at q3 c3 z18 z19 f3 y20 ⊢
      have bad : RFl g x l w σ0 (9, kP w (bw Th)) (J_199_340 N g x (nI k) (nI v) (nI init) l6 (nI rg) l10 s3) := by
        obtain ⟨s4, b1, b2, b3, b4⟩ := q3.1.st (N := N) hg hx 9 (kP w (bw Th))
        have e18 : gE s4 (g + 18) v = 0 := by
          injection b1 with b1
          rw [← b1]
          exact z18
        unfold J_199_340
        rw [if_pos f3, er1, F159 q3.1.1.2.1 bl, ob_some]
        dsimp only
        have b1 : F_165 N 9 (nI (kP w (bw Th))) s3 = some s4 := b1
        rw [b1, ob_some]
        exact J369f (b := false) (er := (9, kP w (bw Th))) G b4 e18 hv2 len b2 (by show ¬ nI 9 = 0; decide) b3
      by_cases y1 : hi < lo
      · rw [if_pos y1, if_pos (Or.inl y1), sbd_l]
        exact bad
      · rw [if_neg y1]
        by_cases y2 : 10000 ≤ hi - lo
        · rw [if_pos y2, if_pos (Or.inr (Int32.not_lt.mpr y2)), sbd_l]
          exact bad
        · rw [if_neg y2, if_neg (fun z => z.elim y1 (fun q => y2 (Int32.not_lt.mp q)))]
          have J := J369s (b := false) (k := k) (l6 := l6) (l10 := l10) G q3 c3 hv hv2 len k1l hfn f3 hn z18 z19 y20 hi' ob (a := a) (init := init) (by cases ob with
            | none => exact hob
            | some T => exact hob)
          cases ob with
          | none => exact J
          | some T => exact J
/-- one fault, or else another -/
def orE (a : Option (Nat × Nat)) (b : Rs Nat) : Option (Nat × Nat) := match a with
  | some e => some e
  | none => match b with
    | .inl e => some e
    | .inr _ => none
theorem rul_vs {E : List En} {r : Nat} {T : Tr} (hr : r = 1 ∨ r = 2 ∨ r = 3) (h0 : wkd l w E k r T ≠ 0) : rul l w E 29 k ((r, T) :: R) = orE (rul l w E 29 k R) (rok l w E true (wkd l w E k r T) T) := by
  have e1 : ahd l w E R r T = none := by
    unfold ahd
    rw [if_neg (by omega), if_neg (by omega)]
  conv => lhs; unfold rul
  rw [e1]
  cases rul l w E 29 k R with
  | some e => rfl
  | none =>
    dsimp only
    unfold rok orE
    show (match chk l w E true T with
      | .inl e => some e
      | .inr kd => if wkd l w E k r T = 0 ∨ kd = wkd l w E k r T then none else some (3, kP w (bw T))) = _
    cases chk l w E true T with
    | inl e => rfl
    | inr kd =>
      dsimp only
      by_cases c : kd = wkd l w E k r T
      · rw [if_pos (Or.inr c), if_pos c]
      · rw [if_neg (fun z => z.elim h0 c), if_neg c]
theorem rok_i {E : List En} {co : Bool} {kw kd : Nat} {T : Tr} (h : rok l w E co kw T = .inr kd) : chk l w E co T = .inr kw := by
  unfold rok at h
  cases hc : chk l w E co T with
  | inl e => rw [hc] at h; cases h
  | inr k' =>
    rw [hc] at h
    dsimp only at h
    by_cases c : k' = kw
    · rw [c]
    · rw [if_neg c] at h; cases h
theorem rok_e {E : List En} {co : Bool} {kw : Nat} {T : Tr} {e : Nat × Nat} (h : rok l w E co kw T = .inl e) : ¬ nI e.1 = 0 := by
  unfold rok at h
  cases hc : chk l w E co T with
  | inl e' =>
    rw [hc] at h
    injection h with h
    rw [← h]
    rcases chk_er hc with z | z <;> (rw [z]; decide)
  | inr k' =>
    rw [hc] at h
    dsimp only at h
    by_cases c : k' = kw
    · rw [if_pos c] at h; cases h
    · rw [if_neg c] at h
      injection h with h
      rw [← h]
      show ¬ nI 3 = 0
      decide
end VA
