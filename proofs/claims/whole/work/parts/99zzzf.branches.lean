/-! the reference works out: branches -/
section EB
variable {N g n : Nat} {σ σ0 σ1 : st_S} {D : Nat → Nat → Int32} {w : List (Nat × Nat × Nat)} {l : List Int32} {E : List En} {vs : Nat → Int32} {fa : Nat → Nat} {cc : Bool} {m m' : Nat} {B R : List (Nat × Nat)} {V ks : List (Int64 × Int64)} {T x y : Tr} {p a : Nat} {nx : Int32} {VV : Nat → Int32 → Prop}
theorem rt_i0 (h : tcl (p % 64) = 0) (hR : Rt l w VV D (.branch p x y) a nx) : Rt l w VV D x a (nI (a + rln x)) ∧ Rt l w VV D y (a + rln x) nx := by
  unfold Rt at hR
  rw [if_pos h] at hR
  exact hR
theorem rt_i1 (h : tcl (p % 64) = 1) (hR : Rt l w VV D (.branch p x y) a nx) : Rt l w VV D y a nx := by
  unfold Rt at hR
  rw [if_neg (by omega), if_pos h] at hR
  exact hR
theorem rt_i2 (h : tcl (p % 64) = 2) (hR : Rt l w VV D (.branch p x y) a nx) : D a 0 = nI (nso w p) ∧ D a 1 = nI (kP w (p / 64)) ∧ D a 4 = nI (a + 1) ∧ Rt l w VV D y (a + 1) (-1) := by
  unfold Rt at hR
  rw [if_neg (by omega), if_neg (by omega), if_pos h] at hR
  exact ⟨hR.1.1.1, hR.1.1.2.1, hR.1.2.1, hR.2⟩
theorem rt_i3 (h : tcl (p % 64) = 3) (hR : Rt l w VV D (.branch p x y) a nx) : D a 0 = nI (nso w p) ∧ D a 1 = nI (kP w (p / 64)) ∧ D a 4 = nI (a + 1) ∧ Rt l w VV D x (a + 1) (nI (a + 1 + rln x)) ∧ Rt l w VV D y (a + 1 + rln x) (-1) := by
  unfold Rt at hR
  rw [if_neg (by omega), if_neg (by omega), if_neg (by omega)] at hR
  exact ⟨hR.1.1.1, hR.1.1.2.1, hR.1.2.1, hR.2.1, hR.2.2⟩
theorem rtc_n {c : Bool} (h : lev T ≠ 8) : rtc T a c = rts T a := by
  cases T with
  | leaf k => rfl
  | branch p x y =>
    show (if p % 64 = 37 then _ else _) = _
    rw [if_neg]
    intro z
    apply h
    show lvo (p % 64) = 8
    rw [z]
    rfl
/-- the root's next -/
theorem rt_5 (hw : Wf w T) (h6 : lev T ≤ 6) (hR : Rt l w VV D T a nx) : D a 5 = nx := by
  have := hR.pc
  rw [rts_6 a hw h6] at this
  exact this.2
theorem WOc.ty {T' : Tr} {b b' : Nat} {o : Rs (Int64 × Int64)} (h : WOc N g l w E vs m σ0 σ B V T b o) (h1 : lev T ≠ 7) (h2 : lev T' ≠ 7) (hb : b ≤ b') : WOc N g l w E vs m σ0 σ B V T' b' o := by
  cases o with
  | inl e =>
    obtain ⟨σ', c, a1, a2⟩ := h
    exact ⟨σ', c, by omega, a2⟩
  | inr v =>
    obtain ⟨σ', c, ks, a1, a2, a3, a4, a5⟩ := h
    have e := a4.1 h1
    subst e
    exact ⟨σ', c, [v], by omega, a2, a3, Fks.one h2 v, rln_pos T'⟩
theorem gw_ok (G : GW N g n l w E vs fa cc m σ0 D) {co : Bool} (hcc : cc = true → co = true) {T : Tr} {c : Bool} {kd : Nat} {v : Int64 × Int64} (hw : Wf w T) (hck : chk l w E co T = .inr kd) (hk : kd ≠ 0) (hv : evl l w E (fvn l w E vs) T c = .inr v) : okv kd v := by
  obtain ⟨-, -, -, -, -, -, hn, -, -, hf⟩ := G
  exact evl_ok (co := co) hn (fun j hj hc => hf j hj (fun z => hc (hcc z))) T c kd v hw hck hk hv
/-- one part: minus, not, the best of a list -/
theorem ew_un (G : GW N g n l w E vs fa cc m σ0 D) (cu : p % 64 = 9 ∨ p % 64 = 16 ∨ p % 64 = 22) (ih : EvR N g n l w E vs fa cc m σ0 D m' y) : EvR N g n l w E vs fa cc m σ0 D m' (.branch p x y) := by
  intro co σ B V a nx c kd b hcc hw hNB hck hkd hR ha hb hQ hB hV
  have hN := G.2.1
  have hn := G.2.2.2.2.1
  have K2 := Kc_2 m'
  have ht : tcl (p % 64) = 2 := by unfold tcl; rw [if_neg (by omega), if_neg (by omega), if_pos (by omega)]
  have eu : un (p % 64) = true := by simp only [un, Bool.or_eq_true, decide_eq_true_eq]; omega
  have er : rln (.branch p x y) = rln y + 1 := rln_2 ht
  rw [er] at ha hB hV
  obtain ⟨d0, d1, d4, hRy⟩ := rt_i2 ht hR
  have rc : rtc (.branch p x y) a c = [a] := by
    show (if p % 64 = 37 then _ else _) = _
    rw [if_neg (by omega)]
    exact rts_2 (Or.inl ht)
  rw [rc] at hQ
  have hQ : WQ l w E vs m σ0 σ (B ++ [(0, a)]) V := hQ
  have hT : lev (.branch p x y) ≠ 7 := by
    show lvo (p % 64) ≠ 7
    rcases cu with z | z | z <;> (rw [z]; decide)
  have sy : Wf w y ∧ lev y ≤ 7 ∧ nso w p < 46 ∧ (nso w p ≠ 1 ∧ nso w p ≠ 2 ∧ nso w p ≠ 12 ∧ nso w p ≠ 13 ∧ nso w p ≠ 29 ∧ nso w p ≠ 30 ∧ nso w p ≠ 32) ∧ (p % 64 = 9 → lev y ≤ 6 ∧ nso w p = 45) ∧ (p % 64 = 16 → lev y ≤ 6 ∧ nso w p = 31) ∧ (p % 64 = 22 → (nso w p = 14 ∨ nso w p = 15) ∧ fo (nso w p + 6 + 64 * (p / 64)) y) := by
    unfold nso
    rcases hw.br with ⟨c', h1', h2', h3, h4⟩ | ⟨c', h1', h2', h3, h4⟩ | ⟨c', -⟩ | ⟨c', h1', h2', h3, h4, h5, h6, h7⟩ | ⟨c', -⟩ | ⟨c', -⟩ | ⟨c', -⟩ | ⟨c', -⟩
    · rw [if_pos c']
      exact ⟨h2', by omega, by decide, by decide, fun _ => ⟨by omega, rfl⟩, fun z => by omega, fun z => by omega⟩
    · rw [if_neg (by omega), h1']
      exact ⟨h2', by omega, by decide, by decide, fun z => by omega, fun _ => ⟨by omega, rfl⟩, fun z => by omega⟩
    · omega
    · rw [if_neg (by omega)]
      exact ⟨h3, h6, by omega, by omega, fun z => by omega, fun z => by omega, fun _ => ⟨h1', h7⟩⟩
    · omega
    · omega
    · omega
    · have := bin_f c'; omega
  obtain ⟨hwy, ly7, s46, sne, s9, s16, s22⟩ := sy
  unfold chk at hck
  rw [if_pos eu] at hck
  obtain ⟨ka, hka, hku⟩ := sbd_i hck
  have kk : (p % 64 = 16 → ka = 2) ∧ (p % 64 ≠ 16 → ka = 1) ∧ ka ≠ 0 := by
    unfold ku at hku
    rw [if_neg (by omega)] at hku
    by_cases c16 : p % 64 = 16
    · rw [if_pos c16] at hku
      split at hku
      · omega
      · cases hku
    · rw [if_neg c16] at hku
      split at hku
      · omega
      · cases hku
  obtain ⟨k16, k1, ka0⟩ := kk
  have cl : (rts y (a + 1)).length ≤ rln y := rts_len y (a + 1)
  have ce : 1 ≤ (rts y (a + 1)).length := by
    have := rts_ne y (a + 1)
    cases h : rts y (a + 1) with
    | nil => exact absurd h this
    | cons z Z => exact Nat.succ_le_succ (Nat.zero_le _)
  have hpk : Pk D (D a 4) (rts y (a + 1)) := by rw [d4]; exact hRy.pc.pk
  have hcs : ∀ q ∈ rts y (a + 1), q < n := fun q hq => by have := rts_b hq; omega
  obtain ⟨s2, a1, a2, -⟩ := L185s (N := N) (g := g) hQ
  obtain ⟨s3, b1, b2⟩ := F187d (N := N) G a1 (a := a) (by omega) d0 s46 sne hpk hcs ce (by omega)
  have go := a2 rfl s3 b1
  have W := ih co s3 (B ++ [(1, a)]) V (a + 1) (-1) false ka b hcc hwy hNB.2 hka ka0 hRy (by omega) hb (by rw [rtc_n (by omega)]; exact b2) (by rw [List.length_append]; show B.length + 1 + _ + _ ≤ _; omega) (by omega)
  have em : (rln y + 1) * Kc m' = rln y * Kc m' + Kc m' := by rw [Nat.add_mul, Nat.one_mul]
  rw [er]
  unfold evl
  rw [if_pos eu]
  cases hv : evl l w E (fvn l w E vs) y false with
  | inl e =>
    rw [hv] at W
    rw [sbd_l]
    exact wo_e W go (by rw [em]; omega)
  | inr u =>
    rw [hv] at W
    rw [sbd_r]
    obtain ⟨s5, c5, ks, e1, e2, e3, e4, e5⟩ := W
    have ou : okv ka u := gw_ok G hcc hwy hka ka0 hv
    have kl : ks.length = (rts y (a + 1)).length := by
      by_cases c7 : lev y = 7
      · exact (e4.2.2 c7).2 _
      · rw [e4.1 c7, rts_6 _ hwy (by omega)]
        rfl
    refine (wo_fin (T := .branch p x y) (o := .inr (vu (p % 64) u)) G e3 (by omega) d0 d1 hpk hcs (by omega) (fun s2 h2 f => ?_) hT rfl (fun f z => by cases z)).pr (c := c5 + 1) (fun f => by rw [← Nat.add_assoc, go, e2]) (by rw [em]; omega)
    rcases cu with z | z | z
    · obtain ⟨y6, ys⟩ := s9 z
      have ek := e4.1 (by omega)
      subst ek
      rw [z, ys, ← kl]
      exact F192_9 h2.2.2.1 (by omega) f
    · obtain ⟨y6, ys⟩ := s16 z
      have ek := e4.1 (by omega)
      subst ek
      rw [k16 z] at ou
      rw [z, ys, ← kl]
      exact F192_16 h2.2.2.1 (by omega) ou f
    · obtain ⟨ys, yf⟩ := s22 z
      rw [k1 (by omega)] at ou
      obtain ⟨k0, ks', f1, f2⟩ := e4.2.1 ly7 _ yf
      have fo6 : (nso w p + 6 + 64 * (p / 64)) % 64 = nso w p + 6 := by omega
      rw [fo6] at f2
      have vu22 : vu (p % 64) u = ks'.foldl (bst (nso w p + 6)) k0 := by
        unfold vu
        rw [if_neg (by omega), if_neg (by omega), f2]
      rw [vu22, ← kl]
      refine F192_l (by omega) ys h2.2.2.1 (by omega) f1 (fun k hk => ?_) f
      by_cases c7 : lev y = 7
      · exact (e4.2.2 c7).1 k hk
      · rw [e4.1 c7] at hk
        rw [List.mem_singleton.mp hk]
        exact ou
/-- brackets -/
theorem ew_35 (cu : p % 64 = 35) (ih : EvR N g n l w E vs fa cc m σ0 D m' y) : EvR N g n l w E vs fa cc m σ0 D m' (.branch p x y) := by
  intro co σ B V a nx c kd b hcc hw hNB hck hkd hR ha hb hQ hB hV
  have ht : tcl (p % 64) = 1 := by rw [cu]; rfl
  have eu : un (p % 64) = true := by rw [cu]; rfl
  have er : rln (.branch p x y) = rln y := rln_1 ht
  rw [er] at ha hB hV ⊢
  have hRy := rt_i1 ht hR
  have sy : Wf w y ∧ lev y ≤ 6 := by
    rcases hw.br with ⟨c', -⟩ | ⟨c', -⟩ | ⟨c', -, h1, -, -, h2⟩ | ⟨c', -⟩ | ⟨c', -⟩ | ⟨c', -⟩ | ⟨c', -⟩ | ⟨c', -⟩
    · omega
    · omega
    · exact ⟨h1, h2⟩
    · omega
    · omega
    · omega
    · omega
    · have := bin_f c'; omega
  have rc : rtc (.branch p x y) a c = rts y a := by
    show (if p % 64 = 37 then _ else _) = _
    rw [if_neg (by omega)]
    exact rts_1 ht
  unfold chk at hck
  rw [if_pos eu] at hck
  obtain ⟨ka, hka, hku⟩ := sbd_i hck
  have kk : ka = kd := by
    unfold ku at hku
    rw [if_pos cu] at hku
    injection hku
  subst kk
  rw [rc] at hQ
  have W := ih co σ B V a nx false ka b hcc sy.1 hNB.2 hka hkd hRy ha hb (by rw [rtc_n (by omega)]; exact hQ) hB hV
  have ee : evl l w E (fvn l w E vs) (.branch p x y) c = evl l w E (fvn l w E vs) y false := by
    conv => lhs; unfold evl
    rw [if_pos eu]
    cases evl l w E (fvn l w E vs) y false with
    | inl e => rfl
    | inr u =>
      rw [sbd_r]
      unfold vu
      rw [if_neg (by omega), if_neg (by omega)]
  rw [ee]
  exact W.ty (by omega) (by show lvo (p % 64) ≠ 7; rw [cu]; decide) (Nat.le_refl _)
/-- one of two -/
theorem ew_37 (cu : p % 64 = 37) (ihx : EvR N g n l w E vs fa cc m σ0 D m' x) (ih : EvR N g n l w E vs fa cc m σ0 D m' y) : EvR N g n l w E vs fa cc m σ0 D m' (.branch p x y) := by
  intro co σ B V a nx c kd b hcc hw hNB hck hkd hR ha hb hQ hB hV
  have ht : tcl (p % 64) = 0 := by rw [cu]; rfl
  have eu : un (p % 64) = false := by rw [cu]; rfl
  have er : rln (.branch p x y) = rln x + rln y := rln_0 ht
  rw [er] at ha hB hV ⊢
  obtain ⟨hRx, hRy⟩ := rt_i0 ht hR
  have sy : Wf w x ∧ lev x ≤ 6 ∧ Wf w y ∧ lev y ≤ 6 := by
    rcases hw.br with ⟨c', -⟩ | ⟨c', -⟩ | ⟨c', -⟩ | ⟨c', -⟩ | ⟨c', -⟩ | ⟨c', -⟩ | ⟨c', h1, h2, h3, h4, h5, h6⟩ | ⟨c', -⟩
    · omega
    · omega
    · omega
    · omega
    · omega
    · omega
    · exact ⟨h1, h5, h2, h6⟩
    · have := bin_f c'; omega
  unfold chk at hck
  rw [eu, if_neg Bool.false_ne_true] at hck
  obtain ⟨ka, hka, hck⟩ := sbd_i hck
  obtain ⟨kb, hkb, hkr⟩ := sbd_i hck
  have kk : ka = kd ∧ kb = kd := by
    unfold kr at hkr
    rw [if_neg (by omega), if_neg (by omega), if_neg (by omega), if_pos cu] at hkr
    injection hkr with hkr
    split at hkr <;> omega
  obtain ⟨k1, k2⟩ := kk
  rw [k1] at hka
  rw [k2] at hkb
  have hT : lev (.branch p x y) ≠ 7 := by show lvo (p % 64) ≠ 7; rw [cu]; decide
  have em : (rln x + rln y) * Kc m' = rln x * Kc m' + rln y * Kc m' := Nat.add_mul ..
  have rc : rtc (.branch p x y) a c = if c = true then rts x a else rts y (a + rln x) := by
    show (if p % 64 = 37 then _ else _) = _
    rw [if_pos cu]
  have ee : evl l w E (fvn l w E vs) (.branch p x y) c = if c = true then evl l w E (fvn l w E vs) x false else evl l w E (fvn l w E vs) y false := by
    conv => lhs; unfold evl
    rw [eu, if_neg Bool.false_ne_true, if_pos cu]
  rw [rc] at hQ
  rw [ee]
  cases c with
  | true =>
    rw [if_pos rfl] at hQ ⊢
    have W := ihx co σ B V a _ false kd b hcc sy.1 (hNB.1 eu) hka hkd hRx (by omega) hb (by rw [rtc_n (by omega)]; exact hQ) (by omega) (by omega)
    exact W.ty (by omega) hT (by omega)
  | false =>
    rw [if_neg Bool.false_ne_true] at hQ ⊢
    have W := ih co σ B V (a + rln x) nx false kd b hcc sy.2.2.1 hNB.2 hkb hkd hRy (by omega) hb (by rw [rtc_n (by omega)]; exact hQ) (by omega) (by omega)
    exact W.ty (by omega) hT (by omega)
end EB
