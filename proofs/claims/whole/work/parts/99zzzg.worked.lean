/-! the reference works out: two parts; every rule -/
section EC
variable {N g n : Nat} {σ σ0 σ1 : st_S} {D : Nat → Nat → Int32} {w : List (Nat × Nat × Nat)} {l : List Int32} {E : List En} {vs : Nat → Int32} {fa : Nat → Nat} {cc : Bool} {m m' : Nat} {B R : List (Nat × Nat)} {V ks : List (Int64 × Int64)} {T x y : Tr} {p a : Nat} {nx : Int32}
theorem lL_6 (op : Nat) : lL op ≤ 6 := by
  unfold lL
  repeat' split
  all_goals decide
theorem lR_6 (op : Nat) : lR op ≤ 6 := by
  unfold lR
  repeat' split
  all_goals decide
/-- lists -/
theorem ew_list (G : GW N g n l w E vs fa cc m σ0 D) (cu : p % 64 = 20 ∨ p % 64 = 21) (ihx : EvR N g n l w E vs fa cc m σ0 D m' x) (ih : EvR N g n l w E vs fa cc m σ0 D m' y) : EvR N g n l w E vs fa cc m σ0 D m' (.branch p x y) := by
  intro co σ B V a nx c kd b hcc hw hNB hck hkd hR ha hb hQ hB hV
  have ht : tcl (p % 64) = 0 := by unfold tcl; rw [if_pos (by omega)]
  have eu : un (p % 64) = false := by rcases cu with z | z <;> (rw [z]; rfl)
  have er : rln (.branch p x y) = rln x + rln y := rln_0 ht
  rw [er] at ha hB hV ⊢
  obtain ⟨hRx, hRy⟩ := rt_i0 ht hR
  have sy : Wf w x ∧ lev x ≤ 7 ∧ Wf w y ∧ lev y ≤ 6 := by
    rcases hw.br with ⟨c', -⟩ | ⟨c', -⟩ | ⟨c', -⟩ | ⟨c', -⟩ | ⟨c', h1, h2, h3, h4, h5, h6⟩ | ⟨c', -⟩ | ⟨c', -⟩ | ⟨c', -⟩
    · omega
    · omega
    · omega
    · omega
    · exact ⟨h1, h5, h2, h6⟩
    · omega
    · omega
    · have := bin_f c'; omega
  unfold chk at hck
  rw [eu, if_neg Bool.false_ne_true] at hck
  obtain ⟨ka, hka, hck⟩ := sbd_i hck
  obtain ⟨kb, hkb, hkr⟩ := sbd_i hck
  have kk : ka = 1 ∧ kb = 1 := by
    unfold kr at hkr
    rw [if_neg (by omega), if_neg (by omega), if_neg (by omega), if_neg (by omega), if_pos cu] at hkr
    injection hkr with hkr
    split at hkr
    · assumption
    · omega
  obtain ⟨k1, k2⟩ := kk
  rw [k1] at hka
  rw [k2] at hkb
  have hT : lev (.branch p x y) = 7 := by
    show lvo (p % 64) = 7
    rcases cu with z | z <;> (rw [z]; rfl)
  have em : (rln x + rln y) * Kc m' = rln x * Kc m' + rln y * Kc m' := Nat.add_mul ..
  have rc : rtc (.branch p x y) a c = rts x a ++ rts y (a + rln x) := by
    rw [rtc_n (by omega)]
    exact rts_0 ht
  rw [rc, List.reverse_append, kz_app, ← List.append_assoc] at hQ
  have ly : (rts y (a + rln x)).length ≤ rln y := rts_len y _
  have W := ihx co σ (B ++ kz (rts y (a + rln x)).reverse) V a _ false 1 b hcc sy.1 (hNB.1 eu) hka (by decide) hRx (by omega) hb (by rw [rtc_n (by omega)]; exact hQ) (by rw [List.length_append, kz_len, List.length_reverse]; omega) (by omega)
  unfold evl
  rw [eu, if_neg Bool.false_ne_true, if_neg (by omega)]
  cases hvx : evl l w E (fvn l w E vs) x false with
  | inl e =>
    rw [hvx] at W
    rw [sbd_l]
    exact wo_e W (c := 0) (fun _ => rfl) (by omega)
  | inr u =>
    rw [hvx] at W
    rw [sbd_r, if_neg (by omega), if_neg (by omega), if_neg (by omega)]
    obtain ⟨s1, c1, ks1, e1, e2, e3, e4, e5⟩ := W
    have W := ih co s1 B (V ++ ks1) (a + rln x) nx false 1 b hcc sy.2.2.1 hNB.2 hkb (by decide) hRy (by omega) hb (by rw [rtc_n (by omega)]; exact e3) (by omega) (by rw [List.length_append]; omega)
    cases hvy : evl l w E (fvn l w E vs) y false with
    | inl e =>
      rw [hvy] at W
      rw [sbd_l]
      exact wo_e W e2 (by omega)
    | inr v =>
      rw [hvy] at W
      rw [sbd_r]
      obtain ⟨s2, c2, ks2, f1, f2, f3, f4, f5⟩ := W
      have ek := f4.1 (by omega)
      subst ek
      have ov : okv 1 v := gw_ok G hcc sy.2.2.1 hkb (by decide) hvy
      have ou : okv 1 u := gw_ok G hcc sy.1 hka (by decide) hvx
      have evr : vr (kP w (p / 64)) (p % 64) u v = .inr (bst (p % 64) u v) := by
        unfold vr bst
        rw [if_neg (by omega)]
        rcases cu with z | z
        · rw [z, if_pos rfl]
          by_cases q : v.1 * u.2 < u.1 * v.2
          · rw [if_pos q, if_pos (btr_20.mpr q)]
          · rw [if_neg q, if_neg (fun q' => q (btr_20.mp q'))]
        · rw [z, if_neg (by decide), if_pos rfl]
          by_cases q : u.1 * v.2 < v.1 * u.2
          · rw [if_pos q, if_pos (btr_21.mpr q)]
          · rw [if_neg q, if_neg (fun q' => q (btr_21.mp q'))]
      rw [evr]
      refine ⟨s2, c2 + c1, ks1 ++ [v], by omega, fun f => by rw [← Nat.add_assoc, e2, f2], by rw [← List.append_assoc]; exact f3, ⟨fun z => absurd hT z, fun _ n0 hf => ?_, fun _ => ⟨fun k hk => ?_, fun q => ?_⟩⟩, by rw [List.length_append, er]; show ks1.length + 1 ≤ _; have := rln_pos y; omega⟩
      · obtain ⟨rfl, hfx⟩ := hf cu
        obtain ⟨k0, ks', g1, g2⟩ := e4.2.1 sy.2.1 _ hfx
        exact ⟨k0, ks' ++ [v], by rw [g1]; rfl, by rw [List.foldl_append, ← g2]; rfl⟩
      · rcases List.mem_append.mp hk with z | z
        · by_cases c7 : lev x = 7
          · exact (e4.2.2 c7).1 k z
          · rw [e4.1 c7] at z
            rw [List.mem_singleton.mp z]
            exact ou
        · rw [List.mem_singleton.mp z]
          exact ov
      · rw [rts_0 ht, List.length_append, List.length_append, rts_6 _ sy.2.2.1 sy.2.2.2]
        congr 1
        by_cases c7 : lev x = 7
        · exact (e4.2.2 c7).2 q
        · rw [e4.1 c7, rts_6 _ sy.1 (by omega)]
          rfl
/-- a choice between two by a truth -/
theorem ew_19 (G : GW N g n l w E vs fa cc m σ0 D) (cu : p % 64 = 19) (ihx : EvR N g n l w E vs fa cc m σ0 D m' x) (ih : EvR N g n l w E vs fa cc m σ0 D m' y) : EvR N g n l w E vs fa cc m σ0 D m' (.branch p x y) := by
  intro co σ B V a nx c kd b hcc hw hNB hck hkd hR ha hb hQ hB hV
  have K2 := Kc_2 m'
  have hn := G.2.2.2.2.1
  have ht : tcl (p % 64) = 3 := by rw [cu]; rfl
  have eu : un (p % 64) = false := by rw [cu]; rfl
  have er : rln (.branch p x y) = rln x + rln y + 1 := rln_3 ht
  rw [er] at ha hB hV ⊢
  obtain ⟨d0, d1, d4, hRx, hRy⟩ := rt_i3 ht hR
  have sy : Wf w x ∧ lev x ≤ 6 ∧ Wf w y ∧ lev y = 8 ∧ kK w (p / 64) = 32 := by
    rcases hw.br with ⟨c', -⟩ | ⟨c', -⟩ | ⟨c', -⟩ | ⟨c', -⟩ | ⟨c', -⟩ | ⟨c', h1, h2, h3, h4, h5, h6, h7⟩ | ⟨c', -⟩ | ⟨c', -⟩
    · omega
    · omega
    · omega
    · omega
    · omega
    · exact ⟨h1, by omega, h2, h7, h3⟩
    · omega
    · have := bin_f c'; omega
  obtain ⟨hwx, lx, hwy, ly, k32⟩ := sy
  have es : nso w p = 32 := by unfold nso; rw [if_neg (by omega), k32]
  rw [es] at d0
  unfold chk at hck
  rw [eu, if_neg Bool.false_ne_true] at hck
  obtain ⟨ka, hka, hck⟩ := sbd_i hck
  obtain ⟨kb, hkb, hkr⟩ := sbd_i hck
  have kk : ka = 2 ∧ kb = kd := by
    unfold kr at hkr
    rw [if_neg (by omega), if_neg (by omega), if_pos cu] at hkr
    split at hkr
    · injection hkr with hkr
      rename_i z
      exact ⟨z.1, hkr⟩
    · cases hkr
  obtain ⟨k1, k2⟩ := kk
  rw [k1] at hka
  rw [k2] at hkb
  have hT : lev (.branch p x y) ≠ 7 := by show lvo (p % 64) ≠ 7; rw [cu]; decide
  have em : (rln x + rln y + 1) * Kc m' = rln x * Kc m' + rln y * Kc m' + Kc m' := by rw [Nat.add_mul, Nat.add_mul, Nat.one_mul]
  have rc : rtc (.branch p x y) a c = [a] := by
    rw [rtc_n (by show lvo (p % 64) ≠ 8; rw [cu]; decide)]
    exact rts_2 (Or.inr ht)
  rw [rc] at hQ
  have hQ : WQ l w E vs m σ0 σ (B ++ [(0, a)]) V := hQ
  have py := rln_pos y
  obtain ⟨q, y1, y2, rfl, q37⟩ : ∃ q y1 y2, y = .branch q y1 y2 ∧ q % 64 = 37 := by
    cases y with
    | leaf k => exact absurd ly (by show ¬ 0 = 8; decide)
    | branch q y1 y2 =>
      refine ⟨q, y1, y2, rfl, ?_⟩
      have : lvo (q % 64) = 8 := ly
      unfold lvo at this
      repeat' split at this
      all_goals first
        | assumption
        | omega
  have tq : tcl (q % 64) = 0 := by rw [q37]; rfl
  have ery : rln (.branch q y1 y2) = rln y1 + rln y2 := rln_0 tq
  obtain ⟨hRy1, hRy2⟩ := rt_i0 tq hRy
  have sq : Wf w y1 ∧ lev y1 ≤ 6 ∧ Wf w y2 ∧ lev y2 ≤ 6 := by
    rcases hwy.br with ⟨c', -⟩ | ⟨c', -⟩ | ⟨c', -⟩ | ⟨c', -⟩ | ⟨c', -⟩ | ⟨c', -⟩ | ⟨c', h1, h2, h3, h4, h5, h6⟩ | ⟨c', -⟩
    · omega
    · omega
    · omega
    · omega
    · omega
    · omega
    · exact ⟨h1, h5, h2, h6⟩
    · have := bin_f c'; omega
  have py1 := rln_pos y1
  have py2 := rln_pos y2
  have px := rln_pos x
  obtain ⟨s2, a1, a2, -⟩ := L185s (N := N) (g := g) hQ
  obtain ⟨s3, b1, b2⟩ := F187c (N := N) G a1 (a := a) (by omega) d0 (Or.inr (Or.inr rfl)) d4 (by omega)
  have go := a2 rfl s3 b1
  have W := ihx co s3 (B ++ [(2, a)]) V (a + 1) _ false 2 b hcc hwx (hNB.1 eu) hka (by decide) hRx (by omega) hb (by rw [rtc_n (by omega), rts_6 _ hwx lx]; exact b2) (by rw [List.length_append]; show B.length + 1 + _ + _ ≤ _; omega) (by omega)
  unfold evl
  rw [eu, if_neg Bool.false_ne_true, if_neg (by omega)]
  cases hvx : evl l w E (fvn l w E vs) x false with
  | inl e =>
    rw [hvx] at W
    rw [sbd_l]
    exact wo_e W go (by rw [em]; omega)
  | inr u =>
    rw [hvx] at W
    rw [sbd_r, if_neg (by omega), if_neg (by omega), if_pos cu]
    obtain ⟨s4, c4, ks1, e1, e2, e3, e4, e5⟩ := W
    have ek := e4.1 (by omega)
    subst ek
    obtain ⟨s5, f1, -, -, f2, -⟩ := L185s (N := N) (g := g) e3
    obtain ⟨s6, g1, g2⟩ := F197a (N := N) G f1 (by omega) (by omega) (a := a) (c0 := a + 1) (c1 := a + 1 + rln x) (c2 := a + 1 + rln x + rln y1) (by omega) d0 d4 (by omega) (rt_5 hwx lx hRx) (by omega) (rt_5 sq.1 sq.2.1 hRy1)
    have go2 := f2 rfl s6 g1
    have W := ih co s6 B V (a + 1 + rln x) (-1) (decide (u.1 = 1)) kd b hcc hwy hNB.2 hkb hkd hRy (by omega) hb (by
      have rcy : rtc (.branch q y1 y2) (a + 1 + rln x) (decide (u.1 = 1)) = [if u.1 = 1 then a + 1 + rln x else a + 1 + rln x + rln y1] := by
        show (if q % 64 = 37 then _ else _) = _
        rw [if_pos q37]
        by_cases z : u.1 = 1
        · rw [decide_eq_true z, if_pos rfl, if_pos z, rts_6 _ sq.1 sq.2.1]
        · rw [decide_eq_false z, if_neg Bool.false_ne_true, if_neg z, rts_6 _ sq.2.2.1 sq.2.2.2]
      rw [rcy]
      exact g2) (by omega) (by omega)
    have W2 := W.ty (T' := .branch p x (.branch q y1 y2)) (by omega) hT (Nat.le_refl _)
    exact W2.pr (c := 1 + (c4 + 1)) (fun f => by rw [show f + (1 + (c4 + 1)) = f + 1 + c4 + 1 by omega, go, e2, go2]) (by rw [em]; omega)
/-- and, or -/
theorem ew_and (G : GW N g n l w E vs fa cc m σ0 D) (cu : p % 64 = 17 ∨ p % 64 = 18) (ihx : EvR N g n l w E vs fa cc m σ0 D m' x) (ih : EvR N g n l w E vs fa cc m σ0 D m' y) : EvR N g n l w E vs fa cc m σ0 D m' (.branch p x y) := by
  intro co σ B V a nx c kd b hcc hw hNB hck hkd hR ha hb hQ hB hV
  have K2 := Kc_2 m'
  have hn := G.2.2.2.2.1
  have ht : tcl (p % 64) = 3 := by rcases cu with z | z <;> (rw [z]; rfl)
  have eu : un (p % 64) = false := by rcases cu with z | z <;> (rw [z]; rfl)
  have er : rln (.branch p x y) = rln x + rln y + 1 := rln_3 ht
  rw [er] at ha hB hV ⊢
  obtain ⟨d0, d1, d4, hRx, hRy⟩ := rt_i3 ht hR
  have sy : Wf w x ∧ lev x ≤ 6 ∧ Wf w y ∧ lev y ≤ 6 ∧ kK w (p / 64) = opk (p % 64) := by
    rcases hw.br with ⟨c', -⟩ | ⟨c', -⟩ | ⟨c', -⟩ | ⟨c', -⟩ | ⟨c', -⟩ | ⟨c', -⟩ | ⟨c', -⟩ | ⟨c', h1, h2, h3, h4, h5, h6, h7⟩
    · omega
    · omega
    · omega
    · omega
    · omega
    · omega
    · omega
    · have hL := lL_6 (p % 64)
      have hR := lR_6 (p % 64)
      exact ⟨h1, by omega, h2, by omega, h3⟩
  obtain ⟨hwx, lx, hwy, ly, kop⟩ := sy
  have es : nso w p = 29 ∧ p % 64 = 17 ∨ nso w p = 30 ∧ p % 64 = 18 := by
    unfold nso
    rw [if_neg (by omega), kop]
    rcases cu with z | z
    · rw [z]; exact Or.inl ⟨rfl, rfl⟩
    · rw [z]; exact Or.inr ⟨rfl, rfl⟩
  unfold chk at hck
  rw [eu, if_neg Bool.false_ne_true] at hck
  obtain ⟨ka, hka, hck⟩ := sbd_i hck
  obtain ⟨kb, hkb, hkr⟩ := sbd_i hck
  have kk : ka = 2 ∧ kb = 2 := by
    unfold kr at hkr
    rw [if_neg (by omega), if_pos cu] at hkr
    split at hkr
    · assumption
    · cases hkr
  obtain ⟨k1, k2⟩ := kk
  rw [k1] at hka
  rw [k2] at hkb
  have hT : lev (.branch p x y) ≠ 7 := by show lvo (p % 64) ≠ 7; rcases cu with z | z <;> (rw [z]; decide)
  have em : (rln x + rln y + 1) * Kc m' = rln x * Kc m' + rln y * Kc m' + Kc m' := by rw [Nat.add_mul, Nat.add_mul, Nat.one_mul]
  have rc : rtc (.branch p x y) a c = [a] := by
    rw [rtc_n (by show lvo (p % 64) ≠ 8; rcases cu with z | z <;> (rw [z]; decide))]
    exact rts_2 (Or.inr ht)
  rw [rc] at hQ
  have hQ : WQ l w E vs m σ0 σ (B ++ [(0, a)]) V := hQ
  have py := rln_pos y
  have px := rln_pos x
  obtain ⟨s2, a1, a2, -⟩ := L185s (N := N) (g := g) hQ
  obtain ⟨s3, b1, b2⟩ := F187c (N := N) G a1 (a := a) (by omega) d0 (by omega) d4 (by omega)
  have go := a2 rfl s3 b1
  have W := ihx co s3 (B ++ [(2, a)]) V (a + 1) _ false 2 b hcc hwx (hNB.1 eu) hka (by decide) hRx (by omega) hb (by rw [rtc_n (by omega), rts_6 _ hwx lx]; exact b2) (by rw [List.length_append]; show B.length + 1 + _ + _ ≤ _; omega) (by omega)
  unfold evl
  rw [eu, if_neg Bool.false_ne_true, if_neg (by omega)]
  cases hvx : evl l w E (fvn l w E vs) x false with
  | inl e =>
    rw [hvx] at W
    rw [sbd_l]
    exact wo_e W go (by rw [em]; omega)
  | inr u =>
    rw [hvx] at W
    rw [sbd_r]
    obtain ⟨s4, c4, ks1, e1, e2, e3, e4, e5⟩ := W
    have ek := e4.1 (by omega)
    subst ek
    obtain ⟨ou1, ou2⟩ := okv2.mp (gw_ok G hcc hwx hka (by decide) hvx)
    obtain ⟨s5, f1, -, -, f2, -⟩ := L185s (N := N) (g := g) e3
    obtain ⟨s6, g1, g2, g3⟩ := F197b (N := N) G f1 (by omega) (by omega) (a := a) (s := nso w p) (c0 := a + 1) (c1 := a + 1 + rln x) (by omega) (by omega) d0 d4 (by omega) (rt_5 hwx lx hRx)
    have go2 := f2 rfl s6 g1
    have run : ∀ f, L_185 N g (f + (1 + (c4 + 1))) σ = L_185 N g f s6 := fun f => by rw [show f + (1 + (c4 + 1)) = f + 1 + c4 + 1 by omega, go, e2, go2]
    have more : (u.1 = 1 ↔ nso w p = 29) → WOc N g l w E vs m σ0 σ B V (.branch p x y) ((rln x + rln y + 1) * Kc m') (evl l w E (fvn l w E vs) y false) := fun z => by
      have W := ih co s6 B V (a + 1 + rln x) (-1) false 2 b hcc hwy hNB.2 hkb (by decide) hRy (by omega) hb (by rw [rtc_n (by omega), rts_6 _ hwy ly]; exact g2 z) (by omega) (by omega)
      exact (W.ty (T' := .branch p x y) (by omega) hT (Nat.le_refl _)).pr (c := 1 + (c4 + 1)) run (by rw [em]; omega)
    have less : ¬ (u.1 = 1 ↔ nso w p = 29) → WOc N g l w E vs m σ0 σ B V (.branch p x y) ((rln x + rln y + 1) * Kc m') (.inr u) := fun z => (wo_v (g3 z) hT).pr (c := 1 + (c4 + 1)) run (by rw [em]; omega)
    have ep : u = (u.1, 0) := by rw [← ou2]
    rcases es with ⟨z1, z2⟩ | ⟨z1, z2⟩
    · rw [if_pos z2]
      by_cases c1 : u.1 = 1
      · rw [if_pos c1]
        exact more ⟨fun _ => z1, fun _ => c1⟩
      · rw [if_neg c1]
        have u0 : u.1 = 0 := by rcases ou1 with q | q; exact q; exact absurd q c1
        rw [u0] at ep
        rw [← ep]
        exact less (fun q => c1 (q.mpr z1))
    · rw [if_neg (by omega), if_pos z2]
      by_cases c1 : u.1 = 1
      · rw [if_pos c1]
        rw [c1] at ep
        rw [← ep]
        exact less (fun q => by have := q.mp c1; omega)
      · rw [if_neg c1]
        exact more ⟨fun q => absurd q c1, fun q => by omega⟩
/-- numbers and comparisons -/
theorem ew_bin (G : GW N g n l w E vs fa cc m σ0 D) (cu : bin (p % 64) = true) (cn : p % 64 ≠ 17 ∧ p % 64 ≠ 18) (ihx : EvR N g n l w E vs fa cc m σ0 D m' x) (ih : EvR N g n l w E vs fa cc m σ0 D m' y) : EvR N g n l w E vs fa cc m σ0 D m' (.branch p x y) := by
  intro co σ B V a nx c kd b hcc hw hNB hck hkd hR ha hb hQ hB hV
  have K2 := Kc_2 m'
  have hN := G.2.1
  have hn := G.2.2.2.2.1
  have bf := bin_f cu
  have ht : tcl (p % 64) = 3 := by unfold tcl; rw [if_neg (by omega), if_neg (by omega), if_neg (by omega)]
  have eu : un (p % 64) = false := by
    cases h : un (p % 64) with
    | false => rfl
    | true =>
      simp only [un, Bool.or_eq_true, decide_eq_true_eq] at h
      omega
  have er : rln (.branch p x y) = rln x + rln y + 1 := rln_3 ht
  rw [er] at ha hB hV ⊢
  obtain ⟨d0, d1, d4, hRx, hRy⟩ := rt_i3 ht hR
  have sy : Wf w x ∧ lev x ≤ 6 ∧ Wf w y ∧ lev y ≤ 6 ∧ kK w (p / 64) = opk (p % 64) := by
    rcases hw.br with ⟨c', -⟩ | ⟨c', -⟩ | ⟨c', -⟩ | ⟨c', -⟩ | ⟨c', -⟩ | ⟨c', -⟩ | ⟨c', -⟩ | ⟨c', h1, h2, h3, h4, h5, h6, h7⟩
    · omega
    · omega
    · omega
    · omega
    · omega
    · omega
    · omega
    · have hL := lL_6 (p % 64)
      have hR := lR_6 (p % 64)
      exact ⟨h1, by omega, h2, by omega, h3⟩
  obtain ⟨hwx, lx, hwy, ly, kop⟩ := sy
  have es : nso w p = opk (p % 64) := by
    unfold nso
    rw [if_neg (by omega), kop]
  rw [es] at d0
  have ops : p % 64 = 4 ∨ p % 64 = 5 ∨ p % 64 = 6 ∨ p % 64 = 7 ∨ p % 64 = 8 ∨ p % 64 = 10 ∨ p % 64 = 11 ∨ p % 64 = 12 ∨ p % 64 = 13 ∨ p % 64 = 14 ∨ p % 64 = 15 := by omega
  have s46 : opk (p % 64) < 46 ∧ opk (p % 64) ≠ 1 ∧ opk (p % 64) ≠ 2 ∧ opk (p % 64) ≠ 12 ∧ opk (p % 64) ≠ 13 ∧ opk (p % 64) ≠ 29 ∧ opk (p % 64) ≠ 30 ∧ opk (p % 64) ≠ 32 := by
    rcases ops with z | z | z | z | z | z | z | z | z | z | z <;> (rw [z]; decide)
  unfold chk at hck
  rw [eu, if_neg Bool.false_ne_true] at hck
  obtain ⟨ka, hka, hck⟩ := sbd_i hck
  obtain ⟨kb, hkb, hkr⟩ := sbd_i hck
  have ka2 := (chk_3 x ka hwx hka).2 lx
  have kb2 := (chk_3 y kb hwy hkb).2 ly
  have kk : ka = kb ∧ (p % 64 ≤ 8 → ka = 1) := by
    unfold kr at hkr
    by_cases c10 : p % 64 = 10 ∨ p % 64 = 11
    · rw [if_pos c10] at hkr
      split at hkr
      · rename_i z
        exact ⟨z, fun q => by omega⟩
      · cases hkr
    · rw [if_neg c10, if_neg (by omega), if_neg (by omega), if_neg (by omega), if_neg (by omega)] at hkr
      split at hkr
      · split at hkr
        · omega
        · cases hkr
      · split at hkr
        · omega
        · cases hkr
  obtain ⟨kab, k8⟩ := kk
  subst kab
  have hT : lev (.branch p x y) ≠ 7 := by
    show lvo (p % 64) ≠ 7
    rcases ops with z | z | z | z | z | z | z | z | z | z | z <;> (rw [z]; decide)
  have hT8 : lev (.branch p x y) ≠ 8 := by
    show lvo (p % 64) ≠ 8
    rcases ops with z | z | z | z | z | z | z | z | z | z | z <;> (rw [z]; decide)
  have em : (rln x + rln y + 1) * Kc m' = rln x * Kc m' + rln y * Kc m' + Kc m' := by rw [Nat.add_mul, Nat.add_mul, Nat.one_mul]
  have rc : rtc (.branch p x y) a c = [a] := by
    rw [rtc_n hT8]
    exact rts_2 (Or.inr ht)
  rw [rc] at hQ
  have hQ : WQ l w E vs m σ0 σ (B ++ [(0, a)]) V := hQ
  have py := rln_pos y
  have px := rln_pos x
  have hpk : Pk D (D a 4) [a + 1, a + 1 + rln x] := ⟨d4, rt_5 hwx lx hRx, rt_5 hwy ly hRy⟩
  have hcs : ∀ q ∈ [a + 1, a + 1 + rln x], q < n := fun q hq => by
    simp only [List.mem_cons, List.not_mem_nil, or_false] at hq
    omega
  obtain ⟨s2, a1, a2, -⟩ := L185s (N := N) (g := g) hQ
  obtain ⟨s3, b1, b2⟩ := F187d (N := N) G a1 (a := a) (by omega) d0 s46.1 s46.2 hpk hcs (show 1 ≤ 2 by decide) (by show _ + 2 ≤ _; omega)
  have go := a2 rfl s3 b1
  have b2 : WQ l w E vs m σ0 s3 (B ++ [(1, a)] ++ ([(0, a + 1 + rln x)] ++ [(0, a + 1)])) V := b2
  rw [← List.append_assoc] at b2
  have W := ihx co s3 (B ++ [(1, a)] ++ [(0, a + 1 + rln x)]) V (a + 1) _ false ka b hcc hwx (hNB.1 eu) hka (by omega) hRx (by omega) hb (by rw [rtc_n (by omega), rts_6 _ hwx lx]; exact b2) (by rw [List.length_append, List.length_append]; show B.length + 1 + 1 + _ + _ ≤ _; omega) (by omega)
  unfold evl
  rw [eu, if_neg Bool.false_ne_true, if_neg (by omega)]
  cases hvx : evl l w E (fvn l w E vs) x false with
  | inl e =>
    rw [hvx] at W
    rw [sbd_l]
    exact wo_e W go (by rw [em]; omega)
  | inr u =>
    rw [hvx] at W
    rw [sbd_r, if_neg cn.1, if_neg cn.2, if_neg (by omega)]
    obtain ⟨s4, c4, ks1, e1, e2, e3, e4, e5⟩ := W
    have ek := e4.1 (by omega)
    subst ek
    have ou := gw_ok G hcc hwx hka (by omega) hvx
    have W := ih co s4 (B ++ [(1, a)]) (V ++ [u]) (a + 1 + rln x) (-1) false ka b hcc hwy hNB.2 hkb (by omega) hRy (by omega) hb (by rw [rtc_n (by omega), rts_6 _ hwy ly]; exact e3) (by rw [List.length_append]; show B.length + 1 + _ + _ ≤ _; omega) (by rw [List.length_append]; show V.length + 1 + _ + _ ≤ _; omega)
    cases hvy : evl l w E (fvn l w E vs) y false with
    | inl e =>
      rw [hvy] at W
      rw [sbd_l]
      exact wo_e W (c := c4 + 1) (fun f => by rw [← Nat.add_assoc, go, e2]) (by rw [em]; omega)
    | inr v =>
      rw [hvy] at W
      rw [sbd_r]
      obtain ⟨s5, c5, ks2, f1, f2, f3, f4, f5⟩ := W
      have ek := f4.1 (by omega)
      subst ek
      have ov := gw_ok G hcc hwy hkb (by omega) hvy
      rw [List.append_assoc] at f3
      have run : ∀ f, L_185 N g (f + (c5 + (c4 + 1))) σ = L_185 N g f s5 := fun f => by rw [show f + (c5 + (c4 + 1)) = f + c5 + c4 + 1 by omega, go, e2, f2]
      by_cases c8 : p % 64 ≤ 8
      · rw [k8 c8] at ou ov
        refine (wo_fin (T := .branch p x y) (o := rk (p % 64) u.1 u.2 v.1 v.2) G f3 (by omega) d0 d1 hpk hcs (show 2 ≤ 20000 by decide) (fun s2 h2 f => ?_) hT ?_ (fun f z => rk_f z)).pr (c := c5 + (c4 + 1)) run (by rw [em]; omega)
        · exact F192_r (by omega) (by omega) c8 h2.2.2.1 (by omega) ou ov f
        · unfold vr
          rw [if_neg (by omega), if_neg (by omega), if_neg (by omega)]
          cases rk (p % 64) u.1 u.2 v.1 v.2 <;> rfl
      · refine (wo_fin (T := .branch p x y) (o := .inr (tv (cmpo (p % 64) (u.1 * nb v.2) (v.1 * nb u.2)))) G f3 (by omega) d0 d1 hpk hcs (show 2 ≤ 20000 by decide) (fun s2 h2 f => ?_) hT ?_ (fun f z => by cases z)).pr (c := c5 + (c4 + 1)) run (by rw [em]; omega)
        · exact F192_c (by omega) (by omega) h2.2.2.1 (by omega) ou ov f
        · unfold vr
          rw [if_pos (by omega)]
          rfl
/-- every rule -/
theorem ewT (G : GW N g n l w E vs fa cc m σ0 D) : ∀ m', m' ≤ m → ∀ T, Wf w T → EvR N g n l w E vs fa cc m σ0 D m' T := by
  intro m'
  induction m' using Nat.strongRecOn with
  | _ m' IH =>
  intro hm T
  induction T with
  | leaf k =>
    intro hw
    exact ew_leaf G hm (fun j hj => by
      intro co σ B V a nx c kd b h1 h2
      exact IH j hj (by omega) _ h2 co σ B V a nx c kd b h1 h2) k
  | branch p x y ihx ihy =>
    intro hw
    rcases hw.br with ⟨c', h1', h2', h3, h4⟩ | ⟨c', h1', h2', h3, h4⟩ | ⟨c', -, h1', -⟩ | ⟨c', h1', h2', h3, h4, h5, h6, h7⟩ | ⟨c', h1, h2, h3, h4, h5, h6⟩ | ⟨c', h1, h2, h3, h4, h5, h6, h7⟩ | ⟨c', h1, h2, h3, h4, h5, h6⟩ | ⟨c', h1, h2, h3, h4, h5, h6, h7⟩
    · exact ew_un G (Or.inl c') (ihy h2')
    · exact ew_un G (Or.inr (Or.inl c')) (ihy h2')
    · exact ew_35 c' (ihy h1')
    · exact ew_un G (Or.inr (Or.inr c')) (ihy h3)
    · exact ew_list G c' (ihx h1) (ihy h2)
    · exact ew_19 G c' (ihx h1) (ihy h2)
    · exact ew_37 c' (ihx h1) (ihy h2)
    · by_cases cn : p % 64 = 17 ∨ p % 64 = 18
      · exact ew_and G cn (ihx h1) (ihy h2)
      · exact ew_bin G c' ⟨fun z => cn (Or.inl z), fun z => cn (Or.inr z)⟩ (ihx h1) (ihy h2)
end EC
