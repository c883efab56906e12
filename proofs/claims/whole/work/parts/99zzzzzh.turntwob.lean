/-! a turn with compile: a text that is taken; the turn -/
/-- the spare text becomes the text -/
def swt (t : Nat) (σ : st_S) : st_S := st_i (st_i (st_i (st_i (st_i (st_i (st_r (st_r σ 1 5 t) 1 6 (24 - t)) 1 7 1) 1 8 0) 52 9 0) 52 10 0) 52 11 0) 52 12 0
theorem Po.tz' {c : Nat} {σ σ' σ'' : st_S} (h : Po c σ σ') (h' : Po 0 σ' σ'') : Po c σ σ'' := by
  have e := Po.tr h h'
  rw [Nat.add_zero] at e
  exact e
section TU3
variable {N t g x n m c : Nat} {σ σ' σ'' : st_S} {l : List Int32} {L : Nat} {xs : Nat → Int32}
theorem swt_fr (t : Nat) (σ : st_S) : Fr 0 [(1, 7), (1, 8), (52, 9), (52, 10), (52, 11), (52, 12)] [] [(1, 5), (1, 6)] [] [] σ (swt t σ) := by
  unfold swt
  iterate 6 refine Fr.t0 ?_ (Fr.i _ _ (by simp))
  exact Fr.t0 (Fr.r _ _ (by simp)) (Fr.r _ _ (by simp))
/-- a text that was taken on both sides -/
theorem qq_yes (ht : t = 4 ∧ g = 79 ∨ t = 20 ∧ g = 115) (hx : x = 67 ∨ x = 69) (h : Qq σ) (f : FB t σ σ') (nk : Nkp t σ σ') {Y : Xs} (hs : SJ σ' t Y) (f' : RFc g x (swt t σ') σ'') (hz : RZ σ'' g) (hw : Ryw σ'') (h12 : gR σ'' 66 1 = 136 - x ∧ gR σ'' 66 2 = x) (e9 : gI σ' 1 9 = -1) (e12 : gI σ'' 66 12 = -1) (h11 : gI σ'' 66 11 = 1) (h29 : gI σ'' 66 29 = 0) (g9 : gR σ'' 66 9 = g ∧ gR σ'' 66 10 = 194 - g) {M : Nat → Nat → Int32} {w : List (Nat × Nat × Nat)} {X : Tx} {X' fs hs' fa : Nat → Nat} {tge : Int32} {D : Nat → Nat → Int32} {tg : Tr} (tx : TX σ' t n M l w X X' fs tge hs') (hnv : Nvk l w) (tf : TFx w X) (htg : X.2.1 = some tg) (rt : RT g l w X m D fa σ'') (rp : RTp l w X m) : Qq σ'' := by
  obtain ⟨h1, h2, h3, h4, ⟨r1, r2, r3, r4, r5⟩, -, -⟩ := h
  have ht' : t = 4 ∨ t = 20 := by omega
  have hg : g = 79 ∨ g = 115 := by omega
  have s := swt_fr t σ'
  have nN : gN (swt t σ') = gN σ' := rfl
  have nE : gE (swt t σ') = gE σ' := rfl
  have sI : ∀ a k, a ≠ 1 → a ≠ 52 → gI (swt t σ') a k = gI σ' a k := fun a k z1 z2 => s.1 a k (by simp only [List.mem_cons, List.not_mem_nil, or_false, Prod.mk.injEq]; omega)
  have k1 : Kst (swt t σ') := (kst_fb ht' h3 f nk hs).up (sI _ _ (by decide) (by decide)) (fun t ht => sI _ _ (by omega) (by omega)) (fun a _ _ => by rw [nN]) (fun a _ _ => by rw [nE])
  have q1 : Rst (swt t σ') := (rst_fb ht' h4 f).up (fun a k z => sI _ _ (by omega) (by omega)) (fun a _ _ => by rw [nN]) (fun a _ => ⟨by rw [nN], by rw [nE]⟩)
  have k2 := kst_rf hg hx k1 f'
  have q2 := rst_rf hg hx q1 f' hz hw
  have w17 : gI σ'' 1 7 = 1 := (rf_I hg hx f' 1 7 (by decide)).trans rfl
  have w18 : gI σ'' 1 8 = 0 := (rf_I hg hx f' 1 8 (by decide)).trans rfl
  have w19 : gI σ'' 1 9 = -1 := (rf_I hg hx f' 1 9 (by decide)).trans ((s.1 1 9 (by simp)).trans e9)
  have w510 : gI σ'' 52 10 = 0 := (rf_I hg hx f' 52 10 (by decide)).trans rfl
  have w59 : gI σ'' 52 9 = 0 := (rf_I hg hx f' 52 9 (by decide)).trans rfl
  have wR : ∀ k, gR σ'' 1 k = gR (swt t σ') 1 k := fun k => f'.2.2.1 1 k (by simp only [List.mem_cons, List.not_mem_nil, or_false, Prod.mk.injEq]; omega)
  have w5 : gR σ'' 1 5 = t := (wR 5).trans rfl
  have w6 : gR σ'' 1 6 = 24 - t := (wR 6).trans rfl
  have i66 : ∀ k, k = 30 → gI σ'' 66 k = gI σ 66 k := fun k z => (f'.1 66 k (by simp only [RIf, List.mem_append, List.mem_cons, List.not_mem_nil, or_false, Prod.mk.injEq]; omega)).trans ((sI 66 k (by decide) (by decide)).trans (f.1 66 k (by simp only [List.mem_cons, List.not_mem_nil, or_false, Prod.mk.injEq]; omega)))
  have i62 : gI σ'' 62 9 = gI σ 62 9 := (rf_I hg hx f' 62 9 (by decide)).trans ((sI 62 9 (by decide) (by decide)).trans (f.1 62 9 (by simp only [List.mem_cons, List.not_mem_nil, or_false, Prod.mk.injEq]; omega)))
  have n187 : gN σ'' 187 = 1 := ((rf_A hg f' 187 (by omega)).1.trans (f.2.2.2.1 187 (by simp only [List.mem_cons, List.not_mem_nil, or_false]; omega)).1).trans r5
  have tx2 : TX σ'' t n M l w X X' fs tge hs' := tx.fr (fun k _ _ => (rf_I hg hx f' t k (by omega)).trans (sI t k (by omega) (by omega))) ((rf_I hg hx f' (t + 1) 8 (by omega)).trans (sI (t + 1) 8 (by omega) (by omega))) (fun a _ _ => rf_A hg f' a (by omega)) ⟨(rf_A hg f' 43 (by omega)).1, (rf_A hg f' 44 (by omega)).1, (rf_A hg f' 45 (by omega)).1⟩
  refine ⟨?_, ?_, k2, q2, ⟨w19.trans e12.symm, ?_, w510.trans h29.symm, w17.trans h11.symm, n187⟩, none_g k2.2.2.2 q2.2.2.1 q2.2.2.2 w510 (V := 0) w59 (by decide), fun _ => ⟨t, g, l, w, X, tg, n, X', fs, tge, hs', m, D, fa, ht, w5, g9.1, ⟨tx2.1.2.1, hnv, tf, htg, ⟨M, tx2.km htg (fun c hc => (tf.2.2.2 c hc).1), tx2.1⟩, tx2.2.1, rt, rp⟩, fun z => absurd w18 z, fun _ => w510⟩⟩
  · unfold Pr2
    rw [w5, w6, g9.1, g9.2]
    omega
  · unfold Tp2
    rw [h12.1, h12.2]
    omega
  · rw [i62, r2, i66 30 rfl]
set_option maxHeartbeats 4000000 in
/-- A TURN WITH COMPILE -/
theorem qq_t2 : Qt Qq 2 := by
  intro L xs n b σ hi _ hn hL hk
  obtain ⟨hQ, ⟨x, l, a1, hx, a3, a4, a5, a6, a7, a8, a9, a10, a11⟩, hF, c, hc, po⟩ := id hi
  obtain ⟨h1, h2, h3, h4, -⟩ := id hQ
  obtain ⟨t, g, ht, p5, p6, p9, p10⟩ : ∃ t g, (t = 4 ∧ g = 79 ∨ t = 20 ∧ g = 115) ∧ gR σ 1 5 = 24 - t ∧ gR σ 1 6 = t ∧ gR σ 66 9 = 194 - g ∧ gR σ 66 10 = g := by
    rcases h1 with ⟨y1, y2, y3, y4⟩ | ⟨y1, y2, y3, y4⟩
    · exact ⟨20, 115, Or.inr ⟨rfl, rfl⟩, y1, y2, y3, y4⟩
    · exact ⟨4, 79, Or.inl ⟨rfl, rfl⟩, y1, y2, y3, y4⟩
  have ht' : t = 4 ∨ t = 20 := by omega
  have hg : g = 79 ∨ g = 115 := by omega
  have hM : vz_M0 = 1000000 := rfl
  have gc := room_q po (by omega) h3 h4 a6 a7 a8
  have x2 : gR σ 66 2 = 136 - x := by
    rcases h2 with ⟨y1, y2⟩ | ⟨y1, y2⟩ <;> omega
  obtain ⟨N, hN⟩ : ∃ N, N = 20000001 := ⟨_, rfl⟩
  have wd : Wd σ l := ⟨a4.1, a4.2.1, by omega, a3, a4.2.2.2⟩
  obtain ⟨Y, sj⟩ := h3.sj ht'
  have K := F15d (N := N) ht' (by omega) (ok_l a11) (by omega) wd sj (h3.2.1 t ht').2 h3.2.2.1
  have fin : ∀ (v : Int32) (σ1 σ2 : st_S), F_15 N t σ = some (v, σ1) → F_135 N g x σ1 = some (v, σ2) → (∀ k, gR σ1 66 k = gR σ 66 k) → Qq σ2 → gI σ2 2 1 = 0 → gI σ2 (136 - x) 1 = 0 → gR σ2 66 1 = 136 - x → (∀ a, a = 3 ∨ a = 68 ∨ a = 70 → gN σ2 a = gN σ a) → gF σ2 0 = gF σ 0 → Po 0 σ σ2 → Stq Qq L xs n b σ := by
    intro v σ1 σ2 F1 F2 kR q i2 ix r1 kn gf po2
    have n3 := kn 3 (by omega)
    have n68 := kn 68 (by omega)
    have n70 := kn 70 (by omega)
    refine ⟨b, σ2, ⟨q, ⟨136 - x, [], r1, by omega, by decide, ⟨i2.trans (show (0 : Int32) = nI 0 from rfl), Nat.zero_le _, by rw [n3]; exact a4.2.2.1, fun j hj => absurd hj (Nat.not_lt_zero j)⟩, ⟨ix.trans (show (0 : Int32) = nI 0 from rfl), Nat.zero_le _, ?_, fun j hj => absurd hj (Nat.not_lt_zero j)⟩, by rw [n3]; exact a6, by rw [n68]; exact a7, by rw [n70]; exact a8, by rw [n68]; exact a9, by rw [n70]; exact a10, fun c hc => absurd hc List.not_mem_nil⟩, gf.trans hF, c, by omega, Po.tz' po po2⟩, fun z hz => ?_⟩
    · rcases hx with rfl | rfl
      · show 16 ≤ gN σ2 70
        rw [n70]; exact a10
      · show 16 ≤ gN σ2 68
        rw [n68]; exact a9
    · have k1 := F_15_ok (d := 1) ht' p5 p6 F1
      have k2 := F_135_ok (d := 1) hg hx ((kR 1).trans a1) ((kR 2).trans x2) ((kR 9).trans p9) ((kR 10).trans p10) F2
      cases b with
      | none => exact lh_2_0 (d := 14) (hs := hF) (hn := hn) (hL := hL) (c_1 := law_c hn hL) (c_2 := hk) (lw_2 (b := none) k1 k2 (lq_0 (d := 14) hz))
      | some p => exact lh_2_1 (d := 14) (hs := hF) (hn := hn) (hL := hL) (c_1 := law_c hn hL) (c_2 := hk) (lw_2 (b := some p) k1 k2 (lq_1 (d := 14) hz))
  have cl : ∀ {σ1 : st_S} {Y' : Xs}, FB t σ σ1 → Nkp t σ σ1 → SJ σ1 t Y' → (gC σ1 + 780000 < vz_M0 ∧ Rd σ1 x l ∧ RZ σ1 g ∧ Ryw σ1 ∧ Po 0 σ σ1 ∧ gF σ1 0 = gF σ 0 ∧ (∀ k, gR σ1 66 k = gR σ 66 k) ∧ ∀ a, a = 3 ∨ a = 68 ∨ a = 70 → gN σ1 a = gN σ a) := fun {σ1 Y'} fb nk sj' => by
    have k1' := kst_fb ht' h3 fb nk sj'
    have r1' := rst_fb ht' h4 fb
    have po1 : Po 0 σ σ1 := fb.2.2.2.2.2.2
    have kn : ∀ a, a = 3 ∨ a = 68 ∨ a = 70 → gN σ1 a = gN σ a := fun a z => (fb.2.2.2.1 a (by simp only [List.mem_cons, List.not_mem_nil, or_false]; omega)).1
    have gc1 := room_q (Po.tz' po po1) (by omega) k1' r1' (by rw [kn 3 (by omega)]; exact a6) (by rw [kn 68 (by omega)]; exact a7) (by rw [kn 70 (by omega)]; exact a8)
    have ex := fb.2.2.2.1 (x + 1) (by simp only [List.mem_cons, List.not_mem_nil, or_false]; omega)
    have b40 : gN σ (x + 1) ≤ 40000 := by
      rcases hx with rfl | rfl
      · exact Nat.le_trans a7 (by decide)
      · exact Nat.le_trans a8 (by decide)
    refine ⟨by omega, ⟨(fb.1 x 1 (by simp only [List.mem_cons, List.not_mem_nil, or_false, Prod.mk.injEq]; omega)).trans a5.1, by rw [ex.1]; exact a5.2.1, by rw [ex.1]; exact b40, a3, fun j hj => by rw [ex.2]; exact a5.2.2.2 j hj⟩, r1'.1 g hg, r1'.2.1, po1, fb.2.2.2.2.2.1, fun k => fb.2.2.1 66 k (by simp only [List.mem_cons, List.not_mem_nil, or_false, Prod.mk.injEq]; omega), kn⟩
  have rf3 : ∀ {σ1 σ2 : st_S}, RFc g x σ1 σ2 → (∀ a, a = 3 ∨ a = 68 ∨ a = 70 → gN σ2 a = gN σ1 a) ∧ gI σ2 2 1 = gI σ1 2 1 := fun {σ1 σ2} rf => ⟨fun a z => (rf_A hg rf a (by omega)).1, rf_I hg hx rf 2 1 (by decide)⟩
  cases hcr : crd (kds l) c0 0 with
  | some e =>
    rw [hcr] at K
    obtain ⟨σ1, F1, e9, elt, fb, nk, i2, Y', sj'⟩ := K
    obtain ⟨y1, y2, y3, y4, y5, y6, y7, y8⟩ := cl fb nk sj'
    have R := F135c (N := N) hg hx (by omega) y1 y2 y3 y4
    rw [hcr] at R
    obtain ⟨σ2, F2, e12, rf, rz, ry, ix, r12, kp⟩ := R elt
    obtain ⟨z1, z2⟩ := rf3 rf
    exact fin 1 σ1 σ2 F1 F2 y7 (qq_no ht hx hQ p6 fb nk sj' rf rz ry r12 kp (e9.trans e12.symm)) (z2.trans i2) ix r12.1 (fun a z => (z1 a z).trans (y8 a z)) (rf.2.2.2.2.2.1.trans y6) (Po.tz' y5 rf.2.2.2.2.2.2)
  | none =>
    rw [hcr] at K
    obtain ⟨I, m, hP, hm0, hml, K⟩ := K
    have R := fun {σ1 : st_S} (y1 : gC σ1 + 780000 < vz_M0) (y2 : Rd σ1 x l) (y3 : RZ σ1 g) (y4 : Ryw σ1) => F135c (N := N) hg hx (by omega) y1 y2 y3 y4
    rw [hcr] at R
    cases htx : txt l (wds l) I m with
    | inl e =>
      rw [htx] at K
      obtain ⟨σ1, F1, e9, fb, nk, i2, Y', sj'⟩ := K
      obtain ⟨y1, y2, y3, y4, y5, y6, y7, y8⟩ := cl fb nk sj'
      have R := R y1 y2 y3 y4 I m hP hm0 hml
      rw [htx] at R
      obtain ⟨σ2, F2, e12, rf, rz, ry, ix, r12, kp⟩ := R
      obtain ⟨z1, z2⟩ := rf3 rf
      exact fin (nI e.1) σ1 σ2 F1 F2 y7 (qq_no ht hx hQ p6 fb nk sj' rf rz ry r12 kp (e9.trans e12.symm)) (z2.trans i2) ix r12.1 (fun a z => (z1 a z).trans (y8 a z)) (rf.2.2.2.2.2.1.trans y6) (Po.tz' y5 rf.2.2.2.2.2.2)
    | inr X =>
      rw [htx] at K
      obtain ⟨σ1, n1, M, X', fs, tge, hs', F1, e9, tx, fb, nk, i2, Y', sj'⟩ := K
      obtain ⟨y1, y2, y3, y4, y5, y6, y7, y8⟩ := cl fb nk sj'
      have F1 : F_15 N t σ = some (0, swt t σ1) := F1
      have s := swt_fr t σ1
      have nN : gN (swt t σ1) = gN σ1 := rfl
      have nE : gE (swt t σ1) = gE σ1 := rfl
      have sI : ∀ a k, a ≠ 1 → a ≠ 52 → gI (swt t σ1) a k = gI σ1 a k := fun a k z1 z2 => s.1 a k (by simp only [List.mem_cons, List.not_mem_nil, or_false, Prod.mk.injEq]; omega)
      obtain ⟨tf, tg, htg⟩ := txt_tf wds_nv hP htx
      have R := R (σ1 := swt t σ1) y1 ⟨(sI x 1 (by omega) (by omega)).trans y2.1, y2.2⟩ (y3.up hg (fun a k z => sI a k (by omega) (by omega)) (fun a _ => ⟨by rw [nN], by rw [nE]⟩)) (y4.eq nN) I m hP hm0 hml
      rw [htx] at R
      obtain ⟨σ2, m', D, fa, F2, e12, rf, rz, ry, ix, r12, rt, rp, w11, w29, w9, w10⟩ := R
      obtain ⟨z1, z2⟩ := rf3 rf
      exact fin 0 (swt t σ1) σ2 F1 F2 (fun k => (s.2.2.1 66 k (by simp)).trans (y7 k)) (qq_yes ht hx hQ fb nk sj' rf rz ry r12 e9 e12 w11 w29 ⟨w9, w10⟩ tx wds_nv tf htg rt rp) (z2.trans ((sI 2 1 (by decide) (by decide)).trans i2)) ix r12.1 (fun a z => (z1 a z).trans (y8 a z)) (rf.2.2.2.2.2.1.trans (s.2.2.2.2.2.1.trans y6)) (Po.tz' (Po.tz' y5 s.2.2.2.2.2.2) rf.2.2.2.2.2.2)
end TU3
