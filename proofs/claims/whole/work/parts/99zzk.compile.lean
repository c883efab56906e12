/-! the class's compile -/
section FRX
variable {I J R : List (Nat × Nat)} {A L : List Nat}
theorem Fr.r (σ : st_S) {a k : Nat} (v : Nat) (h : (a, k) ∈ R) : Fr 0 I J R A L σ (st_r σ a k v) := by
  refine ⟨fun _ _ _ => rfl, fun _ _ _ => rfl, fun b j q => ?_, fun _ _ => ⟨rfl, rfl⟩, fun _ _ => rfl, rfl, Po.of rfl rfl rfl rfl⟩
  show st_u σ.2.2.1 a k v b j = σ.2.2.1 b j
  by_cases e : b = a
  · by_cases e2 : j = k
    · subst e e2; exact absurd h q
    · exact st_u_k _ _ _ _ e2
  · exact st_u_a _ _ _ _ e
theorem Fr.fl (σ : st_S) {a : Nat} (v : Int32) (h : a ∈ A) : Fr 0 I J R A L σ (st_fl σ a v) := by
  refine ⟨fun _ _ _ => rfl, fun _ _ _ => rfl, fun _ _ _ => rfl, fun b q => ⟨rfl, ?_⟩, fun _ _ => rfl, rfl, Po.of rfl rfl rfl rfl⟩
  show va_up (gE σ) a _ b = gE σ b
  exact va_up_ne _ _ (fun e => q (e ▸ h))
end FRX
/-- what the class's reading and checking may change -/
abbrev FB (t : Nat) (σ σ' : st_S) : Prop := Fr 0 [(1, 9), (2, 1), (2, 2), (2, 3), (2, 4), (2, 5), (2, 6), (36, 6), (36, 8), (36, 9), (36, 10), (36, 11), (36, 12), (36, 13), (36, 14), (36, 15), (36, 16), (t + 1, 8), (46, 4), (46, 5), (46, 6), (46, 7), (46, 8), (46, 9), (46, 10), (46, 11), (46, 12), (47, 5), (42, 5), (42, 6), (t, 7), (t, 8), (t, 9), (t, 10), (t, 11)] [(42, 7), (42, 8)] [(36, 7), (46, 2), (46, 3), (42, 3), (42, 4)] [37, 38, 39, 40, 41, t + 2, t + 3, t + 4, t + 5, t + 6, t + 7, t + 8, t + 9, t + 10, t + 11, t + 12, t + 13, t + 14, t + 15, 44, 45, 48, 49, 50, 51] [] σ σ'
theorem FK.fb {t : Nat} {σ σ' : st_S} (h : FK t σ σ') : FB t σ σ' := h.1.mo (by intro a q; simp only [List.mem_cons, List.not_mem_nil, or_false] at q ⊢; rcases q with q | q | q | q | q | q | q | q | q | q | q | q | q | q | q | q | q <;> simp [q]) (by simp) (by simp) (by intro a q; simp only [List.mem_cons, List.not_mem_nil, or_false] at q ⊢; omega) (by simp)
/-- what the checker may change -/
abbrev FH (t : Nat) (σ σ' : st_S) : Prop := Fr 0 [(46, 4), (46, 5), (46, 6), (46, 7), (46, 8), (46, 9), (46, 10), (46, 11), (46, 12), (47, 5), (42, 5), (42, 6), (t, 7), (t, 8), (t, 9), (t, 10), (t, 11)] [(42, 7), (42, 8)] [(46, 2), (46, 3), (42, 3), (42, 4)] [t + 2, t + 3, t + 4, t + 5, t + 6, t + 7, t + 8, t + 9, t + 10, t + 11, t + 12, t + 13, t + 14, t + 15, 44, 45, 48, 49, 50, 51] [] σ σ'
theorem FK.fh {t : Nat} {σ σ' : st_S} (h : FK t σ σ') : FH t σ σ' := h.1.mo (fun _ q => q) (fun _ q => q) (by simp) (fun _ q => q) (fun _ q => q)
theorem FH.fb {t : Nat} {σ σ' : st_S} (h : FH t σ σ') : FB t σ σ' := h.mo (by intro a q; simp only [List.mem_cons, List.not_mem_nil, or_false] at q ⊢; rcases q with q | q | q | q | q | q | q | q | q | q | q | q | q | q | q | q | q <;> simp [q]) (by simp) (by simp) (by intro a q; simp only [List.mem_cons, List.not_mem_nil, or_false] at q ⊢; omega) (by simp)
theorem FH.sj {t : Nat} {σ σ' : st_S} {X : Xs} (ht : t = 4 ∨ t = 20) (h : FH t σ σ') (gn : gN σ' = gN σ) (sj : SJ σ t X) : ∃ X', SJ σ' t X' := by
  obtain ⟨L, hL, z1, z2, z3, z4, z5, ⟨y1, y2, y3, y4, y5⟩, z7⟩ := sj
  have gi : ∀ a k, a = 36 ∨ a = t + 1 → gI σ' a k = gI σ a k := fun a k z => h.1 a k (by
    simp only [List.mem_cons, List.not_mem_nil, or_false, Prod.mk.injEq]
    omega)
  refine ⟨(X.1, X.2.1, X.2.2.1, fun i c => gE σ' (t + 2 + c) i), L, hL, fun j a1 a2 => (gi 36 j (Or.inl rfl)).trans (z1 j a1 a2), (gi 36 6 (Or.inl rfl)).trans z2, z3, by rw [gn]; exact z4, Wa.fr (fun c hc i _ => ?_) z5, ⟨(gi (t + 1) 8 (Or.inr rfl)).trans y1, y2, y3, y4, by rw [gn]; exact y5⟩, fun _ _ _ _ => rfl⟩
  rw [(h.2.2.2.1 (37 + c) (by simp only [List.mem_cons, List.not_mem_nil, or_false]; omega)).2]
theorem FL.fb {t : Nat} {σ σ' : st_S} (h : FL t σ σ') : FB t σ σ' := h.mo (by intro a q; simp only [List.mem_cons, List.not_mem_nil, or_false] at q ⊢; rcases q with q | q | q | q | q | q | q | q | q | q | q | q | q | q | q | q <;> simp [q]) (by simp) (by simp) (by intro a q; simp only [List.mem_cons, List.not_mem_nil, or_false] at q ⊢; omega) (by simp)
/-- the tables of a text, without the names -/
def SQ (σ : st_S) (t : Nat) (E : List En) (X fs : Nat → Nat) (tge : Int32) (nc : Nat) (hs : Nat → Nat) : Prop := LN σ t ∧ (gI σ t 7 = nI (cnt E 3) ∧ gI σ t 8 = nI (cnt E 1 + cnt E 2) ∧ gI σ t 9 = nI (cnt E 2) ∧ gI σ t 10 = nI nc ∧ gI σ t 11 = tge) ∧ (cnt E 3 ≤ 12 ∧ cnt E 1 + cnt E 2 ≤ 60 ∧ nc ≤ 60) ∧
  (∀ j, j < E.length → (E.getD j eN).2.1 = 3 → X j < 12 ∧ gE σ (t + 10) (X j) = (E.getD j eN).2.2.2.2.2.1.1 ∧ gE σ (t + 11) (X j) = (E.getD j eN).2.2.2.2.2.1.2.1 ∧ gE σ (t + 12) (X j) = (E.getD j eN).2.2.2.2.2.1.2.2 ∧ gE σ (t + 13) (X j) = nI (kdn (E.getD j eN))) ∧
  (∀ j, j < E.length → (E.getD j eN).2.1 = 2 → gE σ (t + 14) (X j) = nI (fs j + tln (fTr E j))) ∧ (∀ i, i < nc → gE σ (t + 15) i = nI (hs i))
/-- a text that was taken -/
def TX (σ : st_S) (t n : Nat) (M : Nat → Nat → Int32) (l : List Int32) (w : List (Nat × Nat × Nat)) (x : Tx) (X fs : Nat → Nat) (tge : Int32) (hs : Nat → Nat) : Prop := CS σ t n M ∧ SQ σ t x.1 X fs tge x.2.2.length hs ∧ TS l w x.1 x.2.1 x.2.2 X fs M tge hs n
/-- a text stays where nothing of it changes -/
theorem TX.fr {σ σ' : st_S} {t n : Nat} {M : Nat → Nat → Int32} {l : List Int32} {w : List (Nat × Nat × Nat)} {x : Tx} {X fs : Nat → Nat} {tge : Int32} {hs : Nat → Nat} (h : TX σ t n M l w x X fs tge hs) (hI : ∀ k, 7 ≤ k → k ≤ 11 → gI σ' t k = gI σ t k) (h1 : gI σ' (t + 1) 8 = gI σ (t + 1) 8) (hA : ∀ a, t + 2 ≤ a → a ≤ t + 15 → gN σ' a = gN σ a ∧ gE σ' a = gE σ a) (hM : gN σ' 43 = gN σ 43 ∧ gN σ' 44 = gN σ 44 ∧ gN σ' 45 = gN σ 45) : TX σ' t n M l w x X fs tge hs := by
  obtain ⟨⟨q1, q2, q3, q4⟩, ⟨⟨l10, l11, l12, l13, l14, l15, l43, l44, l45⟩, ⟨b1, b2, b3, b4, b5⟩, c, s5, s6, s7⟩, hT⟩ := h
  refine ⟨⟨h1.trans q1, q2, fun c hc => ?_, fun c hc i hi => ?_⟩, ⟨⟨?_, ?_, ?_, ?_, ?_, ?_, ?_, ?_, ?_⟩, ⟨(hI 7 (by decide) (by decide)).trans b1, (hI 8 (by decide) (by decide)).trans b2, (hI 9 (by decide) (by decide)).trans b3, (hI 10 (by decide) (by decide)).trans b4, (hI 11 (by decide) (by decide)).trans b5⟩, c, ?_, ?_, ?_⟩, hT⟩
  · rw [(hA (t + 2 + c) (by omega) (by omega)).1]; exact q3 c hc
  · rw [(hA (t + 2 + c) (by omega) (by omega)).2]; exact q4 c hc i hi
  · rw [(hA (t + 10) (by omega) (by omega)).1]; exact l10
  · rw [(hA (t + 11) (by omega) (by omega)).1]; exact l11
  · rw [(hA (t + 12) (by omega) (by omega)).1]; exact l12
  · rw [(hA (t + 13) (by omega) (by omega)).1]; exact l13
  · rw [(hA (t + 14) (by omega) (by omega)).1]; exact l14
  · rw [(hA (t + 15) (by omega) (by omega)).1]; exact l15
  · rw [hM.1]; exact l43
  · rw [hM.2.1]; exact l44
  · rw [hM.2.2]; exact l45
  · rw [(hA (t + 10) (by omega) (by omega)).2, (hA (t + 11) (by omega) (by omega)).2, (hA (t + 12) (by omega) (by omega)).2, (hA (t + 13) (by omega) (by omega)).2]; exact s5
  · rw [(hA (t + 14) (by omega) (by omega)).2]; exact s6
  · rw [(hA (t + 15) (by omega) (by omega)).2]; exact s7
section CP
variable {N : Nat} {σ : st_S} {t n : Nat} {M : Nat → Nat → Int32} {l : List Int32} {w : List (Nat × Nat × Nat)}
/-- the checker's tables of names -/
def N72 (σ : st_S) : Prop := gN σ 48 = 72 ∧ gN σ 49 = 72 ∧ gN σ 50 = 72 ∧ gN σ 51 = 72
/-- the checker begins -/
def ckb (σ : st_S) (t : Nat) : st_S := st_i (st_fl (st_i (st_r (st_r (st_i (st_i (st_i (st_i (st_i (st_i (st_r (st_r σ 46 2 t) 46 3 (t + 1)) t 7 0) t 8 0) t 9 0) t 10 0) t 11 (-1)) 47 5 0) 42 3 t) 42 4 (t + 1)) 42 5 1) 44 0) 46 4 (-1)
theorem ckb_i (σ : st_S) (t a k : Nat) : gI (ckb σ t) a k = if a = 46 ∧ k = 4 then -1 else if a = 42 ∧ k = 5 then 1 else if a = 47 ∧ k = 5 then 0 else if a = t ∧ k = 11 then -1 else if a = t ∧ k = 10 then 0 else if a = t ∧ k = 9 then 0 else if a = t ∧ k = 8 then 0 else if a = t ∧ k = 7 then 0 else gI σ a k := by
  unfold ckb
  rw [gI_i]
  have e : ∀ s : st_S, gI (st_fl s 44 0) a k = gI s a k := fun s => rfl
  have r : ∀ (s : st_S) (b j v : Nat), gI (st_r s b j v) a k = gI s a k := fun s b j v => rfl
  rw [e, gI_i, r, r, gI_i, gI_i, gI_i, gI_i, gI_i, gI_i, r, r]
theorem ckb_e (σ : st_S) (t a : Nat) (h : a ≠ 44) : gE (ckb σ t) a = gE σ a := by
  show va_up (gE σ) 44 _ a = gE σ a
  exact va_up_ne _ _ h
theorem ckb_44 (σ : st_S) (t i : Nat) (h : i < gN σ 44) : gE (ckb σ t) 44 i = 0 := by
  show va_up (gE σ) 44 (fun j => if j < gN σ 44 then 0 else gE σ 44 j) 44 i = 0
  rw [va_up_self]
  exact if_pos h
theorem ckb_fh (σ : st_S) (t : Nat) : FH t σ (ckb σ t) := Fr.t0 (Fr.r _ _ (by simp)) (Fr.t0 (Fr.r _ _ (by simp)) (Fr.t0 (Fr.i _ _ (by simp)) (Fr.t0 (Fr.i _ _ (by simp)) (Fr.t0 (Fr.i _ _ (by simp)) (Fr.t0 (Fr.i _ _ (by simp)) (Fr.t0 (Fr.i _ _ (by simp)) (Fr.t0 (Fr.i _ _ (by simp)) (Fr.t0 (Fr.r _ _ (by simp)) (Fr.t0 (Fr.r _ _ (by simp)) (Fr.t0 (Fr.i _ _ (by simp)) (Fr.t0 (Fr.fl _ _ (by simp)) (Fr.i _ _ (by simp)))))))))))))
theorem F55s (s : st_S) (h : gN s 44 = 60) : F_55 N t s = some (st_fl (st_i (st_r (st_r s 42 3 t) 42 4 (t + 1)) 42 5 1) 44 0) := by
  unfold F_55
  rw [if_pos (by rw [h]; decide)]
theorem F53b (h44 : gN σ 44 = 60) : F_53 N t σ = L_53 N t N 0 (ckb σ t) := by
  unfold F_53 F_54
  rw [ob_some, F55s (st_i (st_i (st_i (st_i (st_i (st_i (st_r (st_r σ 46 2 t) 46 3 (t + 1)) t 7 0) t 8 0) t 9 0) t 10 0) t 11 (-1)) 47 5 0) h44, ob_some]
  rfl
theorem ti_0 (ht : t = 4 ∨ t = 20) (q : CS σ t n M) (hw : Wd σ l) (hL : LN σ t) (h72 : N72 σ) : TI (ckb σ t) t n M l w ([], none, []) (fun _ => 0) (fun _ => 0) (-1) (fun _ => 0) 0 := by
  have gn : gN (ckb σ t) = gN σ := rfl
  have l44 := hL.2.2.2.2.2.2.2.1
  refine ⟨?_, ?_, ?_, ?_, fun j hj => absurd hj (Nat.not_lt_zero j), ⟨fun j hj => absurd hj (Nat.not_lt_zero j), fun j hj => absurd hj (Nat.not_lt_zero j), fun i j hi => absurd hi (Nat.not_lt_zero i)⟩, fun j hj => absurd hj (Nat.not_lt_zero j), fun j hj => absurd hj (Nat.not_lt_zero j), ⟨fun j hj => absurd hj (Nat.not_lt_zero j), fun j hj => absurd hj (Nat.not_lt_zero j), fun i j hi => absurd hi (Nat.not_lt_zero i)⟩, rfl, trivial⟩
  · obtain ⟨q1, q2, q3, q4⟩ := q
    refine ⟨?_, q2, q3, fun c hc i hi => ?_⟩
    · rw [ckb_i, if_neg (by omega), if_neg (by omega), if_neg (by omega), if_neg (by omega), if_neg (by omega), if_neg (by omega), if_neg (by omega), if_neg (by omega)]; exact q1
    · rw [ckb_e _ _ _ (by omega)]; exact q4 c hc i hi
  · obtain ⟨w1, w2, w3, w4, w5⟩ := hw
    refine ⟨?_, w2, w3, w4, fun j hj => by rw [ckb_e _ _ _ (by decide)]; exact w5 j hj⟩
    rw [ckb_i, if_neg (by omega), if_neg (by omega), if_neg (by omega), if_neg (by omega), if_neg (by omega), if_neg (by omega), if_neg (by omega), if_neg (by omega)]; exact w1
  · refine ⟨⟨?_, Nat.zero_le _, h72.1, h72.2.1, h72.2.2.1, h72.2.2.2, fun j hj => absurd hj (Nat.not_lt_zero j)⟩, hL, ⟨?_, ?_, ?_, ?_, ?_⟩, ⟨Nat.zero_le _, Nat.zero_le _, Nat.zero_le _⟩, fun j hj => absurd hj (Nat.not_lt_zero j), fun j hj => absurd hj (Nat.not_lt_zero j), fun j hj => absurd hj (Nat.not_lt_zero j)⟩
    · rw [ckb_i, if_neg (by omega), if_neg (by omega), if_pos ⟨rfl, rfl⟩]; rfl
    · rw [ckb_i, if_neg (by omega), if_neg (by omega), if_neg (by omega), if_neg (by omega), if_neg (by omega), if_neg (by omega), if_neg (by omega), if_pos ⟨rfl, rfl⟩]; rfl
    · rw [ckb_i, if_neg (by omega), if_neg (by omega), if_neg (by omega), if_neg (by omega), if_neg (by omega), if_neg (by omega), if_pos ⟨rfl, rfl⟩]; rfl
    · rw [ckb_i, if_neg (by omega), if_neg (by omega), if_neg (by omega), if_neg (by omega), if_neg (by omega), if_pos ⟨rfl, rfl⟩]; rfl
    · rw [ckb_i, if_neg (by omega), if_neg (by omega), if_neg (by omega), if_neg (by omega), if_pos ⟨rfl, rfl⟩]; rfl
    · rw [ckb_i, if_neg (by omega), if_neg (by omega), if_neg (by omega), if_pos ⟨rfl, rfl⟩]
  · intro x hx
    rw [ckb_44 _ _ _ (by omega), ckb_i, if_neg (by omega), if_pos ⟨rfl, rfl⟩]
    decide
/-- the end of the loop -/
theorem L53e (q : CS σ t n M) {k : Nat} (hw : Wd σ l) : L_53 N t (k + 1) (nI n) σ = if 0 ≤ gI σ t 11 then some (0, σ) else some (10, st_i σ 46 4 (nI l.length)) := by
  have hn := q.2.1
  unfold L_53
  rw [q.1, if_pos ((nI_lei (by omega) (by omega)).mpr (Nat.le_refl _)), hw.1]
  rfl
/-- the class's checker on a text -/
theorem F53c (ht : t = 4 ∨ t = 20) (hN : 200000 < N) (hP : Pw l w) (hnv : Nvk l w) (q : CS σ t n M) (hw : Wd σ l) (hL : LN σ t) (h72 : N72 σ) {I : List It} {m i : Nat} (hI : IL l w M I n i) (hm : kP w m = l.length) : match txt l w I m with
    | .inl e => ∃ σ', F_53 N t σ = some (nI e.1, σ') ∧ gI σ' 46 4 = nI e.2 ∧ FH t σ σ' ∧ gN σ' = gN σ
    | .inr x => ∃ σ' M' X fs tge hs, F_53 N t σ = some (0, σ') ∧ gI σ' 46 4 = -1 ∧ TI σ' t n M' l w x X fs tge hs n ∧ FH t σ σ' ∧ gN σ' = gN σ := by
  have hn := q.2.1
  have T0 := ti_0 (w := w) ht q hw hL h72
  have p4 : gI (ckb σ t) 46 4 = -1 := by rw [ckb_i, if_pos ⟨rfl, rfl⟩]
  have K := it_all (N := N) ht hN hP hnv T0 p4 I n i hI (Nat.le_refl n)
  have F := F53b (N := N) (t := t) (σ := σ) hL.2.2.2.2.2.2.2.1
  have e0 : N = N - n - 1 + 1 + n := by omega
  have fb := ckb_fh σ t
  unfold txt
  cases ha : itA l w I with
  | inl e =>
    rw [ha] at K
    rw [sbd_l]
    obtain ⟨σ', z1, z2, z3⟩ := K
    refine ⟨σ', ?_, z2, Fr.t0 fb z3.fh, z3.2.1⟩
    have := z1 (N - n - 1 + 1)
    rw [Nat.sub_zero, ← e0] at this
    rw [F]
    exact this
  | inr x =>
    rw [ha] at K
    rw [sbd_r]
    obtain ⟨σ1, M1, X, fs, tge, hs, z1, z2, z3, z4, z5⟩ := K
    have Z := z1 (N - n - 1 + 1)
    rw [Nat.sub_zero, ← e0, Nat.zero_add] at Z
    have F' : F_53 N t σ = L_53 N t (N - n - 1 + 1) (nI n) σ1 := F.trans Z
    rw [L53e z2.1 z2.2.1] at F'
    have b5 : gI σ1 t 11 = tge := z2.2.2.1.2.2.1.2.2.2.2
    rw [b5] at F'
    obtain ⟨E, tg, C⟩ := x
    have tg10 := z2.2.2.2.2.2.2.2.2.2.1
    cases tg with
    | none =>
      have tg10 : tge = -1 := tg10
      rw [tg10, if_neg (by decide)] at F'
      dsimp only
      refine ⟨_, F', ?_, Fr.t0 fb (Fr.t0 z4.fh (Fr.i _ _ (by simp))), z4.2.1⟩
      rw [gI_i, if_pos ⟨rfl, rfl⟩, hm]
    | some T =>
      obtain ⟨a, m', y1, y2, -⟩ := tg10
      rw [y1, if_pos (show (0 : Int32) ≤ nI (a + tln T) from (nI_lei (a := 0) (by decide) (by omega)).mpr (by omega))] at F'
      dsimp only
      exact ⟨σ1, M1, X, fs, tge, hs, F', z5, z2, Fr.t0 fb z4.fh, z4.2.1⟩
/-- the class reads, checks, takes a text -/
theorem F15c (ht : t = 4 ∨ t = 20) (hN : 200000 < N) (ho : Ok l) (hq : gC σ + 400000 < vz_M0) (hw : Wd σ l) {Y : Xs} (hs : SJ σ t Y) (hL : LN σ t) (h72 : N72 σ) : match crd (kds l) c0 0 with
    | some e => ∃ σ', F_15 N t σ = some (1, σ') ∧ gI σ' 1 9 = nI (kP (wds l) e) ∧ e < (wds l).length ∧ FB t σ σ' ∧ gI σ' 2 1 = 0 ∧ ∃ X', SJ σ' t X'
    | none => ∃ I m, PI (wds l) I m ∧ kK (wds l) m = 0 ∧ m < (wds l).length ∧ match txt l (wds l) I m with
      | .inl e => ∃ σ', F_15 N t σ = some (nI e.1, σ') ∧ gI σ' 1 9 = nI e.2 ∧ FB t σ σ' ∧ gI σ' 2 1 = 0 ∧ ∃ X', SJ σ' t X'
      | .inr x => ∃ σ' n M X fs tge hs, F_15 N t σ = some (0, st_i (st_i (st_i (st_i (st_i (st_i (st_r (st_r σ' 1 5 t) 1 6 (24 - t)) 1 7 1) 1 8 0) 52 9 0) 52 10 0) 52 11 0) 52 12 0) ∧ gI σ' 1 9 = -1 ∧ TX σ' t n M l (wds l) x X fs tge hs ∧ FB t σ σ' ∧ gI σ' 2 1 = 0 ∧ ∃ X', SJ σ' t X' := by
  have hl := hw.2.2.2.1
  obtain ⟨σ1, r, f1, w1, ⟨p, rc⟩, fl⟩ := F16 (N := N) ht (by omega) ho hq hw hs
  have fb1 : FB t σ σ1 := Fr.t0 (Fr.r _ _ (by simp)) (FL.fb fl)
  have SJi : ∀ {s : st_S} {X' : Xs} {a k : Nat} (v : Int32), a ≠ 36 → a ≠ t + 1 → SJ s t X' → SJ (st_i s a k v) t X' := fun {s X' a k} v h1 h2 hs => by
    obtain ⟨L, hL, z1, z2, z3, z4, z5, z6, z7⟩ := hs
    refine ⟨L, hL, fun j a1 a2 => ?_, ?_, z3, z4, Wa.fr (σ := s) (fun _ _ _ _ => rfl) z5, ⟨?_, z6.2⟩, z7⟩
    · rw [gI_i, if_neg (by omega)]; exact z1 j a1 a2
    · rw [gI_i, if_neg (by omega)]; exact z2
    · rw [gI_i, if_neg (by omega)]; exact z6.1
  cases hc : crd (kds l) c0 0 with
  | some e =>
    rw [hc] at rc
    obtain ⟨r0, -, ⟨q, q1, q2⟩, X', sj⟩ := rc
    dsimp only
    subst r0
    rw [Nat.sub_zero] at q1
    have lt : e < (wds l).length := (List.getElem?_eq_some_iff.mp q1).1
    refine ⟨st_i (st_i σ1 1 9 (gI σ1 2 4)) 2 1 0, ?_, ?_, lt, Fr.t0 fb1 (Fr.t0 (Fr.i _ _ (by simp)) (Fr.i _ _ (by simp))), by rw [gI_i, if_pos ⟨rfl, rfl⟩], X', SJi _ (by omega) (by omega) (SJi _ (by omega) (by omega) sj)⟩
    · unfold F_15
      rw [f1, ob_some]
      rfl
    · rw [gI_i, if_neg (by simp), gI_i, if_pos ⟨rfl, rfl⟩, q2]
      unfold kP
      rw [List.getD_eq_getElem?_getD, q1]
      rfl
  | none =>
    rw [hc] at rc
    obtain ⟨r1, X', xr, sj⟩ := rc
    subst r1
    dsimp only
    have pz : PZ l (wds l) (up p 8 0, Y.2.1, 0, Y.2.2.2) c0 0 := by
      show PX l (wds l) (up p 8 0) Y.2.1 0 Y.2.2.2 0 0 [] false 0
      unfold PX
      rw [if_pos rfl]
      exact ⟨[], rfl, rfl⟩
    have lw := (ws_ok l l.length (skp l 0)).2
    have wo : wok (kds l) = true := (ws_ok l l.length (skp l 0)).1
    have lw : (wds l).length ≤ l.length + 1 := lw
    obtain ⟨I, m, x1, x2, x3, x4⟩ := px_all (l := l) (w := wds l) (wds_Pl hl) (by omega) (wds l) 0 c0 (up p 8 0, Y.2.1, 0, Y.2.2.2) X' rfl wo ⟨rfl, fun q => absurd q (by decide), fun _ => Nat.le_refl _, fun q => absurd rfl q⟩ rfl pz hc xr
    refine ⟨I, m, x1.pi, x2, x3, ?_⟩
    have cs : CS σ1 t X'.2.2.1 X'.2.2.2 := by
      obtain ⟨L, hL, z1, z2, z3, z4, z5, ⟨y1, y2, y3, y4, y5⟩, z7⟩ := sj
      exact ⟨y1, x4, fun c hc => by rw [y5 c hc]; exact ⟨y2, hL⟩, z7⟩
    have ln : LN σ1 t := by
      have g : ∀ a, (t + 10 ≤ a ∧ a ≤ t + 15 ∨ 43 ≤ a ∧ a ≤ 45) → gN σ1 a = gN σ a := fun a h => (fl.2.2.2.1 a (by simp only [List.mem_cons, List.not_mem_nil, or_false]; omega)).1
      obtain ⟨l10, l11, l12, l13, l14, l15, l43, l44, l45⟩ := hL
      exact ⟨(g _ (by omega)).trans l10, (g _ (by omega)).trans l11, (g _ (by omega)).trans l12, (g _ (by omega)).trans l13, (g _ (by omega)).trans l14, (g _ (by omega)).trans l15, (g _ (by omega)).trans l43, (g _ (by omega)).trans l44, (g _ (by omega)).trans l45⟩
    have n72 : N72 σ1 := by
      have g : ∀ a, 48 ≤ a ∧ a ≤ 51 → gN σ1 a = gN σ a := fun a h => (fl.2.2.2.1 a (by simp only [List.mem_cons, List.not_mem_nil, or_false]; omega)).1
      exact ⟨(g _ (by omega)).trans h72.1, (g _ (by omega)).trans h72.2.1, (g _ (by omega)).trans h72.2.2.1, (g _ (by omega)).trans h72.2.2.2⟩
    have K := F53c (N := N) ht hN (wds_Pw hl) wds_nv cs w1 ln n72 x1 (wds_end x2 x3)
    cases ht' : txt l (wds l) I m with
    | inl e =>
      rw [ht'] at K
      dsimp only at K ⊢
      obtain ⟨σ2, k1, k2, k3, k4⟩ := K
      have er := txt_er x1.pi ht'
      refine ⟨st_i (st_i σ2 1 9 (gI σ2 46 4)) 2 1 0, ?_, ?_, Fr.t0 fb1 (Fr.t0 (FH.fb k3) (Fr.t0 (Fr.i _ _ (by simp)) (Fr.i _ _ (by simp)))), by rw [gI_i, if_pos ⟨rfl, rfl⟩], ?_⟩
      · unfold F_15
        rw [f1, ob_some]
        dsimp only
        rw [if_neg (by decide), k1, ob_some]
        unfold J_15_58
        dsimp only
        rw [if_neg (show ¬ nI e.1 = 0 from nik (m := 0) (by omega) (by decide) (by omega))]
      · rw [gI_i, if_neg (by simp), gI_i, if_pos ⟨rfl, rfl⟩, k2]
      · obtain ⟨X'', s2⟩ := FH.sj ht k3 k4 sj
        exact ⟨X'', SJi _ (by omega) (by omega) (SJi _ (by omega) (by omega) s2)⟩
    | inr x =>
      rw [ht'] at K
      dsimp only at K ⊢
      obtain ⟨σ2, M2, X, fs, tge, hs2, k1, k2, k3, k4, k5⟩ := K
      have tx : TX σ2 t X'.2.2.1 M2 l (wds l) x X fs tge hs2 := ⟨k3.1, k3.2.2.1.2, k3.2.2.2.2⟩
      refine ⟨st_i (st_i σ2 1 9 (gI σ2 46 4)) 2 1 0, X'.2.2.1, M2, X, fs, tge, hs2, ?_, ?_, tx.fr (fun k a b => ?_) ?_ (fun a _ _ => ⟨rfl, rfl⟩) ⟨rfl, rfl, rfl⟩, Fr.t0 fb1 (Fr.t0 (FH.fb k4) (Fr.t0 (Fr.i _ _ (by simp)) (Fr.i _ _ (by simp)))), by rw [gI_i, if_pos ⟨rfl, rfl⟩], ?_⟩
      · unfold F_15
        rw [f1, ob_some]
        dsimp only
        rw [if_neg (by decide), k1, ob_some]
        rfl
      · rw [gI_i, if_neg (by simp), gI_i, if_pos ⟨rfl, rfl⟩, k2]
      · rw [gI_i, if_neg (by omega), gI_i, if_neg (by omega)]
      · rw [gI_i, if_neg (by omega), gI_i, if_neg (by omega)]
      · obtain ⟨X'', s2⟩ := FH.sj ht k4 k5 sj
        exact ⟨X'', SJi _ (by omega) (by omega) (SJi _ (by omega) (by omega) s2)⟩
end CP
