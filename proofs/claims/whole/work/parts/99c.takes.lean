/-! the class's parser: a word is taken; pure, and in the store -/
/-- what a test left -/
def Oc (σ0 σ' : st_S) (t : Nat) (o : Option Xs) (r : Int32) : Prop := match o with
  | none => r = 0 ∧ ∃ X', SX σ0 σ' t X'
  | some X' => r = 1 ∧ SX σ0 σ' t X'
def Hx (F : Option (Int32 × st_S)) (σ0 : st_S) (t : Nat) (o : Option Xs) : Prop := ∃ r σ', F = some (r, σ') ∧ Oc σ0 σ' t o r
theorem Oc.r {σ0 σ' : st_S} {t : Nat} {o : Option Xs} {r : Int32} (h : Oc σ0 σ' t o r) : r = 0 ∨ r = 1 := by
  cases o with
  | none => exact Or.inl h.1
  | some X => exact Or.inr h.1
section HX
variable {F : Option (Int32 × st_S)} {σ0 : st_S} {t : Nat} {o : Option Xs}
theorem Hx.w1 (h : Hx F σ0 t o) : Hx (F.bind fun p => if (p.1 = 0 ∨ p.1 = 1) then some (p.1, p.2) else none) σ0 t o := by
  obtain ⟨r, σ', e, q⟩ := h
  refine ⟨r, σ', ?_, q⟩
  rw [e, ob_some]
  exact if_pos q.r
theorem Hx.w2 (h : Hx F σ0 t o) : Hx (F.bind fun p => some ((if p.1 = 0 then 0 else 1 : Int32), p.2)) σ0 t o := by
  obtain ⟨r, σ', e, q⟩ := h
  refine ⟨r, σ', ?_, q⟩
  rw [e, ob_some]
  rcases q.r with z | z <;> subst z <;> rfl
theorem Hx.an {G : st_S → Option (Int32 × st_S)} {o' : Xs → Option Xs} (h : Hx F σ0 t o) (k : ∀ σ1 X1, o = some X1 → SX σ0 σ1 t X1 → Hx (G σ1) σ0 t (o' X1)) : Hx (F.bind fun p => if p.1 = 0 then some (0, p.2) else G p.2) σ0 t (o.bind o') := by
  obtain ⟨r, σ', e, q⟩ := h
  cases o with
  | none =>
    obtain ⟨q1, X', q2⟩ := q
    subst q1
    exact ⟨0, σ', by rw [e, ob_some]; rfl, rfl, X', q2⟩
  | some X1 =>
    obtain ⟨q1, q2⟩ := q
    subst q1
    obtain ⟨r2, σ2, e2, k2⟩ := k σ' X1 rfl q2
    exact ⟨r2, σ2, by rw [e, ob_some]; exact e2, k2⟩
theorem Hx.ite {c : Prop} [Decidable c] {A B : Option (Int32 × st_S)} {o1 o2 : Option Xs} (h1 : c → Hx A σ0 t o1) (h2 : ¬ c → Hx B σ0 t o2) : Hx (if c then A else B) σ0 t (if c then o1 else o2) := by
  by_cases q : c
  · rw [if_pos q, if_pos q]; exact h1 q
  · rw [if_neg q, if_neg q]; exact h2 q
theorem Hx.no {σ : st_S} {X : Xs} (h : SX σ0 σ t X) : Hx (some (0, σ)) σ0 t none := ⟨0, σ, rfl, rfl, X, h⟩
theorem Hx.ys {σ : st_S} {X : Xs} (h : SX σ0 σ t X) : Hx (some (1, σ)) σ0 t (some X) := ⟨1, σ, rfl, rfl, h⟩
end HX
section TK
variable {N t : Nat} {σ0 σ : st_S} {X : Xs}
theorem SX.w (ht : t = 4 ∨ t = 20) (h : SX σ0 σ t X) (k : Nat) : gI σ 2 k = gI σ0 2 k := h.1.1 2 k (by simp only [List.mem_cons, List.not_mem_nil, or_false, Prod.mk.injEq]; omega)
theorem SX.p (h : SX σ0 σ t X) {k : Nat} (h1 : 8 ≤ k := by decide) (h2 : k ≤ 16 := by decide) : gI σ 36 k = X.1 k := by
  obtain ⟨_, _, _, hs⟩ := h
  exact hs.1 k h1 h2
theorem SX.h (h : SX σ0 σ t X) : gI σ 36 6 = nI X.2.1.length ∧ X.2.1.length ≤ 256 := by
  obtain ⟨_, _, _, hs⟩ := h
  exact ⟨hs.2.1, hs.2.2.1⟩
theorem SX.L (h : SX σ0 σ t X) {c : Nat} (hc : c < 8) : X.2.2.1 ≤ gN σ (t + 2 + c) ∧ gN σ (t + 2 + c) ≤ 50000 := by
  obtain ⟨_, L, hL, hs⟩ := h
  have := hs.2.2.2.2.2.1.2.2.2.2 c hc
  have := hs.2.2.2.2.2.1.2.1
  omega
theorem SX.M (h : SX σ0 σ t X) {c i : Nat} (hc : c < 8) (hi : i < X.2.2.1) : gE σ (t + 2 + c) i = X.2.2.2 i c := by
  obtain ⟨_, L, hL, hs⟩ := h
  exact hs.2.2.2.2.2.2 c hc i hi
theorem SX.z (h : SX σ0 σ t X) : gI σ (t + 1) 8 = nI X.2.2.1 := by
  obtain ⟨_, L, hL, hs⟩ := h
  exact hs.2.2.2.2.2.1.1
theorem SX.aN (h : SX σ0 σ t X) {c j : Nat} (hc : c < 8) (hj : j < X.2.2.1) : aB (nI j) (gN σ (t + 2 + c)) := by
  have := h.L hc
  exact aB_nI (by omega) (by omega)
/-- the top of what waits is changed -/
theorem SX.top {p e : Nat → Int32} {W : List (Nat → Int32)} {Z : Nat × (Nat → Nat → Int32)} (ht : t = 4 ∨ t = 20) (h : SX σ0 σ t (p, e :: W, Z)) {c : Nat} (hc : c < 5) (v : Int32) : SX σ0 (st_e σ (37 + c) W.length v) t (p, up e c v :: W, Z) := by
  obtain ⟨f, L, hL, hs⟩ := h
  obtain ⟨h1, h2, h3, h4, h5, h6, h7⟩ := hs
  refine ⟨Fr.t0 f (Fr.e _ _ _ ?_), L, hL, h1, h2, h3, h4, ⟨fun d hd => ?_, Wa.fr (σ := σ) (fun d hd i hi => ?_) h5.2⟩, h6, fun d hd i hi => ?_⟩
  · rcases c5 hc with rfl | rfl | rfl | rfl | rfl <;> simp
  · show st_u (gE σ) (37 + c) W.length v (37 + d) W.length = up e c v d
    unfold st_u up
    by_cases q : d = c
    · rw [if_pos q, if_pos ⟨by omega, rfl⟩]
    · rw [if_neg q, if_neg (by omega)]; exact h5.1 d hd
  · exact st_u_k _ _ _ _ (by have hi : i < W.length := hi; omega)
  · exact (st_u_a _ _ _ _ (by omega)).trans (h7 d hd i hi)
theorem F31' (ht : t = 4 ∨ t = 20) (x1 x2 : Int32) (h : SX σ0 σ t X) : Hx (F_31 N x1 x2 σ) σ0 t (xpush x1 x2 (gI σ0 2 4) X) := by
  have hw := h.w ht 4
  obtain ⟨f, L, hL, hs⟩ := h
  obtain ⟨r, σ', e1, e2, e3⟩ := F31 (N := N) ht x1 x2 hs
  rw [hw] at e3
  refine ⟨r, σ', e1, ?_⟩
  cases q : xpush x1 x2 (gI σ0 2 4) X with
  | none =>
    rw [q] at e3
    refine ⟨e3, X, ?_⟩
    unfold xpush at q
    split at q
    · cases q
    · rename_i c
      unfold F_31 at e1
      have hh := hs.2.1
      have hl := hs.2.2.1
      have nl : ¬ gI σ 36 6 < 256 := by
        rw [hh]
        exact fun z => c ((nI_lti (b := 256) (by omega) (by decide)).mp z)
      rw [if_neg nl] at e1
      have : σ = σ' := congrArg (fun z => z.2) (Option.some.inj e1)
      subst this
      exact ⟨f, L, hL, hs⟩
  | some X' =>
    rw [q] at e3
    exact ⟨e3.1, Fr.t0 f e2, L, hL, e3.2⟩
/-- what wants next -/
def xw (v : Int32) (X : Xs) : Xs := (up X.1 8 v, X.2)
theorem SX.xw (ht : t = 4 ∨ t = 20) (h : SX σ0 σ t X) (v : Int32) : SX σ0 (st_i σ 36 8 v) t (xw v X) := SX.i ht h (by decide) (by decide) v
theorem F32' (ht : t = 4 ∨ t = 20) (v : Int32) (h : SX σ0 σ t X) : Hx (F_32 N v σ) σ0 t (some (xw v X)) := Hx.ys (h.xw ht v)
def xdeep (X : Xs) : Option Xs := if X.1 12 < 40 then some (up X.1 12 (X.1 12 + 1), X.2) else none
theorem F36' (ht : t = 4 ∨ t = 20) (h : SX σ0 σ t X) : Hx (F_36 N σ) σ0 t (xdeep X) := by
  unfold F_36 xdeep
  rw [h.p]
  exact Hx.ite (fun _ => Hx.ys (h.i ht (by decide) (by decide) _)) (fun _ => Hx.no h)
/-- all jumps are nodes -/
def VX (B : Nat) (X : Xs) : Prop := X.2.2.1 + X.2.1.length + B < 25000 ∧ ∀ e ∈ X.2.1, jok e X.2.2.1 ∧ (e 0 = 36 → ∃ j, j < X.2.2.1 ∧ e 4 = nI j)
theorem jok.mo {e : Nat → Int32} {n m : Nat} (h : jok e n) (q : n ≤ m) : jok e m := by
  rcases h with h | ⟨j, j1, j2⟩
  · exact Or.inl h
  · exact Or.inr ⟨j, by omega, j2⟩
def xbX (h : Int32) (X : Xs) : Xs := xb h X.2.1 X.1 X.2.2.1 X.2.2.2
theorem xb_ok {B : Nat} (h : Int32) : ∀ (W : List (Nat → Int32)) (p : Nat → Int32) (n : Nat) (M : Nat → Nat → Int32), VX B (p, W, n, M) → VX B (xb h W p n M) ∧ n ≤ (xb h W p n M).2.2.1 := by
  intro W
  induction W with
  | nil => intro p n M q; exact ⟨q, Nat.le_refl _⟩
  | cons e W ih =>
    intro p n M q
    have ex : xb h (e :: W) p n M = if hI (e 0) < h then (p, e :: W, n, M) else xb h W (bpp e p n) (n + 1) (bMM e p n M) := rfl
    rw [ex]
    by_cases c : hI (e 0) < h
    · rw [if_pos c]; exact ⟨q, Nat.le_refl _⟩
    · rw [if_neg c]
      obtain ⟨q1, q2⟩ := q
      have q1 : n + (W.length + 1) + B < 25000 := q1
      have := ih (bpp e p n) (n + 1) (bMM e p n M) ⟨by show n + 1 + W.length + B < 25000; omega, fun e' he => by
        obtain ⟨z1, z2⟩ := q2 e' (List.mem_cons_of_mem _ he)
        exact ⟨z1.mo (Nat.le_succ n), fun z => by obtain ⟨j, j1, j2⟩ := z2 z; exact ⟨j, Nat.lt_succ_of_lt j1, j2⟩⟩⟩
      exact ⟨this.1, by omega⟩
theorem xbX_ok {B : Nat} (h : Int32) (q : VX B X) : VX B (xbX h X) := (xb_ok h X.2.1 X.1 X.2.2.1 X.2.2.2 q).1
theorem F28' {B : Nat} (ht : t = 4 ∨ t = 20) (hN : 1000 < N) (hq : gC σ0 + 200000 < vz_M0) (h : Int32) (hx : SX σ0 σ t X) (hv : VX B X) : ∃ σ', F_28 N t h σ = some σ' ∧ SX σ0 σ' t (xbX h X) := F28 hN h ht hq hx (by have := hv.1; omega) (fun e he => (hv.2 e he).1)
def xbin (op h st : Int32) (X : Xs) : Option Xs := xpush op (-1) st (xbX h X)
theorem F27' {B : Nat} (ht : t = 4 ∨ t = 20) (hN : 1000 < N) (hq : gC σ0 + 200000 < vz_M0) (op h : Int32) (hx : SX σ0 σ t X) (hv : VX B X) : Hx (F_27 N t op h σ) σ0 t (xbin op h (gI σ0 2 4) X) := by
  obtain ⟨σ1, e1, s1⟩ := F28' ht hN hq h hx hv
  unfold F_27
  rw [e1, ob_some]
  exact (F31' ht op (-1) s1).w1
def xcmp (op st : Int32) (X : Xs) : Option Xs := if hW (xbX 6 X).2.1 = 5 then none else xpush op (-1) st (xbX 6 X)
theorem SX.hold (h : SX σ0 σ t X) : F_29 N σ = some (hW X.2.1, σ) := by
  obtain ⟨_, _, _, hs⟩ := h
  exact F29 hs
theorem F33' {B : Nat} (ht : t = 4 ∨ t = 20) (hN : 1000 < N) (hq : gC σ0 + 200000 < vz_M0) (op : Int32) (hx : SX σ0 σ t X) (hv : VX B X) : Hx (F_33 N t op σ) σ0 t (xcmp op (gI σ0 2 4) X) := by
  obtain ⟨σ1, e1, s1⟩ := F28' ht hN hq 6 hx hv
  unfold F_33 xcmp
  rw [e1, ob_some, s1.hold, ob_some]
  exact Hx.ite (fun _ => Hx.no s1) (fun _ => (F31' ht op (-1) s1).w2)
def xlog (op h sk st : Int32) (X : Xs) : Option Xs := xpush op (nI (xbX h X).2.2.1) st (xem sk st ((xbX h X).1 13) (-1) (-1) (xbX h X))
theorem F34' {B : Nat} (ht : t = 4 ∨ t = 20) (hN : 1000 < N) (hq : gC σ0 + 200000 < vz_M0) (op h sk : Int32) (hx : SX σ0 σ t X) (hv : VX B X) : Hx (F_34 N t op h sk σ) σ0 t (xlog op h sk (gI σ0 2 4) X) := by
  obtain ⟨σ1, e1, s1⟩ := F28' ht hN hq h hx hv
  have v1 := xbX_ok h hv
  obtain ⟨σ2, e2, s2, -⟩ := E30' (N := N) ht hq sk (gI σ0 2 4) ((xbX h X).1 13) (-1) (-1) s1 (by have := v1.1; omega)
  unfold F_34
  rw [e1, ob_some, s1.w ht, s1.p, e2, ob_some]
  exact (F31' ht op _ s2).w1
def xq (st : Int32) (Y : Xs) : Option Xs := (xdeep Y).bind fun Z => xpush 36 (nI Z.2.2.1) st (xem 23 st (Z.1 13) (-1) (-1) Z)
def xask (st : Int32) (X : Xs) : Option Xs := if nI (xbX 2 X).2.1.length = 0 then (if (xbX 2 X).1 9 = 6 then none else xq st (xbX 2 X)) else xq st (xbX 2 X)
theorem J35 (ht : t = 4 ∨ t = 20) (hq : gC σ0 + 200000 < vz_M0) (hx : SX σ0 σ t X) (hv : X.2.2.1 < 25000) : Hx (J_35_23 N t σ) σ0 t (xq (gI σ0 2 4) X) := by
  unfold J_35_23 xq
  refine Hx.an (G := fun s => (F_30 N t 23 (gI s 2 4) (gI s 36 13) (-1) (-1) s).bind fun p_6 =>
    (F_31 N 36 p_6.1 (p_6.2)).bind fun p_7 => some ((if p_7.1 = 0 then 0 else 1 : Int32), p_7.2)) (F36' ht hx) fun σ1 X1 ho s1 => ?_
  have hn : X1.2.2.1 < 25000 := by
    unfold xdeep at ho
    split at ho
    · obtain rfl := Option.some.inj ho; exact hv
    · cases ho
  obtain ⟨σ2, e2, s2, -⟩ := E30' (N := N) ht hq 23 (gI σ0 2 4) (X1.1 13) (-1) (-1) s1 hn
  rw [s1.w ht, s1.p, e2, ob_some]
  exact (F31' ht 36 _ s2).w2
theorem F35' {B : Nat} (ht : t = 4 ∨ t = 20) (hN : 1000 < N) (hq : gC σ0 + 200000 < vz_M0) (hx : SX σ0 σ t X) (hv : VX B X) : Hx (F_35 N t σ) σ0 t (xask (gI σ0 2 4) X) := by
  obtain ⟨σ1, e1, s1⟩ := F28' ht hN hq 2 hx hv
  have v1 := xbX_ok 2 hv
  have j := J35 (N := N) ht hq s1 (by have := v1.1; omega)
  unfold F_35 xask
  rw [e1, ob_some, s1.h.1, s1.p]
  exact Hx.ite (fun _ => Hx.ite (fun _ => Hx.no s1) (fun _ => j)) (fun _ => j)
def xopen (r : Int32) (X : Xs) : Xs := (up (up (up (up (up X.1 9 r) 10 (-1)) 11 (nI X.2.2.1)) 12 (if r = 7 then 1 else 0)) 8 14, [], X.2.2)
theorem SX.emp (ht : t = 4 ∨ t = 20) (h : SX σ0 σ t X) : SX σ0 (st_i σ 36 6 0) t (X.1, [], X.2.2) := by
  obtain ⟨f, L, hL, h1, h2, h3, h4, h5, h6, h7⟩ := h
  refine ⟨Fr.t0 f (Fr.i _ _ (by simp)), L, hL, fun k a b => ?_, ?_, Nat.zero_le _, h4, trivial, ⟨?_, h6.2⟩, h7⟩
  · rw [gI_i, if_neg (by omega)]; exact h1 k a b
  · rw [gI_i, if_pos ⟨rfl, rfl⟩]; rfl
  · rw [gI_i, if_neg (by omega)]; exact h6.1
theorem F39' (ht : t = 4 ∨ t = 20) (r : Int32) (h : SX σ0 σ t X) : Hx (F_39 N t r σ) σ0 t (some (xopen r X)) := by
  unfold F_39
  rw [h.z]
  have a1 := SX.i (k := 9) ht h (by decide) (by decide) r
  have a2 := SX.i (k := 10) ht a1 (by decide) (by decide) (-1)
  have a3 := SX.i (k := 11) ht a2 (by decide) (by decide) (nI X.2.2.1)
  have a4 := SX.emp ht a3
  have a5 := SX.i (k := 12) ht a4 (by decide) (by decide) (if r = 7 then 1 else 0)
  exact Hx.ys (SX.i (k := 8) ht a5 (by decide) (by decide) 14)
def xfin (st : Int32) (X : Xs) : Xs := xw 0 (xem 34 st (-1) (-1) (-1) X)
theorem F40' (ht : t = 4 ∨ t = 20) (hq : gC σ0 + 200000 < vz_M0) (h : SX σ0 σ t X) (hn : X.2.2.1 < 25000) : Hx (F_40 N t σ) σ0 t (some (xfin (gI σ0 2 4) X)) := by
  obtain ⟨σ2, e2, s2, -⟩ := E30' (N := N) ht hq 34 (gI σ0 2 4) (-1) (-1) (-1) h hn
  unfold F_40
  rw [h.w ht, e2, ob_some]
  exact (F32' ht 0 s2).w1
def xbr (X : Xs) : Xs := xopen 6 (up X.1 15 (nI X.2.2.1), (xem 32 (-1) (-1) (-1) (-1) X).2)
theorem F41' (ht : t = 4 ∨ t = 20) (hq : gC σ0 + 200000 < vz_M0) (h : SX σ0 σ t X) (hn : X.2.2.1 < 25000) : Hx (F_41 N t σ) σ0 t (some (xbr X)) := by
  obtain ⟨σ2, e2, s2, -⟩ := E30' (N := N) ht hq 32 (-1) (-1) (-1) (-1) h hn
  unfold F_41
  rw [e2, ob_some]
  exact (F39' ht 6 (SX.i (k := 15) ht s2 (by decide) (by decide) (nI X.2.2.1))).w1
end TK
