/-! the class's parser: every word -/
section TN
variable {N t : Nat} {σ0 σ : st_S} {X : Xs}
def xopr (K st : Int32) (X : Xs) : Option Xs :=
  if K = 37 then xbin 8 7 st X else if K = 38 then xlog 17 3 23 st X else if K = 42 then xbin 6 7 st X else if K = 43 then xbin 4 6 st X else if K = 45 then xbin 5 6 st X else if K = 47 then xbin 7 7 st X else if K = 60 then xcmp 12 st X else if K = 61 then xcmp 10 st X else if K = 62 then xcmp 14 st X else if K = 63 then xask st X else if K = 124 then xlog 18 2 24 st X else if K = 258 then xcmp 11 st X else if K = 259 then xcmp 13 st X else if K = 260 then xcmp 15 st X else xend K st X
theorem F26' {B : Nat} (hB : 20 ≤ B) (ht : t = 4 ∨ t = 20) (hN : 1000 < N) (hq : gC σ0 + 200000 < vz_M0) (hx : SX σ0 σ t X) (hv : VX B X) (hb : X.1 9 = 6 → ∃ j, j < X.2.2.1 ∧ X.1 15 = nI j) : Hx (F_26 N t σ) σ0 t (xopr (gI σ0 2 3) (gI σ0 2 4) X) := by
  have b := fun op h => F27' (N := N) ht hN hq op h hx hv
  have c := fun op => F33' (N := N) ht hN hq op hx hv
  have l := fun op h sk => F34' (N := N) ht hN hq op h sk hx hv
  have a := F35' (N := N) ht hN hq hx hv
  have z := F37' (N := N) hB ht hN hq hx hv hb
  unfold F_26 xopr
  rw [hx.w ht]
  refine Hx.ite (fun _ => (b 8 7).w1) fun _ => ?_
  refine Hx.ite (fun _ => (l 17 3 23).w1) fun _ => ?_
  refine Hx.ite (fun _ => (b 6 7).w1) fun _ => ?_
  refine Hx.ite (fun _ => (b 4 6).w1) fun _ => ?_
  refine Hx.ite (fun _ => (b 5 6).w1) fun _ => ?_
  refine Hx.ite (fun _ => (b 7 7).w1) fun _ => ?_
  refine Hx.ite (fun _ => (c 12).w1) fun _ => ?_
  refine Hx.ite (fun _ => (c 10).w1) fun _ => ?_
  refine Hx.ite (fun _ => (c 14).w1) fun _ => ?_
  refine Hx.ite (fun _ => a.w1) fun _ => ?_
  refine Hx.ite (fun _ => (l 18 2 24).w1) fun _ => ?_
  refine Hx.ite (fun _ => (c 11).w1) fun _ => ?_
  refine Hx.ite (fun _ => (c 13).w1) fun _ => ?_
  refine Hx.ite (fun _ => (c 15).w1) fun _ => ?_
  exact z.w1
def xval (k v st : Int32) (X : Xs) : Xs := xw 15 (up X.1 13 (nI X.2.2.1), X.2.1, X.2.2.1 + 1, pat (pat (ndd X.2.2.2 X.2.2.1 (nv8 0 st (-1) (-1) (-1))) X.2.2.1 5 k) X.2.2.1 6 v)
theorem F46' (ht : t = 4 ∨ t = 20) (hq : gC σ0 + 200000 < vz_M0) (k v : Int32) (h : SX σ0 σ t X) (hn : X.2.2.1 < 25000) : Hx (F_46 N t k v σ) σ0 t (some (xval k v (gI σ0 2 4) X)) := by
  obtain ⟨σ1, e1, s1, -⟩ := E30' (N := N) ht hq 0 (gI σ0 2 4) (-1) (-1) (-1) h hn
  have lt : X.2.2.1 < (xem 0 (gI σ0 2 4) (-1) (-1) (-1) X).2.2.1 := Nat.lt_succ_self _
  have a5 : aB (nI X.2.2.1) (gN σ1 (t + 7)) := s1.aN (c := 5) (by decide) lt
  have a6 : aB (nI X.2.2.1) (gN σ1 (t + 8)) := s1.aN (c := 6) (by decide) lt
  have cl : (nI X.2.2.1).toNatClampNeg = X.2.2.1 := nI_clamp (by omega)
  have s2 := SX.i (k := 13) ht s1 (by decide) (by decide) (nI X.2.2.1)
  have s3 := s2.n ht (c := 5) (i := X.2.2.1) (by decide) k
  have s4 := s3.n ht (c := 6) (i := X.2.2.1) (by decide) v
  unfold F_46
  rw [h.w ht, e1, ob_some]
  dsimp only
  rw [if_pos a5, if_pos a6, cl]
  exact (F32' ht 15 s4).w1
def xopd0 (K st sz vl : Int32) (X : Xs) : Option Xs :=
  if K = 33 then (if 4 < hW X.2.1 then none else (xdeep X).bind fun Y => xpush 16 (-1) st Y)
  else if K = 40 then (xdeep X).bind fun Y => xpush 35 (-1) st Y
  else if K = 45 then (xdeep X).bind fun Y => xpush 9 (-1) st Y
  else if K = 261 then some (xw 15 (up X.1 13 (nI X.2.2.1), (xem 1 st st sz (-1) X).2))
  else if K = 262 then some (xval 1 vl st X)
  else if K = 309 then some (xval 2 1 st X)
  else if K = 310 then some (xval 2 0 st X)
  else if K = 311 then (xpush 20 (-1) st X).bind fun Y => some (xw 13 Y)
  else if K = 312 then (xpush 21 (-1) st X).bind fun Y => some (xw 13 Y)
  else none
theorem J45 (ht : t = 4 ∨ t = 20) (hq : gC σ0 + 200000 < vz_M0) (h : SX σ0 σ t X) (hn : X.2.2.1 < 25000) : Hx (J_45_18 N t σ) σ0 t (xopd0 (gI σ0 2 3) (gI σ0 2 4) (gI σ0 2 5) (gI σ0 2 6) X) := by
  have dp : ∀ op : Int32, Hx ((F_36 N σ).bind fun p_10 => if p_10.1 = 0 then some (0, p_10.2) else (F_31 N op (-1) (p_10.2)).bind fun p_12 => some ((if p_12.1 = 0 then 0 else 1 : Int32), p_12.2)) σ0 t ((xdeep X).bind fun Y => xpush op (-1) (gI σ0 2 4) Y) := fun op =>
    Hx.an (G := fun s => (F_31 N op (-1) s).bind fun p_12 => some ((if p_12.1 = 0 then 0 else 1 : Int32), p_12.2)) (F36' ht h) fun σ1 X1 _ s1 => (F31' ht op (-1) s1).w2
  have ls : ∀ op : Int32, Hx ((F_31 N op (-1) σ).bind fun p_33 => if p_33.1 = 0 then some (0, p_33.2) else (F_32 N 13 (p_33.2)).bind fun p_35 => some ((if p_35.1 = 0 then 0 else 1 : Int32), p_35.2)) σ0 t ((xpush op (-1) (gI σ0 2 4) X).bind fun Y => some (xw 13 Y)) := fun op =>
    Hx.an (G := fun s => (F_32 N 13 s).bind fun p_35 => some ((if p_35.1 = 0 then 0 else 1 : Int32), p_35.2)) (F31' ht op (-1) h) fun σ1 X1 _ s1 => (F32' ht 13 s1).w2
  have vl := fun k v => F46' (N := N) ht hq k v h hn
  unfold J_45_18 xopd0
  rw [h.w ht, h.w ht, h.w ht, h.w ht]
  refine Hx.ite (fun _ => ?_) fun _ => ?_
  · rw [h.hold, ob_some]
    exact Hx.ite (fun _ => Hx.no h) (fun _ => dp 16)
  refine Hx.ite (fun _ => dp 35) fun _ => ?_
  refine Hx.ite (fun _ => dp 9) fun _ => ?_
  refine Hx.ite (fun _ => ?_) fun _ => ?_
  · obtain ⟨σ1, e1, s1, -⟩ := E30' (N := N) ht hq 1 (gI σ0 2 4) (gI σ0 2 4) (gI σ0 2 5) (-1) h hn
    rw [e1, ob_some]
    exact (F32' ht 15 (SX.i (k := 13) ht s1 (by decide) (by decide) (nI X.2.2.1))).w1
  refine Hx.ite (fun _ => (vl 1 _).w1) fun _ => ?_
  refine Hx.ite (fun _ => (vl 2 1).w1) fun _ => ?_
  refine Hx.ite (fun _ => (vl 2 0).w1) fun _ => ?_
  refine Hx.ite (fun _ => ls 20) fun _ => ?_
  exact Hx.ite (fun _ => ls 21) fun _ => Hx.no h
def xopd (K st sz vl : Int32) (X : Xs) : Option Xs := if 0 ≤ X.1 10 then xopd0 K st sz vl X else xopd0 K st sz vl (up X.1 10 st, X.2)
theorem F45' (ht : t = 4 ∨ t = 20) (hq : gC σ0 + 200000 < vz_M0) (h : SX σ0 σ t X) (hn : X.2.2.1 < 25000) : Hx (F_45 N t σ) σ0 t (xopd (gI σ0 2 3) (gI σ0 2 4) (gI σ0 2 5) (gI σ0 2 6) X) := by
  unfold F_45 xopd
  rw [h.w ht, h.p]
  exact Hx.ite (fun _ => J45 ht hq h hn) (fun _ => J45 ht hq (SX.i (k := 10) ht h (by decide) (by decide) _) hn)
def xhead (op pl st : Int32) (X : Xs) : Xs := xw 1 (up X.1 14 (nI X.2.2.1), (xem op st pl (-1) (-1) X).2)
theorem F48' (ht : t = 4 ∨ t = 20) (hq : gC σ0 + 200000 < vz_M0) (op pl : Int32) (h : SX σ0 σ t X) (hn : X.2.2.1 < 25000) : Hx (F_48 N t op pl σ) σ0 t (some (xhead op pl (gI σ0 2 4) X)) := by
  obtain ⟨σ1, e1, s1, -⟩ := E30' (N := N) ht hq op (gI σ0 2 4) pl (-1) (-1) h hn
  unfold F_48
  rw [h.w ht, e1, ob_some]
  exact (F32' ht 1 (SX.i (k := 14) ht s1 (by decide) (by decide) (nI X.2.2.1))).w1
def xitem (K st : Int32) (X : Xs) : Option Xs :=
  if K = 300 then some (xhead 27 0 st X) else if K = 301 then some (xhead 29 0 st X) else if K = 303 then some (xhead 28 0 st X) else if K = 304 then some (xopen 5 (xhead 31 1 st X)) else if K = 305 then some (xopen 5 (xhead 31 2 st X)) else if K = 308 then some (xopen 4 (xhead 30 0 st X)) else none
theorem F47' (ht : t = 4 ∨ t = 20) (hq : gC σ0 + 200000 < vz_M0) (h : SX σ0 σ t X) (hn : X.2.2.1 < 25000) : Hx (F_47 N t σ) σ0 t (xitem (gI σ0 2 3) (gI σ0 2 4) X) := by
  have a := fun op pl => F48' (N := N) ht hq op pl h hn
  have b : ∀ op pl r : Int32, Hx ((F_48 N t op pl σ).bind fun p_11 => (F_39 N t r (p_11.2)).bind fun p_12 => if (p_12.1 = 0 ∨ p_12.1 = 1) then some (p_12.1, p_12.2) else none) σ0 t (some (xopen r (xhead op pl (gI σ0 2 4) X))) := by
    intro op pl r
    obtain ⟨r1, σ1, e1, q1⟩ := a op pl
    rw [e1, ob_some]
    exact (F39' ht r q1.2).w1
  unfold F_47 xitem
  rw [h.w ht]
  refine Hx.ite (fun _ => (a 27 0).w1) fun _ => ?_
  refine Hx.ite (fun _ => (a 29 0).w1) fun _ => ?_
  refine Hx.ite (fun _ => (a 28 0).w1) fun _ => ?_
  refine Hx.ite (fun _ => b 31 1 5) fun _ => ?_
  refine Hx.ite (fun _ => b 31 2 5) fun _ => ?_
  exact Hx.ite (fun _ => b 30 0 4) fun _ => Hx.no h
def xdef (K st sz vl : Int32) (X : Xs) : Option Xs :=
  if X.1 8 = 1 then (if K = 261 then some (xw (if X.2.2.2 (X.1 14).toNatClampNeg 0 = 29 then 3 else 2) (X.1, X.2.1, X.2.2.1, pat (pat X.2.2.2 (X.1 14).toNatClampNeg 2 st) (X.1 14).toNatClampNeg 3 sz)) else none)
  else if X.1 8 = 2 then (if K = 61 then some (xopen 0 X) else none)
  else if X.1 8 = 3 then (if K = 58 then some (xw 4 X) else none)
  else if X.1 8 = 4 then (if K = 302 then some (xw 5 (X.1, X.2.1, X.2.2.1, pat X.2.2.2 (X.1 14).toNatClampNeg 4 2)) else xopd K st sz vl (xopen 1 (X.1, X.2.1, X.2.2.1, pat X.2.2.2 (X.1 14).toNatClampNeg 4 1)))
  else if X.1 8 = 5 then (if K = 306 then some (xopen 3 X) else if K = 59 then some (xfin st X) else none)
  else none
theorem F49' (ht : t = 4 ∨ t = 20) (hq : gC σ0 + 200000 < vz_M0) (h : SX σ0 σ t X) (hn : X.2.2.1 < 25000) (hh : ∃ j, j < X.2.2.1 ∧ X.1 14 = nI j) : Hx (F_49 N t σ) σ0 t (xdef (gI σ0 2 3) (gI σ0 2 4) (gI σ0 2 5) (gI σ0 2 6) X) := by
  obtain ⟨j, j1, j2⟩ := hh
  have cl : (X.1 14).toNatClampNeg = j := by rw [j2]; exact nI_clamp (by omega)
  have aa : ∀ c, c < 8 → aB (X.1 14) (gN σ (t + 2 + c)) := fun c hc => by rw [j2]; exact h.aN hc j1
  have a0 : aB (X.1 14) (gN σ (t + 2)) := aa 0 (by decide)
  have a2 : aB (X.1 14) (gN σ (t + 4)) := aa 2 (by decide)
  have a3 : aB (X.1 14) (gN σ (t + 5)) := aa 3 (by decide)
  have a4 : aB (X.1 14) (gN σ (t + 6)) := aa 4 (by decide)
  have g0 : gE σ (t + 2) j = X.2.2.2 j 0 := h.M (c := 0) (by decide) j1
  have p14 : gI σ 36 14 = X.1 14 := h.p
  have p8 : gI σ 36 8 = X.1 8 := h.p
  have s2 := (h.n ht (c := 2) (i := j) (by decide) (gI σ0 2 4)).n ht (c := 3) (i := j) (by decide) (gI σ0 2 5)
  have s4 := fun v => h.n ht (c := 4) (i := j) (by decide) v
  unfold F_49 xdef
  rw [h.w ht, h.w ht, h.w ht]
  simp only [p14, p8, if_pos a0, if_pos a2, if_pos a3, if_pos a4, cl, g0]
  refine Hx.ite (fun _ => Hx.ite (fun _ => (F32' ht _ s2).w2) (fun _ => Hx.no s2)) fun _ => ?_
  refine Hx.ite (fun _ => Hx.ite (fun _ => (F39' ht 0 h).w2) (fun _ => Hx.no h)) fun _ => ?_
  refine Hx.ite (fun _ => Hx.ite (fun _ => (F32' ht 4 h).w2) (fun _ => Hx.no h)) fun _ => ?_
  refine Hx.ite (fun _ => Hx.ite (fun _ => (F32' ht 5 (s4 2)).w1) (fun _ => ?_)) fun _ => ?_
  · obtain ⟨r1, σ1, e1, q1⟩ := F39' (N := N) ht 1 (s4 1)
    have e1 : F_39 N t 1 (st_e σ (t + 6) j 1) = some (r1, σ1) := e1
    rw [e1, ob_some]
    exact (F45' ht hq q1.2 hn).w1
  exact Hx.ite (fun _ => Hx.ite (fun _ => (F39' ht 3 h).w1) (fun _ => Hx.ite (fun _ => (F40' ht hq h hn).w2) (fun _ => Hx.no h))) fun _ => Hx.no h
def xset (st : Int32) (X : Xs) : Xs := xw 9 (up X.1 16 st, X.2)
theorem F51' (ht : t = 4 ∨ t = 20) (h : SX σ0 σ t X) : Hx (F_51 N σ) σ0 t (some (xset (gI σ0 2 4) X)) := by
  unfold F_51
  rw [h.w ht]
  exact (F32' ht 9 (SX.i (k := 16) ht h (by decide) (by decide) _)).w1
def xbe (K st : Int32) (X : Xs) : Option Xs := if K = 43 then some (xbr X) else if K = 59 then some (xfin st X) else none
theorem F52' (ht : t = 4 ∨ t = 20) (hq : gC σ0 + 200000 < vz_M0) (h : SX σ0 σ t X) (hn : X.2.2.1 < 25000) : Hx (F_52 N t σ) σ0 t (xbe (gI σ0 2 3) (gI σ0 2 4) X) := by
  unfold F_52 xbe
  rw [h.w ht]
  exact Hx.ite (fun _ => (F41' ht hq h hn).w1) (fun _ => Hx.ite (fun _ => (F40' ht hq h hn).w2) (fun _ => Hx.no h))
def xbra (K st sz : Int32) (X : Xs) : Option Xs :=
  if X.1 8 = 6 then (if K = 307 then some (xw 7 X) else if K = 40 then some (xset st X) else none)
  else if X.1 8 = 7 then xbe K st X
  else if X.1 8 = 8 then (if K = 40 then some (xset st X) else none)
  else if X.1 8 = 9 then (if K = 261 then some (xw 10 (xem 33 (X.1 16) st sz (-1) X)) else none)
  else if X.1 8 = 10 then (if K = 39 then some (xw 11 X) else none)
  else if X.1 8 = 11 then (if K = 61 then some (xopen 7 X) else none)
  else if X.1 8 = 12 then (if K = 38 then some (xw 8 X) else xbe K st X)
  else if X.1 8 = 13 then (if K = 40 then (xdeep X).bind fun Y => some (xw 14 Y) else none)
  else none
theorem F50' (ht : t = 4 ∨ t = 20) (hq : gC σ0 + 200000 < vz_M0) (h : SX σ0 σ t X) (hn : X.2.2.1 < 25000) : Hx (F_50 N t σ) σ0 t (xbra (gI σ0 2 3) (gI σ0 2 4) (gI σ0 2 5) X) := by
  have p8 : gI σ 36 8 = X.1 8 := h.p
  have p16 : gI σ 36 16 = X.1 16 := h.p
  have be := F52' (N := N) ht hq h hn
  unfold F_50 xbra
  rw [h.w ht, h.w ht, h.w ht]
  simp only [p8, p16]
  refine Hx.ite (fun _ => Hx.ite (fun _ => (F32' ht 7 h).w1) (fun _ => Hx.ite (fun _ => (F51' ht h).w2) (fun _ => Hx.no h))) fun _ => ?_
  refine Hx.ite (fun _ => be.w1) fun _ => ?_
  refine Hx.ite (fun _ => Hx.ite (fun _ => (F51' ht h).w2) (fun _ => Hx.no h)) fun _ => ?_
  refine Hx.ite (fun _ => ?_) fun _ => ?_
  · obtain ⟨σ1, e1, s1, -⟩ := E30' (N := N) ht hq 33 (X.1 16) (gI σ0 2 4) (gI σ0 2 5) (-1) h hn
    rw [e1, ob_some]
    exact Hx.ite (fun _ => (F32' ht 10 s1).w2) (fun _ => Hx.no s1)
  refine Hx.ite (fun _ => Hx.ite (fun _ => (F32' ht 11 h).w2) (fun _ => Hx.no h)) fun _ => ?_
  refine Hx.ite (fun _ => Hx.ite (fun _ => (F39' ht 7 h).w2) (fun _ => Hx.no h)) fun _ => ?_
  refine Hx.ite (fun _ => Hx.ite (fun _ => (F32' ht 8 h).w1) (fun _ => be.w1)) fun _ => ?_
  exact Hx.ite (fun _ => Hx.ite (fun _ => Hx.an (G := fun s => (F_32 N 14 s).bind fun p_38 => some ((if p_38.1 = 0 then 0 else 1 : Int32), p_38.2)) (F36' ht h) fun σ1 X1 _ s1 => (F32' ht 14 s1).w2) (fun _ => Hx.no h)) fun _ => Hx.no h
/-- a word is taken -/
def xtake (K st sz vl : Int32) (X : Xs) : Option Xs := if X.1 8 = 15 then xopr K st X else if X.1 8 = 14 then xopd K st sz vl X else if X.1 8 = 0 then xitem K st X else if 5 < X.1 8 then xbra K st sz X else xdef K st sz vl X
end TN
