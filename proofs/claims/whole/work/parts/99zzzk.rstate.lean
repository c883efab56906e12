/-! the reference's items: between items -/
/-- a command's branches, latest first: its chance, its sets, latest first -/
def bsr : List (Nat × Tr) → List (Tr × List Tr)
  | [] => []
  | (r, T) :: R => if r = 6 then (T, []) :: bsr R else if r = 7 then (match bsr R with
    | [] => []
    | (c, S) :: B => (c, T :: S) :: B) else bsr R
/-- its guard -/
def gdr : List (Nat × Tr) → Tr
  | [] => .leaf 0
  | (r, T) :: R => if r = 5 then T else gdr R
/-- how many sets -/
def nsb (B : List (Tr × List Tr)) : Nat := (B.map fun b => b.2.length).sum
def nsc (C : List It) : Nat := (C.map fun i => nsb (bsr i.2.2)).sum
section RW
variable (w : List (Nat × Nat × Nat)) (tb : Nat → Nat → Int32) (P : Nat → Tr → Nat → Prop) (VN : Tr → Int32 → Nat → Prop) (g : Nat)
def SetR (s : Nat) (T : Tr) : Prop := ∃ a kd, VN T (tb (g + 31) s) kd ∧ tb (g + 33) s = nI (kP w (bw T - 4)) ∧ tb (g + 35) s = nI a ∧ P kd T a
def SetsR (s0 : Nat) : List Tr → Prop
  | [] => True
  | T :: S => SetsR s0 S ∧ SetR w tb P VN g (s0 + S.length) T
/-- a branch as far as it goes; its end -/
def BrR (at' s0 : Nat) (b : Tr × List Tr) : Prop := (∃ a, tb (g + 26) at' = nI a ∧ P 1 b.1 a) ∧ tb (g + 27) at' = nI (kP w (bw b.1)) ∧ tb (g + 28) at' = nI s0 ∧ SetsR w tb P VN g s0 b.2
def BrsR (c s0 : Nat) : List (Tr × List Tr) → Prop
  | [] => True
  | b :: B => BrsR c s0 B ∧ BrR w tb P VN g (8 * c + B.length) (s0 + nsb B) b ∧ tb (g + 29) (8 * c + B.length) = nI b.2.length
def CoR (c s0 : Nat) (i : It) : Prop := tb (g + 22) c = (if kK w i.2.1 = 8 then 1 else 0) ∧ tb (g + 23) c = nI (kP w i.2.1) ∧ (∃ a, tb (g + 24) c = nI a ∧ P 2 (gdr i.2.2) a) ∧ tb (g + 25) c = nI (bsr i.2.2).length ∧ (bsr i.2.2).length ≤ 8 ∧ BrsR w tb P VN g c s0 (bsr i.2.2)
def CosR : List It → Prop
  | [] => True
  | i :: C => CosR C ∧ CoR w tb P VN g C.length (nsc C) i
end RW
section RWS
variable {w : List (Nat × Nat × Nat)} {tb tb' : Nat → Nat → Int32} {P P' : Nat → Tr → Nat → Prop} {VN VN' : Tr → Int32 → Nat → Prop} {g : Nat}
theorem SetR.mo {s : Nat} {T : Tr} (h : SetR w tb P VN g s T) (hP : ∀ kd T a, P kd T a → P' kd T a) (hV : ∀ T v kd, VN T v kd → VN' T v kd) (ht : ∀ a, a = g + 31 ∨ a = g + 33 ∨ a = g + 35 → tb' a s = tb a s) : SetR w tb' P' VN' g s T := by
  obtain ⟨a, kd, h1, h2, h3, h4⟩ := h
  exact ⟨a, kd, by rw [ht _ (by omega)]; exact hV _ _ _ h1, by rw [ht _ (by omega)]; exact h2, by rw [ht _ (by omega)]; exact h3, hP _ _ _ h4⟩
theorem SetsR.mo {s0 m : Nat} (hP : ∀ kd T a, P kd T a → P' kd T a) (hV : ∀ T v kd, VN T v kd → VN' T v kd) (ht : ∀ a, a = g + 31 ∨ a = g + 33 ∨ a = g + 35 → ∀ i, i < m → tb' a i = tb a i) : ∀ {S : List Tr}, s0 + S.length ≤ m → SetsR w tb P VN g s0 S → SetsR w tb' P' VN' g s0 S := by
  intro S
  induction S with
  | nil => intro _ _; trivial
  | cons T S ih =>
    intro hm h
    rw [List.length_cons] at hm
    exact ⟨ih (by omega) h.1, h.2.mo hP hV (fun a ha => ht a ha _ (by omega))⟩
theorem BrR.mo {at' s0 m : Nat} {b : Tr × List Tr} (h : BrR w tb P VN g at' s0 b) (hP : ∀ kd T a, P kd T a → P' kd T a) (hV : ∀ T v kd, VN T v kd → VN' T v kd) (hb : ∀ a, g + 26 ≤ a → a ≤ g + 28 → tb' a at' = tb a at') (ht : ∀ a, a = g + 31 ∨ a = g + 33 ∨ a = g + 35 → ∀ i, i < m → tb' a i = tb a i) (hm : s0 + b.2.length ≤ m) : BrR w tb' P' VN' g at' s0 b := by
  obtain ⟨⟨a, h1, h2⟩, h3, h4, h5⟩ := h
  exact ⟨⟨a, by rw [hb _ (by omega) (by omega)]; exact h1, hP _ _ _ h2⟩, by rw [hb _ (by omega) (by omega)]; exact h3, by rw [hb _ (by omega) (by omega)]; exact h4, SetsR.mo hP hV ht hm h5⟩
theorem nsb_c (b : Tr × List Tr) (B : List (Tr × List Tr)) : nsb (b :: B) = b.2.length + nsb B := rfl
theorem nsc_c (i : It) (C : List It) : nsc (i :: C) = nsb (bsr i.2.2) + nsc C := rfl
theorem BrsR.mo {c s0 m mb : Nat} (hP : ∀ kd T a, P kd T a → P' kd T a) (hV : ∀ T v kd, VN T v kd → VN' T v kd) (hb : ∀ a, g + 26 ≤ a → a ≤ g + 29 → ∀ i, i < mb → tb' a i = tb a i) (ht : ∀ a, a = g + 31 ∨ a = g + 33 ∨ a = g + 35 → ∀ i, i < m → tb' a i = tb a i) : ∀ {B : List (Tr × List Tr)}, 8 * c + B.length ≤ mb → s0 + nsb B ≤ m → BrsR w tb P VN g c s0 B → BrsR w tb' P' VN' g c s0 B := by
  intro B
  induction B with
  | nil => intro _ _ _; trivial
  | cons b B ih =>
    intro h1 h2 h
    rw [List.length_cons] at h1
    rw [nsb_c] at h2
    obtain ⟨q1, q2, q3⟩ := h
    exact ⟨ih (by omega) (by omega) q1, q2.mo hP hV (fun a z1 z2 => hb a (by omega) (by omega) _ (by omega)) ht (by omega), by rw [hb _ (by omega) (by omega) _ (by omega)]; exact q3⟩
theorem CoR.mo {c s0 m : Nat} {i : It} (h : CoR w tb P VN g c s0 i) (hP : ∀ kd T a, P kd T a → P' kd T a) (hV : ∀ T v kd, VN T v kd → VN' T v kd) (hc : ∀ a, g + 22 ≤ a → a ≤ g + 25 → tb' a c = tb a c) (hb : ∀ a, g + 26 ≤ a → a ≤ g + 29 → ∀ i, i < 8 * c + 8 → tb' a i = tb a i) (ht : ∀ a, a = g + 31 ∨ a = g + 33 ∨ a = g + 35 → ∀ i, i < m → tb' a i = tb a i) (hm : s0 + nsb (bsr i.2.2) ≤ m) : CoR w tb' P' VN' g c s0 i := by
  obtain ⟨h1, h2, ⟨a, h3, h4⟩, h5, h6, h7⟩ := h
  exact ⟨by rw [hc _ (by omega) (by omega)]; exact h1, by rw [hc _ (by omega) (by omega)]; exact h2, ⟨a, by rw [hc _ (by omega) (by omega)]; exact h3, hP _ _ _ h4⟩, by rw [hc _ (by omega) (by omega)]; exact h5, h6, BrsR.mo hP hV hb ht (by omega) hm h7⟩
theorem CosR.mo {mc m : Nat} (hP : ∀ kd T a, P kd T a → P' kd T a) (hV : ∀ T v kd, VN T v kd → VN' T v kd) (hc : ∀ a, g + 22 ≤ a → a ≤ g + 25 → ∀ i, i < mc → tb' a i = tb a i) (hb : ∀ a, g + 26 ≤ a → a ≤ g + 29 → ∀ i, i < 8 * mc → tb' a i = tb a i) (ht : ∀ a, a = g + 31 ∨ a = g + 33 ∨ a = g + 35 → ∀ i, i < m → tb' a i = tb a i) : ∀ {C : List It}, C.length ≤ mc → nsc C ≤ m → CosR w tb P VN g C → CosR w tb' P' VN' g C := by
  intro C
  induction C with
  | nil => intro _ _ _; trivial
  | cons i C ih =>
    intro h1 h2 h
    rw [List.length_cons] at h1
    rw [nsc_c] at h2
    exact ⟨ih (by omega) (by omega) h.1, h.2.mo hP hV (fun a z1 z2 => hc a z1 z2 _ (by omega)) (fun a z1 z2 i hi => hb a z1 z2 i (by omega)) ht (by omega)⟩
end RWS
/-- the var that is set -/
def VNm (l : List Int32) (w : List (Nat × Nat × Nat)) (E : List En) (T : Tr) (v : Int32) (kd : Nat) : Prop := ∃ j, fnd l w E (bw T - 3) = some j ∧ (E.getD j eN).2.1 = 3 ∧ v = nI (rnm E j) ∧ kd = kdn (E.getD j eN)
theorem VNm.app {l : List Int32} {w : List (Nat × Nat × Nat)} {E : List En} {e : En} {T : Tr} {v : Int32} {kd : Nat} (h : VNm l w E T v kd) : VNm l w (E ++ [e]) T v kd := by
  obtain ⟨j, h1, h2, h3, h4⟩ := h
  refine ⟨j, fnd_app h1, ?_⟩
  unfold rnm at h3 ⊢
  rw [gD_app (fnd_lt h1)]
  exact ⟨h2, h3, h4⟩
def TgN (l : List Int32) (w : List (Nat × Nat × Nat)) (E : List En) (fa : Nat → Nat) (D : Nat → Nat → Int32) (n : Nat) (v : Int32) : Option Tr → Prop
  | none => v = -1
  | some T => ∃ a, v = nI a ∧ RuR l w E fa D n 2 T a
/-- how many of each -/
def NCt (σ : st_S) (g : Nat) (X : Tx) : Prop := gI σ g 6 = nI (cnt X.1 1 + cnt X.1 2) ∧ gI σ g 12 = nI (cnt X.1 3) ∧ gI σ g 18 = nI X.2.2.length ∧ cnt X.1 1 + cnt X.1 2 ≤ 60 ∧ cnt X.1 3 ≤ 12 ∧ X.2.2.length ≤ 60 ∧ gI σ (g + 30) 1 = nI (nsc X.2.2) ∧ gI σ (g + 32) 1 = nI (nsc X.2.2) ∧ gI σ (g + 34) 1 = nI (nsc X.2.2)
/-- names, target and commands in their tables -/
def RN (g x : Nat) (l : List Int32) (w : List (Nat × Nat × Nat)) (σ0 σ : st_S) (X : Tx) (n : Nat) (D : Nat → Nat → Int32) (fa : Nat → Nat) : Prop := RM g x l w X.1 σ0 σ n D ∧ NS σ g n l w X.1 fa D ∧ Cok X.1 ∧ (NW w X.1 ∧ NU l w X.1) ∧ TgN l w X.1 fa D n (gI σ g 17) X.2.1 ∧ CosR w (gE σ) (RuR l w X.1 fa D n) (VNm l w X.1) g X.2.2 ∧ nsc X.2.2 ≤ n
/-- between items -/
def RS (g x : Nat) (l : List Int32) (w : List (Nat × Nat × Nat)) (σ0 σ : st_S) (X : Tx) (n : Nat) (D : Nat → Nat → Int32) (fa : Nat → Nat) : Prop := RN g x l w σ0 σ X n D fa ∧ gI σ 66 16 = 0 ∧ NCt σ g X
/-- what doesn't change -/
def RG0 (N g x : Nat) (l : List Int32) (w : List (Nat × Nat × Nat)) (σ0 : st_S) : Prop := (g = 79 ∨ g = 115) ∧ (x = 67 ∨ x = 69) ∧ 100000 < N ∧ K40 w ∧ w.length ≤ 16400 ∧ gC σ0 + 770000 < vz_M0 ∧ Pw l w ∧ Nmk l w ∧ Nvk l w
theorem RG0.rg {N g x : Nat} {l : List Int32} {w : List (Nat × Nat × Nat)} {σ0 : st_S} {E : List En} (h : RG0 N g x l w σ0) (hE : NW w E ∧ NU l w E) : RG N g x l w E σ0 := by
  obtain ⟨a1, a2, a3, a4, a5, a6, a7, a8, a9⟩ := h
  exact ⟨a1, a2, a3, a4, a5, a6, a7, hE.1, hE.2, a8⟩
/-- an item is a fault -/
def RFl (g x : Nat) (l : List Int32) (w : List (Nat × Nat × Nat)) (σ0 : st_S) (e : Nat × Nat) (r : Option st_S) : Prop := ∃ σ' E n D, r = some σ' ∧ gI σ' 66 16 = nI e.1 ∧ gI σ' 66 17 = nI e.2 ∧ RM g x l w E σ0 σ' n D
/-- what an item comes to; i: the words up to its end -/
def ItR (g x : Nat) (l : List Int32) (w : List (Nat × Nat × Nat)) (σ0 : st_S) (i : Nat) (o : Rs Tx) (r : Option st_S) : Prop := match o with
  | .inl e => RFl g x l w σ0 e r
  | .inr X => ∃ σ' n D fa, r = some σ' ∧ RS g x l w σ0 σ' X n D fa ∧ n ≤ i
section RSS
variable {N g x n n' : Nat} {σ σ0 σ' : st_S} {D D' : Nat → Nat → Int32} {w : List (Nat × Nat × Nat)} {l : List Int32} {X : Tx} {E : List En} {e : En} {fa fa' : Nat → Nat}
theorem rnm_app {j : Nat} (h : j < E.length) : rnm (E ++ [e]) j = rnm E j := by unfold rnm; rw [gD_app h]
theorem rnm_new : rnm (E ++ [e]) E.length = e.2.2.2.2.2.2.2 := by unfold rnm; rw [gD_new]
/-- one more name in the tables -/
theorem NS.app (h : NS σ g n l w E fa D) (h1 : e.2.1 = 1 → gE σ (g + 13) (rnm (E ++ [e]) E.length) = 0 ∧ gL σ (g + 16) (rnm (E ++ [e]) E.length) = e.2.2.2.2.1.1 ∧ gL σ (g + 17) (rnm (E ++ [e]) E.length) = e.2.2.2.2.1.2) (h3 : e.2.1 = 3 → rnm (E ++ [e]) E.length = cnt E 3 ∧ rnm (E ++ [e]) E.length = e.2.2.2.2.2.2.1 ∧ gE σ (g + 19) (rnm (E ++ [e]) E.length) = e.2.2.2.2.2.1.1 ∧ gE σ (g + 20) (rnm (E ++ [e]) E.length) = e.2.2.2.2.2.1.2.1 ∧ gE σ (g + 21) (rnm (E ++ [e]) E.length) = e.2.2.2.2.2.1.2.2) (h0 : e.2.1 ≠ 3 → rnm (E ++ [e]) E.length = cnt E 1 + cnt E 2) (hs : e.2.1 = 1 ∨ e.2.1 = 2 ∨ e.2.1 = 3) (hf : ∀ j, j < E.length → fa' j = fa j) (h2 : e.2.1 = 2 → (gE σ (g + 13) (rnm (E ++ [e]) E.length) = 1 ∧ gE σ (g + 15) (rnm (E ++ [e]) E.length) = nI (fa' E.length)) ∧ Rt l w (Vx l w E) D e.2.2.2.1 (fa' E.length) (-1) ∧ fa' E.length + rln e.2.2.2.1 ≤ n ∧ Wf w e.2.2.2.1 ∧ lev e.2.2.2.1 ≤ 6 ∧ NBl l w E E.length e.2.2.2.1 ∧ chk l w E false e.2.2.2.1 = .inr (kdn e) ∧ ∀ j, j < E.length → (E.getD j eN).2.1 = 2 → fa j + rln (fTr E j) ≤ fa' E.length) : NS σ g n l w (E ++ [e]) fa' D := by
  obtain ⟨q1, q2, q3, q4, q5, q6, q7⟩ := h
  have sp : ∀ j, j < (E ++ [e]).length → j < E.length ∨ j = E.length := fun j hj => by rw [len_app] at hj; omega
  have ca := cnt_app (E := E) (e := e)
  have c1 := ca 1
  have c2 := ca 2
  have c3 := ca 3
  refine ⟨fun j hj s => ?_, fun j hj s => ?_, fun j hj s => ?_, fun j hj s => ?_, fun i j hij hj si sj => ?_, fun i j hij hj si sj => ?_, fun i j hij hj si sj => ?_⟩
  · rcases sp j hj with z | z
    · rw [gD_app z] at s ⊢
      rw [rnm_app z]
      exact q1 j z s
    · subst z
      rw [gD_new] at s ⊢
      exact h1 s
  · rcases sp j hj with z | z
    · rw [gD_app z] at s ⊢
      rw [rnm_app z]
      obtain ⟨a1, a2⟩ := q2 j z s
      exact ⟨by rw [c3]; omega, a2⟩
    · subst z
      rw [gD_new] at s ⊢
      obtain ⟨a1, a2⟩ := h3 s
      exact ⟨by rw [c3, if_pos s]; omega, a2⟩
  · rcases sp j hj with z | z
    · rw [gD_app z] at s
      rw [rnm_app z, c1, c2]
      have := q3 j z s
      omega
    · subst z
      rw [gD_new] at s
      rw [c1, c2, h0 s]
      rcases hs with z | z | z
      · rw [if_pos z, if_neg (by omega)]; omega
      · rw [if_neg (by omega), if_pos z]; omega
      · exact absurd z s
  · rcases sp j hj with z | z
    · rw [gD_app z] at s ⊢
      rw [rnm_app z, fTr_app z, hf j z]
      obtain ⟨a1, a2, a3, a4, a5, a6, a7⟩ := q4 j z s
      exact ⟨a1, a2.mono (fun _ _ => Vx_app), a3, a4, a5, NBl_app a6, chk_app a7⟩
    · subst z
      rw [gD_new] at s ⊢
      rw [fTr_new]
      obtain ⟨a1, a2, a3, a4, a5, a6, a7, a8⟩ := h2 s
      exact ⟨a1, a2.mono (fun _ _ => Vx_app), a3, a4, a5, NBl_app a6, chk_app a7⟩
  · rcases sp j hj with z | z
    · rw [gD_app (show i < E.length by omega)] at si
      rw [gD_app z] at sj
      rw [rnm_app z, rnm_app (show i < E.length by omega)]
      exact q5 i j hij z si sj
    · subst z
      rw [gD_app hij] at si
      rw [gD_new] at sj
      rw [rnm_app hij, h0 sj]
      exact q3 i hij si
  · rcases sp j hj with z | z
    · rw [gD_app (show i < E.length by omega)] at si
      rw [gD_app z] at sj
      rw [rnm_app z, rnm_app (show i < E.length by omega)]
      exact q6 i j hij z si sj
    · subst z
      rw [gD_app hij] at si
      rw [gD_new] at sj
      rw [rnm_app hij, (h3 sj).1]
      exact (q2 i hij si).1
  · rcases sp j hj with z | z
    · rw [gD_app (show i < E.length by omega)] at si
      rw [gD_app z] at sj
      rw [hf i (by omega), hf j z, fTr_app (show i < E.length by omega)]
      exact q7 i j hij z si sj
    · subst z
      rw [gD_app hij] at si
      rw [gD_new] at sj
      rw [hf i hij, fTr_app hij]
      exact (h2 sj).2.2.2.2.2.2.2 i hij si
theorem TgN.app {v : Int32} {tg : Option Tr} (h : TgN l w E fa D n v tg) (hf : ∀ j, j < E.length → fa' j = fa j) : TgN l w (E ++ [e]) fa' D n v tg := by
  cases tg with
  | none => exact h
  | some T =>
    obtain ⟨a, h1, h2⟩ := h
    exact ⟨a, h1, h2.app hf⟩
theorem TgN.fr {v : Int32} {tg : Option Tr} (h : TgN l w E fa D n v tg) (hn : n ≤ n') (hD : ∀ i, i < n → D' i = D i) : TgN l w E fa D' n' v tg := by
  cases tg with
  | none => exact h
  | some T =>
    obtain ⟨a, h1, h2⟩ := h
    exact ⟨a, h1, h2.fr hn hD⟩
end RSS
