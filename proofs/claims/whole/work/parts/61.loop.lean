/-! THE LAW'S LOOP, any store: a turn of it for each of the simple calls. Q: what is kept of all else; it doesn't look at what the simple calls change -/
def Sh : Option (Int32 × Int32) → Nat → vz_L
  | none, n => [(4, .int (nI n)), (3, .ref 187), (2, .ref 66), (1, .ref 1), (0, .ref 0)]
  | some p, n => [(4, .int (nI n)), (6, .int p.1), (5, .int p.2), (3, .ref 187), (2, .ref 66), (1, .ref 1), (0, .ref 0)]
/-- the cells that simple calls change -/
def sI : List (Nat × Nat) := [(66, 0), (2, 1), (67, 1), (69, 1)]
def sA : List Nat := [3, 68, 70]
def Fs (c : Nat) (σ σ' : st_S) : Prop := Fr c sI [] [] sA [187] σ σ'
/-- .. and those that answer out of fields -/
def Fo (c : Nat) (σ σ' : st_S) : Prop := Fr c [(66, 0)] [] [] [] [187] σ σ'
theorem Fo.s {c : Nat} {σ σ' : st_S} (h : Fo c σ σ') : Fs c σ σ' := Fr.mo h (by decide) (by decide) (by decide) (by decide) (by decide)
/-- a character -/
def Byt (c : Int32) : Prop := ∃ m, m < 256 ∧ c = nI m
theorem b255 (y : Int32) : Byt (y &&& 255) := by
  refine ⟨(y &&& 255).toBitVec.toNat, ?_, ?_⟩
  · have e : (y &&& 255).toBitVec.toNat = y.toBitVec.toNat &&& 255 := by
      rw [Int32.toBitVec_and, BitVec.toNat_and]; rfl
    rw [e]
    exact Nat.lt_succ_of_le Nat.and_le_right
  · refine Int32.toBitVec_inj.mp ?_
    show (y &&& 255).toBitVec = BitVec.ofNat 32 ((y &&& 255).toBitVec.toNat)
    rw [BitVec.ofNat_toNat, BitVec.setWidth_eq]
theorem ap4_b {l : List Int32} {x : Int32} (h : ∀ c ∈ l, Byt c) : ∀ c ∈ ap4 by_r l x, Byt c := by
  intro c hc
  unfold ap4 at hc
  simp only [List.mem_append, List.mem_singleton] at hc
  rcases hc with (((hc | hc) | hc) | hc) | hc
  · exact h c hc
  · rw [hc]; exact b255 _
  · rw [hc]; exact b255 _
  · rw [hc]; exact b255 _
  · rw [hc]; exact b255 _
theorem ap20_b {l : List Int32} {a b c d e : Int32} (h : ∀ c ∈ l, Byt c) : ∀ z ∈ ap20 by_r l a b c d e, Byt z := ap4_b (ap4_b (ap4_b (ap4_b (ap4_b h))))
/-- the tape on both sides -/
def Ta (σ : st_S) (t : Nat) (l : List Int32) : Prop := gR σ 66 1 = t ∧ (t = 67 ∨ t = 69) ∧ l.length ≤ 16384 ∧ Tp σ l ∧ Nu σ t (t + 1) l ∧ gN σ 3 ≤ 32768 ∧ gN σ 68 ≤ 32768 ∧ gN σ 70 ≤ 32768 ∧ 16 ≤ gN σ 68 ∧ 16 ≤ gN σ 70 ∧ ∀ c ∈ l, Byt c
theorem Tp.fr {σ σ' : st_S} {l : List Int32} (h : Tp σ l) (h1 : gI σ' 2 1 = gI σ 2 1) (h2 : gN σ' 3 = gN σ 3) (h3 : gE σ' 3 = gE σ 3) : Tp σ' l := by
  obtain ⟨a1, a2, a3, a4⟩ := h
  exact ⟨h1.trans a1, by rw [h2]; exact a2, by rw [h2]; exact a3, by rw [h3]; exact a4⟩
theorem Ta.f0 {c t : Nat} {σ σ' : st_S} {l : List Int32} (h : Ta σ t l) (hf : Fo c σ σ') : Ta σ' t l := by
  obtain ⟨a1, a2, a3, a4, a5, a6, a7, a8, a9, a10, a11⟩ := h
  obtain ⟨b1, b2, b3, b4, b5, b6, b7⟩ := hf
  have m1 := b4 68 (by decide)
  have m2 := b4 70 (by decide)
  have n3 := b4 3 (by decide)
  have n9 := b4 (t + 1) (by simp)
  have e2 := b1 2 1 (by decide)
  have et : gI σ' t 1 = gI σ t 1 := by
    rcases a2 with rfl | rfl
    · exact b1 67 1 (by decide)
    · exact b1 69 1 (by decide)
  exact ⟨(b3 66 1 (by decide)).trans a1, a2, a3, a4.fr e2 n3.1 n3.2, a5.fr et n9.1 n9.2, by rw [n3.1]; exact a6, by rw [m1.1]; exact a7, by rw [m2.1]; exact a8, by rw [m1.1]; exact a9, by rw [m2.1]; exact a10, a11⟩
section LOOP
variable {Q : st_S → Prop} {L n c : Nat} {xs : Nat → Int32} {σ σ' : st_S} {b : Option (Int32 × Int32)}
/-- what holds at the head of the loop -/
def Inv (Q : st_S → Prop) (L : Nat) (xs : Nat → Int32) (n : Nat) (σ : st_S) : Prop := Q σ ∧ (∃ t l, Ta σ t l) ∧ gF σ 0 = .inl (0, L, .inl xs) ∧ ∃ c, 6 * c ≤ n ∧ Po c (s0 L xs) σ
def Stq (Q : st_S → Prop) (L : Nat) (xs : Nat → Int32) (n : Nat) (b : Option (Int32 × Int32)) (σ : st_S) : Prop := ∃ b' σ', Inv Q L xs (n + 6) σ' ∧ ∀ q, vz_ev P0 15 0 23 (Sh b' (n + 6)) [] (hp σ') q → vz_ev P0 15 0 23 (Sh b n) [] (hp σ) q
def Qf (Q : st_S → Prop) : Prop := ∀ (c : Nat) (σ σ' : st_S), Q σ → Fs c σ σ' → Q σ'
theorem Inv.nx (qf : Qf Q) (h : Inv Q L xs n σ) (hf : Fs c σ σ') (hc : c ≤ 1) (ht : ∃ t l, Ta σ' t l) : Inv Q L xs (n + 6) σ' := by
  obtain ⟨a1, -, a3, c0, a4, a5⟩ := h
  exact ⟨qf c _ _ a1 hf, ht, hf.2.2.2.2.2.1.trans a3, c0 + c, by omega, a5.tr hf.2.2.2.2.2.2⟩
theorem Inv.n0 (qf : Qf Q) (h : Inv Q L xs n σ) (hf : Fo c σ σ') (hc : c ≤ 1) : Inv Q L xs (n + 6) σ' := by
  obtain ⟨t, l, ht⟩ := h.2.1
  exact h.nx qf hf.s hc ⟨t, l, ht.f0 hf⟩
theorem law_c (hn : n + 6 ≤ L) (hL : L ≤ 3072) : ¬ ((Int32.ofNat L) - 6 < nI n) := by
  show ¬ (nI L - nI 6 < nI n)
  rw [pk_sub (by omega)]
  exact nI_nlt (by omega) (by omega)
/-- the answers that are fields -/
def Rp (σ : st_S) : Prop := gI σ 1 9 = gI σ 66 12 ∧ gI σ 62 9 = gI σ 66 30 ∧ gI σ 52 10 = gI σ 66 29 ∧ gI σ 1 7 = gI σ 66 11 ∧ gN σ 187 = 1
theorem Fo.th (σ : st_S) (v : Int32) : Fo 0 σ (st_i σ 66 0 v) := Fr.i σ v (by decide)
theorem stp_3 (qf : Qf Q) (hi : Inv Q L xs n σ) (hr : Rp σ) (hn : n + 6 ≤ L) (hL : L ≤ 3072) (hk : xs n &&& 15 = 3) : Stq Q L xs n b σ := by
  refine ⟨b, _, hi.n0 qf (Fo.th σ 0) (by decide), fun q hq => ?_⟩
  cases b with
  | none => exact lh_3_0 (d := 14) (hs := hi.2.2.1) (hn := hn) (hL := hL) (c_1 := law_c hn hL) (c_2 := hk) (lw_3_a0 (d := 13) (hs := hi.2.2.1) (hn := hn) (hL := hL) (c_1 := hr.1) (lq_0 (d := 14) hq))
  | some p => exact lh_3_1 (d := 14) (hs := hi.2.2.1) (hn := hn) (hL := hL) (c_1 := law_c hn hL) (c_2 := hk) (lw_3_a1 (d := 13) (hs := hi.2.2.1) (hn := hn) (hL := hL) (c_1 := hr.1) (lq_1 (d := 14) hq))
theorem stp_6 (qf : Qf Q) (hi : Inv Q L xs n σ) (hr : Rp σ) (hn : n + 6 ≤ L) (hL : L ≤ 3072) (hk : xs n &&& 15 = 6) : Stq Q L xs n b σ := by
  refine ⟨b, _, hi.n0 qf (Fo.th σ 0) (by decide), fun q hq => ?_⟩
  cases b with
  | none => exact lh_6_0 (d := 14) (hs := hi.2.2.1) (hn := hn) (hL := hL) (c_1 := law_c hn hL) (c_2 := hk) (lw_6_a0 (d := 13) (hs := hi.2.2.1) (hn := hn) (hL := hL) (c_1 := hr.2.1) (lq_0 (d := 14) hq))
  | some p => exact lh_6_1 (d := 14) (hs := hi.2.2.1) (hn := hn) (hL := hL) (c_1 := law_c hn hL) (c_2 := hk) (lw_6_a1 (d := 13) (hs := hi.2.2.1) (hn := hn) (hL := hL) (c_1 := hr.2.1) (lq_1 (d := 14) hq))
theorem stp_7 (qf : Qf Q) (hi : Inv Q L xs n σ) (hr : Rp σ) (hn : n + 6 ≤ L) (hL : L ≤ 3072) (hk : xs n &&& 15 = 7) : Stq Q L xs n b σ := by
  refine ⟨b, _, hi.n0 qf (Fo.th σ 0) (by decide), fun q hq => ?_⟩
  cases b with
  | none => exact lh_7_0 (d := 14) (hs := hi.2.2.1) (hn := hn) (hL := hL) (c_1 := law_c hn hL) (c_2 := hk) (lw_7_a0 (d := 13) (hs := hi.2.2.1) (hn := hn) (hL := hL) (c_1 := hr.2.2.1) (lq_0 (d := 14) hq))
  | some p => exact lh_7_1 (d := 14) (hs := hi.2.2.1) (hn := hn) (hL := hL) (c_1 := law_c hn hL) (c_2 := hk) (lw_7_a1 (d := 13) (hs := hi.2.2.1) (hn := hn) (hL := hL) (c_1 := hr.2.2.1) (lq_1 (d := 14) hq))
theorem stp_14 (qf : Qf Q) (hi : Inv Q L xs n σ) (hn : n + 6 ≤ L) (hL : L ≤ 3072) (hk : (xs n &&& 15 : Int32).toInt < 0 ∨ 13 < (xs n &&& 15 : Int32).toInt) : Stq Q L xs n b σ := by
  refine ⟨b, _, hi.n0 qf (Fr.rf σ) (by decide), fun q hq => ?_⟩
  cases b with
  | none => exact lh_14_0 (d := 14) (hs := hi.2.2.1) (hn := hn) (hL := hL) (c_1 := law_c hn hL) (c_2 := hk) (lq_0 (d := 14) hq)
  | some p => exact lh_14_1 (d := 14) (hs := hi.2.2.1) (hn := hn) (hL := hL) (c_1 := law_c hn hL) (c_2 := hk) (lq_1 (d := 14) hq)
end LOOP
