/-! the texts' own methods in the abstract machine -/
theorem ts_tx_eq : ∀ j, j < 15 → ts_ix j < 19 ∧ ts_byt.getD (ts_ix j) [] = (tb_tx.getD j []).map nI ∧ ts_len.getD (ts_ix j) 0 = (tb_tx.getD j []).length := by decide +kernel
theorem ts_tx_get {j : Nat} {t : List Nat} (h : tb_tx[j]? = some t) : ts_ix j < 19 ∧ ts_byt.getD (ts_ix j) [] = t.map nI ∧ ts_len.getD (ts_ix j) 0 = t.length := by
  have hj : j < 15 := (List.getElem?_eq_some_iff.mp h).1
  have h1 := ts_tx_eq j hj
  have h2 : tb_tx.getD j [] = t := by rw [List.getD_eq_getElem?_getD, h]; rfl
  rw [h2] at h1
  exact h1
theorem sv_fm : ∀ (t : List Nat) (c : Int32) (k : Nat), sv_f c (t.map nI) k = (match t.findIdx? (fun z => decide (nI z = c)) with
    | some i => nI (i + k)
    | none => -1) := by
  intro t c
  induction t with
  | nil => intro k; rfl
  | cons z r ih =>
    intro k
    rw [List.map_cons, List.findIdx?_cons]
    by_cases h : nI z = c
    · rw [if_pos (by rw [decide_eq_true h])]
      show (if nI z = c then nI k else _) = nI (0 + k)
      rw [if_pos h, Nat.zero_add]
    · rw [if_neg (by rw [decide_eq_false h]; decide)]
      show (if nI z = c then nI k else sv_f c (r.map nI) (k + 1)) = _
      rw [if_neg h, ih (k + 1)]
      cases r.findIdx? (fun z => decide (nI z = c)) with
      | none => rfl
      | some i => show nI (i + (k + 1)) = nI (i + 1 + k); rw [Nat.add_right_comm, Nat.add_assoc]
theorem tb_bi_inv {k a : Nat} {As : List Value} {x : Int32} (h : tb_bi k (.ref a :: As) = some (.int x)) : (k = 0 ∧ As = [] ∧ ∃ t, tb_tx[a - vz_M0]? = some t ∧ x = nI t.length) ∨ (k = 1 ∧ ∃ i t ch, As = [.int i] ∧ tb_tx[a - vz_M0]? = some t ∧ ¬ i < 0 ∧ t[i.toNatClampNeg]? = some ch ∧ x = nI ch) ∨
    (k = 2 ∧ ∃ c t, As = [.int c] ∧ tb_tx[a - vz_M0]? = some t ∧ ¬ (c < 0 ∨ 255 < c) ∧ (match t.findIdx? (fun z => decide (nI z = c)) with
      | some i => some (Value.int (nI i))
      | none => some (Value.int (-1))) = some (.int x)) := by
  unfold tb_bi at h
  split at h
  · next a9 e9 =>
    cases e9
    obtain ⟨t, ht, hx9⟩ := Option.bind_eq_some_iff.mp h
    cases hx9
    exact Or.inl ⟨rfl, rfl, t, ht, rfl⟩
  · next a9 i9 e9 =>
    cases e9
    obtain ⟨t, ht, hx9⟩ := Option.bind_eq_some_iff.mp h
    split at hx9
    · cases hx9
    · next hneg =>
      obtain ⟨ch, hch, hx8⟩ := Option.bind_eq_some_iff.mp hx9
      cases hx8
      exact Or.inr (Or.inl ⟨rfl, i9, t, ch, rfl, ht, hneg, hch, rfl⟩)
  · next a9 c9 e9 =>
    cases e9
    obtain ⟨t, ht, hx9⟩ := Option.bind_eq_some_iff.mp h
    split at hx9
    · cases hx9
    · next hneg => exact Or.inr (Or.inr ⟨rfl, c9, t, rfl, ht, hneg, hx9⟩)
  · next e9 => cases e9
  · next e9 => cases e9
  · cases h
set_option maxHeartbeats 4000000 in
theorem sv_Bc {D : va_G} {cc : Nat → ClassId} {A : Nat → Prop} {adK adV : Nat → Nat} {l : Launch} : vz_Bc P0 D tb_cl cc (ts_tau adK) tb_T tb_N A (ts_G A adK adV) l := by
  intro y d pc ix k n a As rest x p e R s m args below meth c H locs cells slots Q ls ρ hC hG hdc hcl hla h8 hM hbi h4 hdR hlR hcR hsR hS hsz hρ kk
  obtain ⟨hx, hbb, hmL, hown, hts, hns, hK, hin, hrt, hlk⟩ := hC
  obtain ⟨j1, j2, -, -⟩ := tg_J hcl
  have j1 := j1 (Or.inl rfl)
  have j2 := j2 rfl
  have S : CallFix p m c (vz_bc P0 y) (vz_ml P0 y) s args tb_T (vz_own P0 y) := ⟨hx, hbb, hmL, hown, hts⟩
  have h8' : ((vz_ts ρ rest).map fun v => v.category).sum ≤ 8 := by
    show ((vz_ts ρ rest).map Value.category).sum ≤ 8
    rw [vz_cats]; exact h8
  have hρ : ρ a = adK (ts_ix (a - vz_M0)) := hρ
  have hbi : tb_bi k (.ref a :: As) = some (.int x) := hbi
  rcases tb_bi_inv hbi with ⟨rfl, rfl, t, ht, rfl⟩ | ⟨rfl, i9, t, ch, rfl, ht, hneg, hch, rfl⟩ | ⟨rfl, c9, t, rfl, ht, hneg, hx9⟩
  · obtain ⟨g1, g2, g3⟩ := ts_tx_get ht
    show W p l e R s m args below meth c H locs cells slots Q (F0 m pc ls (.ref (ρ a) :: vz_ts ρ rest))
    rw [hρ]
    refine sx_callV (As := []) (rest := vz_ts ρ rest) S hG hS g1 (sv_len g1) sw_len si_len j1 sm_len sl_len sy_len rfl rfl ⟨by omega, by omega⟩ hsz h8' hcR hsR hdc ?_
    rw [g3]
    exact kk
  · obtain ⟨g1, g2, g3⟩ := ts_tx_get ht
    · obtain ⟨q, hq, rfl⟩ := nI_of hneg
      rw [nI_clamp hq] at hch
      have hlt : q < ts_len.getD (ts_ix (a - vz_M0)) 0 := by rw [g3]; exact (List.getElem?_eq_some_iff.mp hch).1
      have hok := ts_ok _ g1
      have ech : ts_ch (ts_ix (a - vz_M0)) q = nI ch := by
        unfold ts_ch
        rw [g2, List.getD_eq_getElem?_getD, List.getElem?_map, hch]
        rfl
      have emem : nI ch ∈ ts_byt.getD (ts_ix (a - vz_M0)) [] := by
        rw [g2]
        exact List.mem_map.mpr ⟨ch, List.mem_of_getElem? hch, rfl⟩
      have eres : ((ts_ch (ts_ix (a - vz_M0)) q &&& 255).toUInt32 % 65536).toInt32 = nI ch := by
        rw [sc_c2, ech]
        exact (hok.2.2.2 _ emem).2
      show W p l e R s m args below meth c H locs cells slots Q (F0 m pc ls (.int (nI q) :: .ref (ρ a) :: vz_ts ρ rest))
      rw [hρ]
      refine sx_callV (As := [.int (nI q)]) (rest := vz_ts ρ rest) S hG hS g1 (sv_ca g1 hlt hok.2.2.1) sw_ca si_ca j1 sm_ca sl_ca sy_ca rfl rfl ⟨by omega, by omega⟩ hsz h8' hcR hsR hdc ?_
      rw [eres]
      exact kk
  · obtain ⟨g1, g2, g3⟩ := ts_tx_get ht
    · have n1 : ¬ c9 < 0 := fun h => hneg (Or.inl h)
      have n2 : ¬ (255 : Int32) < c9 := fun h => hneg (Or.inr h)
      obtain ⟨q, hq, rfl⟩ := nI_of n1
      have hq2 : q < 256 := by
        rcases Nat.lt_or_ge q 256 with h | h
        · exact h
        · exact absurd (show (255 : Int32) < nI q from (nI_lt (a := 255) (by omega) hq : nI 255 < nI q)) n2
      have eres : Value.int (sv_f (nI q) (ts_byt.getD (ts_ix (a - vz_M0)) []) 0) = .int x := by
        rw [g2, sv_fm]
        cases hf : t.findIdx? (fun z => decide (nI z = nI q)) with
        | none => rw [hf] at hx9; exact Option.some.inj hx9
        | some i => rw [hf] at hx9; exact Option.some.inj hx9
      show W p l e R s m args below meth c H locs cells slots Q (F0 m pc ls (.int (nI q) :: .ref (ρ a) :: vz_ts ρ rest))
      rw [hρ]
      refine sx_callV (As := [.int (nI q)]) (rest := vz_ts ρ rest) S hG hS g1 (sv_io g1 hq2) sw_io si_io j1 sm_io sl_io sy_io rfl rfl ⟨by omega, by omega⟩ hsz h8' hcR hsR hdc ?_
      rw [eres]
      exact kk
