/-! the reference: looking at a rule is its kind, or its fault -/
section LF3
variable {N g x n : Nat} {σ0 : st_S} {w : List (Nat × Nat × Nat)} {l : List Int32} {E : List En} {co : Bool}
theorem fo_inl {σ : st_S} {B B' : List (Nat × Nat)} {Vs Vs' : List Int32} {D D' : Nat → Nat → Int32} {T T' : Tr} {a a' b b' : Nat} {nx nx' : Int32} {e : Nat × Nat} (h : LkO N g x l w E co σ0 σ B Vs n D T a nx b (.inl e)) (hb : b ≤ b') : LkO N g x l w E co σ0 σ B' Vs' n D' T' a' nx' b' (.inl e) := by
  obtain ⟨σ', c, h1, h2⟩ := h
  exact ⟨σ', c, by omega, h2⟩
theorem fo_run {σ σ1 : st_S} {B B' : List (Nat × Nat)} {Vs Vs' : List Int32} {D D' : Nat → Nat → Int32} {T T' : Tr} {a a' b b' c : Nat} {nx nx' : Int32} {e : Nat × Nat} (h : LkO N g x l w E co σ0 σ1 B Vs n D T a nx b (.inl e)) (hr : ∀ f, L_179 N g x (f + c) 32 (if co = true then 1 else 0) 0 0 σ = L_179 N g x f 32 (if co = true then 1 else 0) 0 0 σ1) (hb : b + c ≤ b') : LkO N g x l w E co σ0 σ B' Vs' n D' T' a' nx' b' (.inl e) := by
  obtain ⟨σ', c', h1, h2, h3⟩ := h
  refine ⟨σ', c' + c, by omega, fun f => ?_, h3⟩
  rw [show f + (c' + c) + 1 = f + c' + 1 + c by omega, hr, h2]
theorem lkF (G : LGv N g x l w E σ0) (hn : n ≤ 20000) : ∀ {T : Tr}, Wf w T → ∀ (σ : st_S) (B : List (Nat × Nat)) (Vs : List Int32) (D : Nat → Nat → Int32) (a : Nat) (nx : Int32), Rt l w Vw D T a nx → LQ g x l w E σ0 σ (B ++ kd0 (rts T a).reverse) Vs n D → gI σ 66 16 = 0 → a + rln T ≤ n → B.length + rln T ≤ 24000 → Vs.length + rln T ≤ 25000 → LkO N g x l w E co σ0 σ B Vs n D T a nx (4 * rln T - (rts T a).length) (chk l w E co T) := by
  intro T
  induction T with
  | leaf k =>
    intro hw σ B Vs D a nx hR hQ hf ha hB hV
    have ho : opd (kK w k) = true := hw
    simp only [opd, Bool.or_eq_true, decide_eq_true_eq] at ho
    have hR' := hR
    obtain ⟨⟨r0, r1, r2⟩, r3, r4, r5, r6⟩ := hR
    have hQ : LQ g x l w E σ0 σ (B ++ [(a, 0)]) Vs n D := hQ
    have e1 : rln (.leaf k) = 1 := rfl
    rw [e1] at ha hB hV
    obtain ⟨s2, a1, a2, a3⟩ := L179d (l2 := if co = true then 1 else 0) G hQ hf (by omega) hn (Or.inr ⟨rfl, r5⟩) (by omega)
    show LkO N g x l w E co σ0 σ B Vs n D (.leaf k) a nx 3 _
    unfold chk
    by_cases c1 : kK w k = 1
    · rw [if_neg (by omega), if_pos c1]
      have K := F180n (co := co) G a1 a2 hn (by omega) (by rw [r0, c1]) r1 (r4 c1) c1 r5 (by omega)
      cases hc : chn l w E co k with
      | inl e =>
        rw [hc] at K
        obtain ⟨σ', b1, b2, b3, b4⟩ := K
        refine ⟨σ', 1, by decide, fun f => ?_, b2, b3, _, _, _, b4⟩
        have e0 : e.1 ≠ 0 ∧ e.1 < 10 := by
          unfold chn at hc
          repeat' split at hc
          all_goals first
            | (cases hc; done)
            | (injection hc with hc; rw [← hc]; exact ⟨show (2 : Nat) ≠ 0 by decide, show (2 : Nat) < 10 by decide⟩)
        rw [a3 σ' b1, L179f b4 (by rw [b2]; exact nik (m := 0) (by omega) (by decide) e0.1)]
      | inr kd =>
        rw [hc] at K
        obtain ⟨σ', j, b1, b2, b3, b4, b5⟩ := K
        refine ⟨σ', _, [kd - 1], 1, by decide, a3 σ' b1, b2, b3, fun i hi => pat_o _ _ (by have : rln (.leaf k) = 1 := rfl; omega), ?_, KS.one (Nat.zero_le _) b5, rfl⟩
        unfold Rt
        refine ⟨⟨(pat_c _ _ (by decide)).trans r0, (pat_c _ _ (by decide)).trans r1, (pat_c _ _ (by decide)).trans r2⟩, fun z => by omega, fun _ => ⟨j, b4, pat_s _ _ _ _⟩, (pat_c _ _ (by decide)).trans r5, (pat_c _ _ (by decide)).trans r6⟩
    · obtain ⟨σ', b1, b2, b3⟩ := F180 (co := if co = true then 1 else 0) (cs := []) (ks := []) (s := kK w k) (pl := kP w k) G (by rw [List.map_nil, List.append_nil]; exact a1) a2 hn (by omega) r0 (by omega) c1 r1 r5 (fun c z => by cases z) rfl (by show Vs.length + 0 < _; omega) (fun k z => by cases z) (fun z => by omega)
      have rt' : Rt l w (Vx l w E) D (.leaf k) a nx := ⟨⟨r0, r1, r2⟩, r3, fun z => absurd z c1, r5, r6⟩
      by_cases c2 : kK w k = 2
      · rw [if_pos c2]
        have lk : lkr (kK w k) ([] : List Nat).length [] = (true, 0) := by unfold lkr; rw [if_pos c2]
        rw [lk, if_pos rfl] at b3
        rw [lk] at b2
        have b2 : LQ g x l w E σ0 σ' B (Vs ++ List.map nI [1 - 1]) n D := b2
        exact ⟨σ', D, [1 - 1], 1, by decide, a3 σ' b1, b3, b2, fun _ _ => rfl, rt', KS.one (Nat.zero_le _) (Or.inl rfl), rfl⟩
      · rw [if_neg c2, if_neg c1]
        have lk : lkr (kK w k) ([] : List Nat).length [] = (true, 1) := by unfold lkr; rw [if_neg c2, if_pos (by omega)]
        rw [lk, if_pos rfl] at b3
        rw [lk] at b2
        have b2 : LQ g x l w E σ0 σ' B (Vs ++ List.map nI [2 - 1]) n D := b2
        exact ⟨σ', D, [2 - 1], 1, by decide, a3 σ' b1, b3, b2, fun _ _ => rfl, rt', KS.one (Nat.zero_le _) (Or.inr rfl), rfl⟩
  | branch m l' r il ir =>
    intro hw σ B Vs D a nx hR hQ hf ha hB hV
    have lv : lev (.branch m l' r) = lvo (m % 64) := rfl
    have pl := rln_pos l'
    have pr := rln_pos r
    unfold chk
    rcases tcl_4 (m % 64) with ht | ht | ht | ht
    · -- side by side
      rw [rln_0 ht] at ha hB hV
      have hR' := hR
      unfold Rt at hR'
      rw [if_pos ht] at hR'
      obtain ⟨R1, R2⟩ := hR'
      rw [rts_0 ht, List.reverse_append, kd0_app, ← List.append_assoc] at hQ
      obtain ⟨hw1, hw2, hun, hop⟩ : Wf w l' ∧ Wf w r ∧ un (m % 64) = false ∧ (((m % 64 = 20 ∨ m % 64 = 21) ∧ lev l' ≤ 7 ∧ lev r ≤ 6) ∨ (m % 64 = 37 ∧ lev l' ≤ 6 ∧ lev r ≤ 6)) := by
        have no : ∀ {P : Prop}, tcl (m % 64) ≠ 0 → P := fun z => absurd ht z
        rcases hw.br with ⟨c', -⟩ | ⟨c', -⟩ | ⟨c', -⟩ | ⟨c', -⟩ | ⟨c', h1, h2, h3, h4, h5, h6⟩ | ⟨c', -⟩ | ⟨c', h1, h2, h3, h4, h5, h6⟩ | ⟨c', -⟩
        · exact no (by rw [c']; decide)
        · exact no (by rw [c']; decide)
        · exact no (by rw [c']; decide)
        · exact no (by rw [c']; decide)
        · exact ⟨h1, h2, by rcases c' with z | z <;> rw [z] <;> rfl, Or.inl ⟨c', h5, h6⟩⟩
        · exact no (by rw [c']; decide)
        · exact ⟨h1, h2, by rw [c']; rfl, Or.inr ⟨c', h5, h6⟩⟩
        · have bf := bin_f c'
          exact no (by unfold tcl; rw [if_neg (by omega), if_neg (by omega), if_neg (by omega)]; decide)
      rw [if_neg (by rw [hun]; exact Bool.false_ne_true)]
      have rl := rts_len r (a + rln l')
      have ll := rts_len l' a
      have r1 := rts_l1 r (a + rln l')
      have l1 := rts_l1 l' a
      have L := il hw1 σ (B ++ kd0 (rts r (a + rln l')).reverse) Vs D a _ R1 hQ hf (by omega) (by rw [List.length_append, kd0_len, List.length_reverse]; omega) (by omega)
      have bT : 4 * rln (.branch m l' r) - (rts (.branch m l' r) a).length = (4 * rln l' - (rts l' a).length) + (4 * rln r - (rts r (a + rln l')).length) := by
        rw [rln_0 ht, rts_0 ht, List.length_append]; omega
      rw [bT]
      cases hl : chk l w E co l' with
      | inl e =>
        rw [hl] at L
        exact fo_inl L (by omega)
      | inr ka =>
        rw [hl] at L
        rw [sbd_r]
        obtain ⟨σ1, D1, ks1, c1, g1, g2, g3, g4, g5, g6, g7, g8⟩ := L
        have K := ir hw2 σ1 B (Vs ++ ks1.map nI) D1 (a + rln l') nx (R2.fr (fun i h1 h2 => g5 i (by omega))) g4 g3 (by omega) (by omega) (by rw [List.length_append, List.length_map, g8]; omega)
        cases hr : chk l w E co r with
        | inl e =>
          rw [hr] at K
          rw [sbd_l]
          exact fo_run K g2 (by omega)
        | inr kb =>
          rw [hr] at K
          rw [sbd_r]
          obtain ⟨σ2, D2, ks2, c2, k1, k2, k3, k4, k5, k6, k7, k8⟩ := K
          have ek : ∃ kd, kr (kP w (m / 64)) (m % 64) ka kb = .inr kd ∧ KS (.branch m l' r) (ks1 ++ ks2) kd := by
            obtain ⟨p1, p2, p3, p4⟩ := g7
            obtain ⟨q1, q2, q3, q4⟩ := k7
            have all : ∀ k ∈ ks1 ++ ks2, k ≤ 1 := fun k hk => by
              rcases List.mem_append.mp hk with z | z
              · exact p1 k z
              · exact q1 k z
            rcases hop with ⟨c, l7, r6⟩ | ⟨c, l6, r6⟩
            · refine ⟨if ka = 1 ∧ kb = 1 then 1 else 0, ?_, all, fun z => ?_, fun _ => ?_, fun z => ?_⟩
              · unfold kr
                rw [if_neg (by omega), if_neg (by omega), if_neg (by omega), if_neg (by omega), if_pos c]
              · rw [lv] at z
                rcases c with y | y <;> rw [y] at z <;> exact absurd z (by decide)
              · rw [List.sum_append]
                have a1 := p3 l7
                have a2 := q3 (by omega)
                by_cases z : ka = 1 ∧ kb = 1
                · rw [if_pos z]
                  have := a1.mp z.1
                  have := a2.mp z.2
                  omega
                · rw [if_neg z]
                  constructor
                  · intro y; omega
                  · intro y
                    exact absurd ⟨a1.mpr (by omega), a2.mpr (by omega)⟩ z
              · rw [lv] at z
                rcases c with y | y <;> rw [y] at z <;> exact absurd z (by decide)
            · obtain ⟨x1, x2⟩ := p2 l6
              obtain ⟨y1, y2⟩ := q2 r6
              refine ⟨if ka = kb then ka else 0, by rw [c]; rfl, all, fun z => ?_, fun z => ?_, fun _ => ⟨ka, kb, x2, y2, by rw [x1, y1]; rfl, rfl⟩⟩
              · rw [lv, c] at z; exact absurd z (by decide)
              · rw [lv, c] at z; exact absurd z (by decide)
          obtain ⟨kd, e1, e2⟩ := ek
          rw [e1]
          refine ⟨σ2, D2, ks1 ++ ks2, c2 + c1, by omega, fun f => ?_, k3, by rw [List.map_append, ← List.append_assoc]; exact k4, fun i hi => ?_, ?_, e2, by rw [rts_0 ht, List.length_append, List.length_append, g8, k8]⟩
          · rw [← Nat.add_assoc, g2, k2]
          · rw [rln_0 ht] at hi
            rw [k5 i (by omega), g5 i (by omega)]
          · unfold Rt
            rw [if_pos ht]
            exact ⟨g6.fr (fun i h1 h2 => k5 i (by omega)), k6⟩
    · -- brackets
      have c1 : m % 64 = 35 := by
        unfold tcl at ht
        repeat' split at ht
        all_goals first
          | assumption
          | omega
      rw [rln_1 ht] at ha hB hV ⊢
      rw [rts_1 ht] at hQ ⊢
      have hR' := hR
      unfold Rt at hR'
      rw [if_neg (by omega), if_pos ht] at hR'
      obtain ⟨h2, l6⟩ : Wf w r ∧ lev r ≤ 6 := by
        rcases hw.br with ⟨c', -⟩ | ⟨c', -⟩ | ⟨c', h1, h2, h3, h4, h5⟩ | ⟨c', -⟩ | ⟨c', -⟩ | ⟨c', -⟩ | ⟨c', -⟩ | ⟨c', -⟩
        · omega
        · omega
        · exact ⟨h2, h5⟩
        · omega
        · omega
        · omega
        · omega
        · have := bin_f c'; omega
      rw [if_pos (by rw [c1]; rfl)]
      have K := ir h2 σ B Vs D a nx hR' hQ hf ha hB hV
      have es : (fun a => ku (kP w (m / 64)) (m % 64) a) = fun a => (.inr a : Rs Nat) := by
        funext q
        unfold ku
        rw [if_pos c1]
      rw [es]
      cases hc : chk l w E co r with
      | inl e =>
        rw [hc] at K
        exact fo_inl K (Nat.le_refl _)
      | inr kd =>
        rw [hc] at K
        rw [sbd_r]
        obtain ⟨σ1, D1, ks1, c', g1, g2, g3, g4, g5, g6, g7, g8⟩ := K
        obtain ⟨x1, x2⟩ := g7.2.1 l6
        refine ⟨σ1, D1, ks1, c', g1, g2, g3, g4, by rw [rln_1 ht]; exact g5, ?_, ?_, by rw [rts_1 ht]; exact g8⟩
        · unfold Rt
          rw [if_neg (by omega), if_pos ht]
          exact g6
        · rw [x1]
          exact KS.one (by rw [lv, c1]; decide) x2
    · -- one part
      have c2 := bw_t (l' := l') (r := r) ht
      have l6 : lev (.branch m l' r) ≤ 6 := by rw [lv]; rcases c2 with z | z | z <;> rw [z] <;> decide
      have er : rts (.branch m l' r) a = [a] := rts_2 (Or.inl ht)
      rw [rln_2 ht] at ha hB hV ⊢
      rw [er] at hQ ⊢
      have hQ : LQ g x l w E σ0 σ (B ++ [(a, 0)]) Vs n D := hQ
      have hR' := hR
      unfold Rt at hR'
      rw [if_neg (by omega), if_neg (by omega), if_pos ht] at hR'
      obtain ⟨⟨⟨r0, r1, r2⟩, r4, r5⟩, R2⟩ := hR'
      have h2 : Wf w r := hw.2.1
      rw [if_pos (by rcases c2 with z | z | z <;> rw [z] <;> rfl)]
      have rl := rts_len r (a + 1)
      have r1' := rts_l1 r (a + 1)
      obtain ⟨σ1, o1, o2, o3, o4⟩ := L179o (l2 := if co = true then 1 else 0) (cs := rts r (a + 1)) G hQ hf (by omega) hn (by rw [r4]; exact R2.pc.pk) (fun c hc => by have := rts_b hc; omega) r1' (by omega)
      have K := ir h2 σ1 (B ++ [(a, 1)]) Vs D (a + 1) (-1) R2 o2 o3 (by omega) (by rw [List.length_append]; show B.length + 1 + _ ≤ _; omega) (by omega)
      cases hc : chk l w E co r with
      | inl e =>
        rw [hc] at K
        rw [sbd_l]
        exact fo_run K o1 (by show _ ≤ 4 * (rln r + 1) - 1; omega)
      | inr ka =>
        rw [hc] at K
        rw [sbd_r]
        obtain ⟨σ2, D2, ks, c', g1, g2, g3, g4, g5, g6, g7, g8⟩ := K
        have ea := g5 a (by omega)
        have hRx : Rt l w (Vx l w E) D2 (.branch m l' r) a nx := by
          unfold Rt
          rw [if_neg (by omega), if_neg (by omega), if_pos ht, ea]
          exact ⟨⟨⟨r0, r1, r2⟩, r4, r5⟩, g6⟩
        have s46 : nso w m < 46 ∧ nso w m ≠ 1 ∧ nso w m ≠ 32 ∧ ku (kP w (m / 64)) (m % 64) ka = if (lkr (nso w m) (rts r (a + 1)).length ks).1 = true then .inr ((lkr (nso w m) (rts r (a + 1)).length ks).2 + 1) else .inl (3, kP w (m / 64)) := by
          rcases hw.br with ⟨c', h1, h2', h3, h4⟩ | ⟨c', h1, h2', h3, h4⟩ | ⟨c', -⟩ | ⟨c', h1, h2', h3, h4, h5, h6, -⟩ | ⟨c', -⟩ | ⟨c', -⟩ | ⟨c', -⟩ | ⟨c', -⟩
          · have en : nso w m = 45 := if_pos c'
            obtain ⟨x1, x2⟩ := g7.2.1 (by omega)
            have le : (rts r (a + 1)).length = 1 := by rw [← g8, x1]; rfl
            rw [en, le, c', x1]
            exact ⟨by decide, by decide, by decide, lk_9 x2⟩
          · have en : nso w m = 31 := by unfold nso; rw [if_neg (by omega)]; exact h1
            obtain ⟨x1, x2⟩ := g7.2.1 (by omega)
            have le : (rts r (a + 1)).length = 1 := by rw [← g8, x1]; rfl
            rw [en, le, c', x1]
            exact ⟨by decide, by decide, by decide, lk_16 x2⟩
          · omega
          · have en : nso w m = kK w (m / 64) := if_neg (by omega)
            rw [en, c']
            exact ⟨by omega, by omega, by omega, lk_22 h1 (g7.2.2.1 h6)⟩
          · omega
          · omega
          · omega
          · have := bin_f c'; omega
        obtain ⟨s1, s2, s3, s4⟩ := s46
        have F := lk_end (co := co) (T := .branch m l' r) (a := a) (s := nso w m) (pl := kP w (m / 64)) (nx := nx) (cs := rts r (a + 1)) (ks := ks) (B := B) (Vs := Vs) G g4 g3 (by omega) hn (by omega) (by rw [ea]; exact r0) s1 s2 (by rw [ea]; exact r1) (by rw [ea, r4]; exact g6.pc.pk) (fun c hc => by have := rts_b hc; omega) g8 (by rw [g8]; omega) g7.1 (fun z => absurd z s3) l6 hRx er s4
        refine F.pr (c := c' + ((rts r (a + 1)).length + 2)) (fun f => ?_) (fun i hi => g5 i (by rw [rln_2 ht] at hi; omega)) (by show _ ≤ 4 * (rln r + 1) - 1; omega)
        rw [← Nat.add_assoc, o1, g2]
    · -- two parts or three
      have er : rts (.branch m l' r) a = [a] := rts_2 (Or.inr ht)
      rw [rln_3 ht] at ha hB hV ⊢
      rw [er] at hQ ⊢
      have hQ : LQ g x l w E σ0 σ (B ++ [(a, 0)]) Vs n D := hQ
      have hR' := hR
      unfold Rt at hR'
      rw [if_neg (by omega), if_neg (by omega), if_neg (by omega)] at hR'
      obtain ⟨⟨⟨r0, r1, r2⟩, r4, r5⟩, R1, R2⟩ := hR'
      obtain ⟨c3, h1, h2, hun, s9, l6, hlv⟩ : (m % 64 = 19 ∨ bin (m % 64) = true) ∧ Wf w l' ∧ Wf w r ∧ un (m % 64) = false ∧ nso w m = kK w (m / 64) ∧ lev (.branch m l' r) ≤ 6 ∧ lev l' ≤ 6 := by
        have no : ∀ {P : Prop}, tcl (m % 64) ≠ 3 → P := fun z => absurd ht z
        rcases hw.br with ⟨c', -⟩ | ⟨c', -⟩ | ⟨c', -⟩ | ⟨c', -⟩ | ⟨c', -⟩ | ⟨c', h1, h2, h3, h4, h5, h6, -⟩ | ⟨c', -⟩ | ⟨c', h1, h2, h3, h4, h5, h6, -⟩
        · exact no (by rw [c']; decide)
        · exact no (by rw [c']; decide)
        · exact no (by rw [c']; decide)
        · exact no (by rw [c']; decide)
        · exact no (by rcases c' with z | z <;> rw [z] <;> decide)
        · exact ⟨Or.inl c', h1, h2, by rw [c']; rfl, if_neg (by omega), by rw [lv, c']; decide, by omega⟩
        · exact no (by rw [c']; decide)
        · have bf := bin_f c'
          have lL5 : lL (m % 64) ≤ 5 := by unfold lL; repeat' split
                                           all_goals omega
          exact ⟨Or.inr c', h1, h2, by simp only [un, Bool.or_eq_false_iff, decide_eq_false_iff_not]; omega, if_neg (by omega), by rw [lv]; have := (lvo_b c').2.2.1; omega, by omega⟩
      rw [if_neg (by rw [hun]; exact Bool.false_ne_true)]
      have rl := rts_len r (a + 1 + rln l')
      have ll := rts_len l' (a + 1)
      have r1' := rts_l1 r (a + 1 + rln l')
      have l1' := rts_l1 l' (a + 1)
      have cl : (rts l' (a + 1) ++ rts r (a + 1 + rln l')).length = (rts l' (a + 1)).length + (rts r (a + 1 + rln l')).length := List.length_append
      obtain ⟨σ1, o1, o2, o3, o4⟩ := L179o (l2 := if co = true then 1 else 0) (cs := rts l' (a + 1) ++ rts r (a + 1 + rln l')) G hQ hf (by omega) hn (by rw [r4]; exact (R1.pc.app R2.pc).pk) (fun c hc => by
        rcases List.mem_append.mp hc with z | z
        · have := rts_b z; omega
        · have := rts_b z; omega) (by omega) (by omega)
      rw [List.reverse_append, kd0_app, ← List.append_assoc] at o2
      have L := il h1 σ1 (B ++ [(a, 1)] ++ kd0 (rts r (a + 1 + rln l')).reverse) Vs D (a + 1) _ R1 o2 o3 (by omega) (by rw [List.length_append, List.length_append, kd0_len, List.length_reverse]; show B.length + 1 + _ + _ ≤ _; omega) (by omega)
      cases hl : chk l w E co l' with
      | inl e =>
        rw [hl] at L
        rw [sbd_l]
        exact fo_run L o1 (by show _ ≤ 4 * (rln l' + rln r + 1) - 1; omega)
      | inr ka =>
        rw [hl] at L
        rw [sbd_r]
        obtain ⟨σ2, D2, ks1, c1, g1, g2, g3, g4, g5, g6, g7, g8⟩ := L
        have run1 : ∀ f, L_179 N g x (f + (c1 + ((rts l' (a + 1) ++ rts r (a + 1 + rln l')).length + 2))) 32 (if co = true then 1 else 0) 0 0 σ = L_179 N g x f 32 (if co = true then 1 else 0) 0 0 σ2 := fun f => by
          rw [← Nat.add_assoc, o1, g2]
        have K := ir h2 σ2 (B ++ [(a, 1)]) (Vs ++ ks1.map nI) D2 (a + 1 + rln l') (-1) (R2.fr (fun i h1 h2 => g5 i (by omega))) g4 g3 (by omega) (by rw [List.length_append]; show B.length + 1 + _ ≤ _; omega) (by rw [List.length_append, List.length_map, g8]; omega)
        cases hr : chk l w E co r with
        | inl e =>
          rw [hr] at K
          rw [sbd_l]
          exact fo_run K run1 (by show _ ≤ 4 * (rln l' + rln r + 1) - 1; omega)
        | inr kb =>
          rw [hr] at K
          rw [sbd_r]
          obtain ⟨σ3, D3, ks2, c2, k1, k2, k3, k4, k5, k6, k7, k8⟩ := K
          have ea : D3 a = D a := by rw [k5 a (by omega), g5 a (by omega)]
          have hRx : Rt l w (Vx l w E) D3 (.branch m l' r) a nx := by
            unfold Rt
            rw [if_neg (by omega), if_neg (by omega), if_neg (by omega), ea]
            exact ⟨⟨⟨r0, r1, r2⟩, r4, r5⟩, g6.fr (fun i h1 h2 => k5 i (by omega)), k6⟩
          obtain ⟨x1, x2⟩ := g7.2.1 hlv
          have s46 : kK w (m / 64) < 46 ∧ kK w (m / 64) ≠ 1 ∧ (kK w (m / 64) = 32 → (ks1 ++ ks2).length = 3) ∧ kr (kP w (m / 64)) (m % 64) ka kb = if (lkr (kK w (m / 64)) (ks1 ++ ks2).length (ks1 ++ ks2)).1 = true then .inr ((lkr (kK w (m / 64)) (ks1 ++ ks2).length (ks1 ++ ks2)).2 + 1) else .inl (3, kP w (m / 64)) := by
            rcases hw.br with ⟨c', -⟩ | ⟨c', -⟩ | ⟨c', -⟩ | ⟨c', -⟩ | ⟨c', -⟩ | ⟨c', h1', h2', h3, h4, h5, h6, h7⟩ | ⟨c', -⟩ | ⟨c', h1', h2', h3, h4, h5, h6, h7⟩
            · rcases c3 with z | z
              · omega
              · have := bin_f z; omega
            · rcases c3 with z | z
              · omega
              · have := bin_f z; omega
            · rcases c3 with z | z
              · omega
              · have := bin_f z; omega
            · rcases c3 with z | z
              · omega
              · have := bin_f z; omega
            · rcases c3 with z | z
              · omega
              · have := bin_f z; omega
            · obtain ⟨kx, ky, y1, y2, y3, y4⟩ := k7.2.2.2 h7
              have e3 : ks1 ++ ks2 = [ka - 1, kx - 1, ky - 1] := by rw [x1, y3]; rfl
              rw [h3, c', e3, y4]
              exact ⟨by decide, by decide, fun _ => rfl, lk_c x2 y1 y2⟩
            · rcases c3 with z | z
              · omega
              · have := bin_f z; omega
            · have lR5 : lR (m % 64) ≤ 5 := by unfold lR; repeat' split
                                               all_goals omega
              obtain ⟨y1, y2⟩ := k7.2.1 (by omega)
              have e2 : ks1 ++ ks2 = [ka - 1, kb - 1] := by rw [x1, y1]; rfl
              have ob := opk_b c'
              rw [h3, e2]
              exact ⟨by omega, by omega, fun z => by omega, lk_b c' x2 y2⟩
          obtain ⟨s1, s2, s3, s4⟩ := s46
          have kl : (ks1 ++ ks2).length = (rts l' (a + 1) ++ rts r (a + 1 + rln l')).length := by rw [cl, List.length_append, g8, k8]
          rw [s9] at r0
          rw [kl] at s4
          have F := lk_end (co := co) (T := .branch m l' r) (a := a) (s := kK w (m / 64)) (pl := kP w (m / 64)) (nx := nx) (cs := rts l' (a + 1) ++ rts r (a + 1 + rln l')) (ks := ks1 ++ ks2) (B := B) (Vs := Vs) G (by rw [List.map_append, ← List.append_assoc]; exact k4) k3 (by omega) hn (by omega) (by rw [ea]; exact r0) s1 s2 (by rw [ea]; exact r1) (by rw [ea, r4]; exact ((g6.fr (fun i h1 h2 => k5 i (by omega))).pc.app k6.pc).pk) (fun c hc => by
            rcases List.mem_append.mp hc with z | z
            · have := rts_b z; omega
            · have := rts_b z; omega) kl (by rw [kl]; omega) (fun k hk => by
            rcases List.mem_append.mp hk with z | z
            · exact g7.1 k z
            · exact k7.1 k z) s3 l6 hRx er s4
          refine F.pr (c := c2 + (c1 + ((rts l' (a + 1) ++ rts r (a + 1 + rln l')).length + 2))) (fun f => ?_) (fun i hi => by rw [rln_3 ht] at hi; rw [k5 i (by omega), g5 i (by omega)]) (by show _ ≤ 4 * (rln l' + rln r + 1) - 1; omega)
          rw [← Nat.add_assoc, run1, k2]
end LF3
