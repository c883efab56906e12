/-! the reference: the loosest operation of a rule -/
/-- how loosely a word holds -/
def lsn (w : List (Nat × Nat × Nat)) (fr k : Nat) : Nat :=
  if kK w k = 32 then 6 else if kK w k = 30 then 5 else if kK w k = 29 then 4 else if 18 ≤ kK w k ∧ kK w k ≤ 23 then 3 else if kK w k = 24 ∨ kK w k = 25 then (if fr < k ∧ opx (kK w (k - 1)) = true then 2 else 0) else if 26 ≤ kK w k ∧ kK w k ≤ 28 then 1 else 0
/-- it is taken -/
abbrev tkn (l h : Nat) : Prop := h < l ∨ (0 < l ∧ l = h ∧ l < 6)
def lst (w : List (Nat × Nat × Nat)) (fr k : Nat) (s : Int32 × Nat × Nat) : Int32 × Nat × Nat :=
  (if tkn (if (if kK w k = 37 then s.2.2 - 1 else s.2.2) = 0 then lsn w fr k else 0) s.2.1 then nI k else s.1,
   if tkn (if (if kK w k = 37 then s.2.2 - 1 else s.2.2) = 0 then lsn w fr k else 0) s.2.1 then (if (if kK w k = 37 then s.2.2 - 1 else s.2.2) = 0 then lsn w fr k else 0) else s.2.1,
   if kK w k = 36 then (if kK w k = 37 then s.2.2 - 1 else s.2.2) + 1 else (if kK w k = 37 then s.2.2 - 1 else s.2.2))
def Ls (w : List (Nat × Nat × Nat)) (fr : Nat) : Nat → Nat → Int32 × Nat × Nat → Int32 × Nat × Nat → Prop
  | 0, _, s, s' => s = s'
  | m + 1, k, s, s' => (k < w.length ∧ (kK w k = 37 → 0 < s.2.2)) ∧ Ls w fr m (k + 1) (lst w fr k s) s'
section LO
variable {w : List (Nat × Nat × Nat)} {fr : Nat} {b : Int32}
theorem Ls.tr : ∀ {m1 m2 k : Nat} {s s1 s2 : Int32 × Nat × Nat}, Ls w fr m1 k s s1 → Ls w fr m2 (k + m1) s1 s2 → Ls w fr (m1 + m2) k s s2 := by
  intro m1
  induction m1 with
  | zero =>
    intro m2 k s s1 s2 h h2
    have h : s = s1 := h
    subst h
    rw [Nat.zero_add]
    exact h2
  | succ m1 ih =>
    intro m2 k s s1 s2 h h2
    rw [show m1 + 1 + m2 = m1 + m2 + 1 by omega]
    exact ⟨h.1, ih h.2 (by rw [show k + 1 + m1 = k + (m1 + 1) by omega]; exact h2)⟩
theorem Ls.t' {m1 m2 m k k1 : Nat} {s s1 s2 : Int32 × Nat × Nat} (h : Ls w fr m1 k s s1) (h2 : Ls w fr m2 k1 s1 s2) (hk : k1 = k + m1) (hm : m = m1 + m2) : Ls w fr m k s s2 := by
  subst hk hm
  exact h.tr h2
theorem ls_k {k h d : Nat} (h0 : kK w k ≠ 0) (h1 : kK w k ≠ 36) (h2 : kK w k ≠ 37) (h3 : d = 0 → ¬ tkn (lsn w fr k) h) : Ls w fr 1 k (b, h, d) (b, h, d) := by
  refine ⟨⟨kK_lt h0, fun z => absurd z h2⟩, ?_⟩
  show lst w fr k (b, h, d) = (b, h, d)
  unfold lst
  dsimp only
  rw [if_neg h1, if_neg h2]
  have e : ¬ tkn (if d = 0 then lsn w fr k else 0) h := by
    by_cases c : d = 0
    · rw [if_pos c]; exact h3 c
    · rw [if_neg c]
      unfold tkn
      omega
  rw [if_neg e, if_neg e]
theorem ls_t {k h : Nat} (h0 : kK w k ≠ 0) (h1 : kK w k ≠ 36) (h2 : kK w k ≠ 37) (h3 : tkn (lsn w fr k) h) : Ls w fr 1 k (b, h, 0) (nI k, lsn w fr k, 0) := by
  refine ⟨⟨kK_lt h0, fun z => absurd z h2⟩, ?_⟩
  show lst w fr k (b, h, 0) = (nI k, lsn w fr k, 0)
  unfold lst
  dsimp only
  rw [if_neg h1, if_neg h2, if_pos rfl, if_pos h3, if_pos h3]
theorem lsn_36 {k : Nat} (h : kK w k = 36 ∨ kK w k = 37) : lsn w fr k = 0 := by
  unfold lsn
  rw [if_neg (by omega), if_neg (by omega), if_neg (by omega), if_neg (by omega), if_neg (by omega), if_neg (by omega)]
theorem ls_36 {k h d : Nat} (h1 : kK w k = 36) : Ls w fr 1 k (b, h, d) (b, h, d + 1) := by
  refine ⟨⟨kK_lt (by omega), fun z => by omega⟩, ?_⟩
  show lst w fr k (b, h, d) = (b, h, d + 1)
  unfold lst
  dsimp only
  rw [if_pos h1, if_neg (show ¬ kK w k = 37 by omega), lsn_36 (Or.inl h1), ite_self]
  have e : ¬ tkn 0 h := by unfold tkn; omega
  rw [if_neg e, if_neg e]
theorem ls_37 {k h d : Nat} (h1 : kK w k = 37) : Ls w fr 1 k (b, h, d + 1) (b, h, d) := by
  refine ⟨⟨kK_lt (by omega), fun _ => Nat.succ_pos d⟩, ?_⟩
  show lst w fr k (b, h, d + 1) = (b, h, d)
  unfold lst
  dsimp only
  rw [if_neg (show ¬ kK w k = 36 by omega), if_pos h1, lsn_36 (Or.inr h1), ite_self, Nat.add_sub_cancel]
  have e : ¬ tkn 0 h := by unfold tkn; omega
  rw [if_neg e, if_neg e]
/-- inside brackets nothing is taken -/
theorem ls_in : ∀ {T : Tr}, Wf w T → ∀ (h d : Nat), Ls w fr (ew T - bw T) (bw T) (b, h, d + 1) (b, h, d + 1) := by
  intro T
  induction T with
  | leaf k =>
    intro hw h d
    have hw : opd (kK w k) = true := hw
    simp only [opd, Bool.or_eq_true, decide_eq_true_eq] at hw
    show Ls w fr (k + 1 - k) k _ _
    rw [Nat.add_sub_cancel_left]
    exact ls_k (by omega) (by omega) (by omega) (fun z => by omega)
  | branch n l r il ir =>
    intro hw h d
    rcases hw.br with ⟨c, h1, h2, h3, h4⟩ | ⟨c, h1, h2, h3, h4⟩ | ⟨c, h1, h2, h3, h4, h5⟩ | ⟨c, h1, h2, h3, h4, h5, h6, -⟩ | ⟨c, h1, h2, h3, h4, h5, h6⟩ | ⟨c, h1, h2, h3, h4, h5, h6, h7⟩ | ⟨c, h1, h2, h3, h4, h5, h6⟩ | ⟨c, h1, h2, h3, h4, h5, h6, h7⟩
    · have e := h2.wd.1
      rw [bw_u (by omega), ew_n (by omega)]
      exact (ls_k (b := b) (h := h) (d := d + 1) (by omega) (by omega) (by omega) (fun z => by omega)).t' (ir h2 h d) h3 (by omega)
    · have e := h2.wd.1
      rw [bw_u (by omega), ew_n (by omega)]
      exact (ls_k (b := b) (h := h) (d := d + 1) (by omega) (by omega) (by omega) (fun z => by omega)).t' (ir h2 h d) h3 (by omega)
    · have e := h2.wd.1
      rw [bw_u (by omega), ew_c (by omega)]
      exact ((ls_36 (b := b) (h := h) (d := d + 1) h1).t' (ir h2 h (d + 1)) h3 rfl).t' (ls_37 h4) (by omega) (by omega)
    · have e := h3.wd.1
      rw [bw_u (by omega), ew_c (by omega)]
      exact (((ls_k (b := b) (h := h) (d := d + 1) (k := n / 64) (by omega) (by omega) (by omega) (fun z => by omega)).t' (ls_36 h2) rfl rfl).t' (ir h3 h (d + 1)) h4 rfl).t' (ls_37 h5) (by omega) (by omega)
    · have e := h2.wd.1
      have e' := h1.wd.1
      rw [bw_n (by omega), ew_n (by omega)]
      exact ((il h1 h d).t' (ls_k (k := ew l) (by omega) (by omega) (by omega) (fun z => by omega)) (by omega) rfl).t' (ir h2 h d) (by omega) (by omega)
    · have e := h2.wd.1
      have e' := h1.wd.1
      rw [bw_n (by omega), ew_n (by omega)]
      exact ((il h1 h d).t' (ls_k (k := n / 64) (by omega) (by omega) (by omega) (fun z => by omega)) (by omega) rfl).t' (ir h2 h d) (by omega) (by omega)
    · have e := h2.wd.1
      have e' := h1.wd.1
      rw [bw_n (by omega), ew_n (by omega)]
      exact ((il h1 h d).t' (ls_k (k := ew l) (by omega) (by omega) (by omega) (fun z => by omega)) (by omega) rfl).t' (ir h2 h d) (by omega) (by omega)
    · have e := h2.wd.1
      have e' := h1.wd.1
      have bf := bin_f c
      have ob := opk_b c
      rw [bw_n (by omega), ew_n (by omega)]
      exact ((il h1 h d).t' (ls_k (k := n / 64) (by omega) (by omega) (by omega) (fun z => by omega)) (by omega) rfl).t' (ir h2 h d) (by omega) (by omega)
/-- what is seen of a tree outside of brackets: the loosest, where -/
def vis : Tr → Nat
  | .leaf _ => 0
  | .branch n _ r => if n % 64 = 9 ∨ n % 64 = 16 then vis r else if n % 64 = 35 ∨ n % 64 = 22 then 0 else lvo (n % 64)
def vtp : Tr → Int32
  | .leaf _ => -1
  | .branch n _ r => if n % 64 = 9 ∨ n % 64 = 16 then vtp r else if n % 64 = 35 ∨ n % 64 = 22 then -1 else nI (n / 64)
theorem vis_le : ∀ {T : Tr}, Wf w T → lev T ≤ 6 → vis T ≤ lev T := by
  intro T
  induction T with
  | leaf k => intro _ _; exact Nat.le_refl _
  | branch n l r il ir =>
    intro hw hl
    have lv : lev (.branch n l r) = lvo (n % 64) := rfl
    have vv : vis (.branch n l r) = if n % 64 = 9 ∨ n % 64 = 16 then vis r else if n % 64 = 35 ∨ n % 64 = 22 then 0 else lvo (n % 64) := rfl
    rw [vv, lv]
    rcases hw.br with ⟨c, h1, h2, h3, h4⟩ | ⟨c, h1, h2, h3, h4⟩ | ⟨c, h1, h2, h3, h4, h5⟩ | ⟨c, h1, h2, h3, h4, h5, h6, -⟩ | ⟨c, -⟩ | ⟨c, -⟩ | ⟨c, -⟩ | ⟨c, -⟩
    · rw [if_pos (by omega)]
      have := ir h2 (by omega)
      omega
    · rw [if_pos (by omega), c]
      have := ir h2 (by omega)
      show _ ≤ 3
      omega
    · rw [if_neg (by omega), if_pos (by omega)]; exact Nat.zero_le _
    · rw [if_neg (by omega), if_pos (by omega)]; exact Nat.zero_le _
    · rw [if_neg (by omega), if_neg (by omega)]; exact Nat.le_refl _
    · rw [if_neg (by omega), if_neg (by omega)]; exact Nat.le_refl _
    · rw [if_neg (by omega), if_neg (by omega)]; exact Nat.le_refl _
    · have bf := bin_f c
      rw [if_neg (by omega), if_neg (by omega)]; exact Nat.le_refl _
theorem vis_r {n : Nat} {l r : Tr} (h : n % 64 = 9 ∨ n % 64 = 16) : vis (.branch n l r) = vis r ∧ vtp (.branch n l r) = vtp r := ⟨if_pos h, if_pos h⟩
theorem vis_0 {n : Nat} {l r : Tr} (h : n % 64 = 35 ∨ n % 64 = 22) : vis (.branch n l r) = 0 ∧ vtp (.branch n l r) = -1 := by
  constructor
  · show (if n % 64 = 9 ∨ n % 64 = 16 then vis r else if n % 64 = 35 ∨ n % 64 = 22 then 0 else lvo (n % 64)) = 0
    rw [if_neg (by omega), if_pos h]
  · show (if n % 64 = 9 ∨ n % 64 = 16 then vtp r else if n % 64 = 35 ∨ n % 64 = 22 then -1 else nI (n / 64)) = -1
    rw [if_neg (by omega), if_pos h]
theorem vis_n {n : Nat} {l r : Tr} (h1 : ¬ (n % 64 = 9 ∨ n % 64 = 16)) (h2 : ¬ (n % 64 = 35 ∨ n % 64 = 22)) : vis (.branch n l r) = lvo (n % 64) ∧ vtp (.branch n l r) = nI (n / 64) := by
  constructor
  · show (if n % 64 = 9 ∨ n % 64 = 16 then vis r else if n % 64 = 35 ∨ n % 64 = 22 then 0 else lvo (n % 64)) = lvo (n % 64)
    rw [if_neg h1, if_neg h2]
  · show (if n % 64 = 9 ∨ n % 64 = 16 then vtp r else if n % 64 = 35 ∨ n % 64 = 22 then -1 else nI (n / 64)) = nI (n / 64)
    rw [if_neg h1, if_neg h2]
/-- no operand stands ahead of a rule -/
def hed (w : List (Nat × Nat × Nat)) (fr k : Nat) : Prop := fr ≤ k ∧ (k = fr ∨ opx (kK w (k - 1)) = false)
theorem hed_s {k kk : Nat} (h : kK w k = kk) (h2 : opx kk = false) (hf : fr ≤ k) : hed w fr (k + 1) := ⟨by omega, Or.inr (by rw [Nat.add_sub_cancel, h]; exact h2)⟩
/-- an operation between two: how loosely it holds -/
theorem lsn_b {k op : Nat} (hb : bin op = true) (hk : kK w k = opk op) (hf : fr < k) (ho : opx (kK w (k - 1)) = true) : lsn w fr k = lvo op := by
  have bf := bin_f hb
  have : op = 4 ∨ op = 5 ∨ op = 6 ∨ op = 7 ∨ op = 8 ∨ op = 10 ∨ op = 11 ∨ op = 12 ∨ op = 13 ∨ op = 14 ∨ op = 15 ∨ op = 17 ∨ op = 18 := by omega
  unfold lsn
  rw [hk]
  rcases this with rfl | rfl | rfl | rfl | rfl | rfl | rfl | rfl | rfl | rfl | rfl | rfl | rfl <;> first
    | rfl
    | (have e : (if fr < k ∧ opx (kK w (k - 1)) = true then 2 else 0) = 2 := if_pos ⟨hf, ho⟩
       rw [e]; rfl)
theorem opx_op {op : Nat} (h : bin op = true) : opx (opk op) = false := by
  have := opk_b h
  simp only [opx, Bool.or_eq_false_iff, decide_eq_false_iff_not]
  omega
theorem lvo_b {op : Nat} (h : bin op = true) : lL op ≤ lvo op ∧ lR op < lvo op ∧ lvo op ≤ 5 ∧ 1 ≤ lvo op := by
  have bf := bin_f h
  have : op = 4 ∨ op = 5 ∨ op = 6 ∨ op = 7 ∨ op = 8 ∨ op = 10 ∨ op = 11 ∨ op = 12 ∨ op = 13 ∨ op = 14 ∨ op = 15 ∨ op = 17 ∨ op = 18 := by omega
  rcases this with rfl | rfl | rfl | rfl | rfl | rfl | rfl | rfl | rfl | rfl | rfl | rfl | rfl <;> decide
theorem lsn_0 {k kk : Nat} (h : kK w k = kk) (h2 : kk < 18 ∨ kk = 31 ∨ kk = 33 ∨ kk = 35) : lsn w fr k = 0 := by
  unfold lsn
  rw [if_neg (by omega), if_neg (by omega), if_neg (by omega), if_neg (by omega), if_neg (by omega), if_neg (by omega)]
theorem lsn_m {k : Nat} (h : kK w k = 25) (hh : hed w fr k) : lsn w fr k = 0 := by
  unfold lsn
  rw [if_neg (by omega), if_neg (by omega), if_neg (by omega), if_neg (by omega), if_pos (by omega), if_neg]
  rintro ⟨z1, z2⟩
  rcases hh.2 with y | y
  · omega
  · rw [y] at z2; cases z2
/-- a looser one was seen: nothing is taken -/
theorem ls_le : ∀ {T : Tr}, Wf w T → lev T ≠ 7 → hed w fr (bw T) → ∀ h, h ≤ 6 → (vis T < h ∨ h = 6) → Ls w fr (ew T - bw T) (bw T) (b, h, 0) (b, h, 0) := by
  intro T
  induction T with
  | leaf k =>
    intro hw _ _ h _ hv
    have hw : opd (kK w k) = true := hw
    simp only [opd, Bool.or_eq_true, decide_eq_true_eq] at hw
    show Ls w fr (k + 1 - k) k _ _
    rw [Nat.add_sub_cancel_left]
    refine ls_k (by omega) (by omega) (by omega) (fun _ => ?_)
    rw [lsn_0 rfl (by omega)]
    unfold tkn
    omega
  | branch n l r il ir =>
    intro hw hl hh h h6 hv
    have n0 : ∀ {k : Nat}, lsn w fr k = 0 → ((0 : Nat) = 0 → ¬ tkn (lsn w fr k) h) := fun {k} e _ => by
      rw [e]; unfold tkn; omega
    have lv : lev (.branch n l r) = lvo (n % 64) := rfl
    rcases hw.br with ⟨c, h1, h2, h3, h4⟩ | ⟨c, h1, h2, h3, h4⟩ | ⟨c, h1, h2, h3, h4, h5⟩ | ⟨c, h1, h2, h3, h4, h5, h6', -⟩ | ⟨c, h1, h2, h3, h4, h5, h6'⟩ | ⟨c, h1, h2, h3, h4, h5, h6', h7⟩ | ⟨c, h1, h2, h3, h4, h5, h6'⟩ | ⟨c, h1, h2, h3, h4, h5, h6', h7⟩
    · have e := h2.wd.1
      rw [bw_u (by omega)] at hh
      rw [(vis_r (by omega)).1] at hv
      rw [bw_u (by omega), ew_n (by omega)]
      exact (ls_k (b := b) (h := h) (d := 0) (k := n / 64) (by omega) (by omega) (by omega) (n0 (lsn_m h1 hh))).t' (ir h2 (by omega) (by rw [h3]; exact hed_s h1 rfl hh.1) h h6 hv) h3 (by omega)
    · have e := h2.wd.1
      rw [bw_u (by omega)] at hh
      rw [(vis_r (by omega)).1] at hv
      rw [bw_u (by omega), ew_n (by omega)]
      exact (ls_k (b := b) (h := h) (d := 0) (k := n / 64) (by omega) (by omega) (by omega) (n0 (lsn_0 h1 (by omega)))).t' (ir h2 (by omega) (by rw [h3]; exact hed_s h1 rfl hh.1) h h6 hv) h3 (by omega)
    · have e := h2.wd.1
      rw [bw_u (by omega), ew_c (by omega)]
      exact ((ls_36 (b := b) (h := h) (d := 0) h1).t' (ls_in h2 h 0) h3 rfl).t' (ls_37 h4) (by omega) (by omega)
    · have e := h3.wd.1
      rw [bw_u (by omega), ew_c (by omega)]
      exact (((ls_k (b := b) (h := h) (d := 0) (k := n / 64) (by omega) (by omega) (by omega) (n0 (lsn_0 (kk := kK w (n / 64)) rfl (by omega)))).t' (ls_36 h2) rfl rfl).t' (ls_in h3 h 0) h4 rfl).t' (ls_37 h5) (by omega) (by omega)
    · exfalso
      apply hl
      rw [lv]
      rcases c with z | z <;> rw [z] <;> rfl
    · have e := h2.wd.1
      have e' := h1.wd.1
      rw [bw_n (by omega)] at hh
      have ve : vis (.branch n l r) = 6 := by rw [(vis_n (by omega) (by omega)).1, c]; rfl
      have hh6 : h = 6 := by omega
      have l6 : lsn w fr (n / 64) = 6 := by unfold lsn; rw [if_pos h3]
      rw [bw_n (by omega), ew_n (by omega)]
      refine ((il h1 (by omega) hh h h6 (Or.inr hh6)).t' (ls_k (k := n / 64) (by omega) (by omega) (by omega) (fun _ => ?_)) (by omega) rfl).t' (ir h2 (by omega) (by rw [h5]; exact hed_s h3 rfl (by have := hh.1; omega)) h h6 (Or.inr hh6)) (by omega) (by omega)
      rw [l6, hh6]
      unfold tkn
      omega
    · have e := h2.wd.1
      have e' := h1.wd.1
      rw [bw_n (by omega)] at hh
      have ve : vis (.branch n l r) = 8 := by rw [(vis_n (by omega) (by omega)).1, c]; rfl
      have hh6 : h = 6 := by omega
      rw [bw_n (by omega), ew_n (by omega)]
      exact ((il h1 (by omega) hh h h6 (Or.inr hh6)).t' (ls_k (k := ew l) (by omega) (by omega) (by omega) (n0 (lsn_0 h3 (by omega)))) (by omega) rfl).t' (ir h2 (by omega) (by rw [h4]; exact hed_s h3 rfl (by have := hh.1; omega)) h h6 (Or.inr hh6)) (by omega) (by omega)
    · have e := h2.wd.1
      have e' := h1.wd.1
      have bf := bin_f c
      have ob := opk_b c
      obtain ⟨b1, b2, b3, b4⟩ := lvo_b c
      have lL5 : lL (n % 64) ≤ 5 := by unfold lL; repeat' split
                                       all_goals omega
      have lR5 : lR (n % 64) ≤ 5 := by unfold lR; repeat' split
                                       all_goals omega
      rw [bw_n (by omega)] at hh
      rw [(vis_n (by omega) (by omega)).1] at hv
      have v1 := vis_le h1 (by omega)
      have v2 := vis_le h2 (by omega)
      have la := h1.last
      rw [h4] at la
      have lb := lsn_b (w := w) (fr := fr) c h3 (by have := hh.1; omega) la
      rw [bw_n (by omega), ew_n (by omega)]
      refine ((il h1 (by omega) hh h h6 (by omega)).t' (ls_k (k := n / 64) (by omega) (by omega) (by omega) (fun _ => ?_)) (by omega) rfl).t' (ir h2 (by omega) (by rw [h5]; exact hed_s h3 (opx_op c) (by have := hh.1; omega)) h h6 (by omega)) (by omega) (by omega)
      rw [lb]
      unfold tkn
      omega
/-- the loosest is found -/
theorem ls_top : ∀ {T : Tr}, Wf w T → lev T ≤ 6 → hed w fr (bw T) → Ls w fr (ew T - bw T) (bw T) (-1, 0, 0) (vtp T, vis T, 0) := by
  intro T
  induction T with
  | leaf k =>
    intro hw _ _
    have hw : opd (kK w k) = true := hw
    simp only [opd, Bool.or_eq_true, decide_eq_true_eq] at hw
    show Ls w fr (k + 1 - k) k _ (-1, 0, 0)
    rw [Nat.add_sub_cancel_left]
    refine ls_k (by omega) (by omega) (by omega) (fun _ => ?_)
    rw [lsn_0 rfl (by omega)]
    unfold tkn
    omega
  | branch n l r il ir =>
    intro hw hl hh
    have n0 : ∀ {k : Nat}, lsn w fr k = 0 → ((0 : Nat) = 0 → ¬ tkn (lsn w fr k) 0) := fun {k} e _ => by
      rw [e]; unfold tkn; omega
    have lv : lev (.branch n l r) = lvo (n % 64) := rfl
    rw [lv] at hl
    rcases hw.br with ⟨c, h1, h2, h3, h4⟩ | ⟨c, h1, h2, h3, h4⟩ | ⟨c, h1, h2, h3, h4, h5⟩ | ⟨c, h1, h2, h3, h4, h5, h6', -⟩ | ⟨c, h1, h2, h3, h4, h5, h6'⟩ | ⟨c, h1, h2, h3, h4, h5, h6', h7⟩ | ⟨c, h1, h2, h3, h4, h5, h6'⟩ | ⟨c, h1, h2, h3, h4, h5, h6', h7⟩
    · have e := h2.wd.1
      rw [bw_u (by omega)] at hh
      rw [(vis_r (by omega)).1, (vis_r (by omega)).2, bw_u (by omega), ew_n (by omega)]
      exact (ls_k (b := -1) (h := 0) (d := 0) (k := n / 64) (by omega) (by omega) (by omega) (n0 (lsn_m h1 hh))).t' (ir h2 (by omega) (by rw [h3]; exact hed_s h1 rfl hh.1)) h3 (by omega)
    · have e := h2.wd.1
      rw [bw_u (by omega)] at hh
      rw [(vis_r (by omega)).1, (vis_r (by omega)).2, bw_u (by omega), ew_n (by omega)]
      exact (ls_k (b := -1) (h := 0) (d := 0) (k := n / 64) (by omega) (by omega) (by omega) (n0 (lsn_0 h1 (by omega)))).t' (ir h2 (by omega) (by rw [h3]; exact hed_s h1 rfl hh.1)) h3 (by omega)
    · have e := h2.wd.1
      rw [(vis_0 (by omega)).1, (vis_0 (by omega)).2, bw_u (by omega), ew_c (by omega)]
      exact ((ls_36 (b := -1) (h := 0) (d := 0) h1).t' (ls_in h2 0 0) h3 rfl).t' (ls_37 h4) (by omega) (by omega)
    · have e := h3.wd.1
      rw [(vis_0 (by omega)).1, (vis_0 (by omega)).2, bw_u (by omega), ew_c (by omega)]
      exact (((ls_k (b := -1) (h := 0) (d := 0) (k := n / 64) (by omega) (by omega) (by omega) (n0 (lsn_0 (kk := kK w (n / 64)) rfl (by omega)))).t' (ls_36 h2) rfl rfl).t' (ls_in h3 0 0) h4 rfl).t' (ls_37 h5) (by omega) (by omega)
    · exfalso
      rcases c with z | z <;> rw [z] at hl <;> exact absurd hl (by decide)
    · have e := h2.wd.1
      have e' := h1.wd.1
      rw [bw_n (by omega)] at hh
      have v1 := vis_le h1 (by omega)
      have l6 : lsn w fr (n / 64) = 6 := by unfold lsn; rw [if_pos h3]
      have ve : vis (.branch n l r) = 6 := by rw [(vis_n (by omega) (by omega)).1, c]; rfl
      rw [ve, (vis_n (by omega) (by omega)).2, bw_n (by omega), ew_n (by omega)]
      have tk1 : Ls w fr 1 (n / 64) (vtp l, vis l, 0) (nI (n / 64), 6, 0) := by
        have := ls_t (w := w) (fr := fr) (b := vtp l) (k := n / 64) (h := vis l) (by omega) (by omega) (by omega) (by rw [l6]; unfold tkn; omega)
        rw [l6] at this
        exact this
      exact ((il h1 (by omega) hh).t' tk1 (by omega) rfl).t' (ls_le h2 (by omega) (by rw [h5]; exact hed_s h3 rfl (by have := hh.1; omega)) 6 (by omega) (Or.inr rfl)) (by omega) (by omega)
    · exfalso
      rw [c] at hl
      exact absurd hl (by decide)
    · have e := h2.wd.1
      have e' := h1.wd.1
      have bf := bin_f c
      have ob := opk_b c
      obtain ⟨b1, b2, b3, b4⟩ := lvo_b c
      have lL5 : lL (n % 64) ≤ 5 := by unfold lL; repeat' split
                                       all_goals omega
      have lR5 : lR (n % 64) ≤ 5 := by unfold lR; repeat' split
                                       all_goals omega
      rw [bw_n (by omega)] at hh
      have v1 := vis_le h1 (by omega)
      have v2 := vis_le h2 (by omega)
      have la := h1.last
      rw [h4] at la
      have lb := lsn_b (w := w) (fr := fr) c h3 (by have := hh.1; omega) la
      rw [(vis_n (by omega) (by omega)).1, (vis_n (by omega) (by omega)).2, bw_n (by omega), ew_n (by omega)]
      have tk1 : Ls w fr 1 (n / 64) (vtp l, vis l, 0) (nI (n / 64), lvo (n % 64), 0) := by
        have := ls_t (w := w) (fr := fr) (b := vtp l) (k := n / 64) (h := vis l) (by omega) (by omega) (by omega) (by rw [lb]; unfold tkn; omega)
        rw [lb] at this
        exact this
      exact ((il h1 (by omega) hh).t' tk1 (by omega) rfl).t' (ls_le h2 (by omega) (by rw [h5]; exact hed_s h3 (opx_op c) (by have := hh.1; omega)) _ (by omega) (Or.inl (by omega))) (by omega) (by omega)
/-- a sum does not begin with not -/
theorem no_31 : ∀ {T : Tr}, Wf w T → lev T ≤ 2 → kK w (bw T) ≠ 31 := by
  intro T
  induction T with
  | leaf k =>
    intro hw _
    have hw : opd (kK w k) = true := hw
    simp only [opd, Bool.or_eq_true, decide_eq_true_eq] at hw
    show kK w k ≠ 31
    omega
  | branch n l r il ir =>
    intro hw hl
    have lv : lev (.branch n l r) = lvo (n % 64) := rfl
    rw [lv] at hl
    rcases hw.br with ⟨c, h1, -⟩ | ⟨c, -⟩ | ⟨c, h1, -⟩ | ⟨c, h1, -⟩ | ⟨c, -⟩ | ⟨c, -⟩ | ⟨c, -⟩ | ⟨c, h1, h2, h3, h4, h5, h6, h7⟩
    · rw [bw_u (by omega)]; omega
    · rw [c] at hl; exact absurd hl (by decide)
    · rw [bw_u (by omega)]; omega
    · rw [bw_u (by omega)]; omega
    · rcases c with z | z <;> rw [z] at hl <;> exact absurd hl (by decide)
    · rw [c] at hl; exact absurd hl (by decide)
    · rw [c] at hl; exact absurd hl (by decide)
    · have bf := bin_f c
      have b1 := (lvo_b c).1
      rw [bw_n (by omega)]
      exact il h1 (by omega)
theorem vtp_0 : ∀ {T : Tr}, Wf w T → lev T = 0 → vtp T = -1 := by
  intro T
  induction T with
  | leaf k => intro _ _; rfl
  | branch n l r il ir =>
    intro hw hl
    have lv : lev (.branch n l r) = lvo (n % 64) := rfl
    rw [lv] at hl
    rcases hw.br with ⟨c, h1, h2, h3, h4⟩ | ⟨c, -⟩ | ⟨c, h1, -⟩ | ⟨c, h1, -⟩ | ⟨c, -⟩ | ⟨c, -⟩ | ⟨c, -⟩ | ⟨c, -⟩
    · rw [(vis_r (by omega)).2]; exact ir h2 h4
    · rw [c] at hl; exact absurd hl (by decide)
    · exact (vis_0 (by omega)).2
    · exact (vis_0 (by omega)).2
    · rcases c with z | z <;> rw [z] at hl <;> exact absurd hl (by decide)
    · rw [c] at hl; exact absurd hl (by decide)
    · rw [c] at hl; exact absurd hl (by decide)
    · have := (lvo_b c).2.2.2; omega
/-- an operation between parts -/
def rt2 : Tr → Bool
  | .leaf _ => false
  | .branch n _ _ => n % 64 = 19 || bin (n % 64)
def wrd : Tr → Nat
  | .leaf k => k
  | .branch n _ _ => n / 64
/-- what loosest comes to -/
theorem los_v : ∀ {T : Tr}, Wf w T → lev T ≤ 6 → (if kK w (bw T) = 31 then (if 4 ≤ vis T then vtp T else -1) else vtp T : Int32) = if rt2 T = true then nI (wrd T) else -1 := by
  intro T
  cases T with
  | leaf k =>
    intro _ _
    show (if kK w k = 31 then (if 4 ≤ vis (.leaf k) then (-1 : Int32) else -1) else -1) = -1
    rw [ite_self, ite_self]
  | branch n l r =>
    intro hw hl
    have lv : lev (.branch n l r) = lvo (n % 64) := rfl
    have rt : rt2 (.branch n l r) = (decide (n % 64 = 19) || bin (n % 64)) := rfl
    rw [lv] at hl
    rcases hw.br with ⟨c, h1, h2, h3, h4⟩ | ⟨c, h1, h2, h3, h4⟩ | ⟨c, h1, -⟩ | ⟨c, h1, -⟩ | ⟨c, -⟩ | ⟨c, -⟩ | ⟨c, -⟩ | ⟨c, h1, h2, h3, h4, h5, h6, h7⟩
    · rw [rt, c, if_neg (show ¬ kK w (bw (.branch n l r)) = 31 by rw [bw_u (by omega)]; omega), (vis_r (by omega)).2, vtp_0 h2 h4]; rfl
    · have v := vis_le h2 (by omega)
      rw [rt, c, if_pos (show kK w (bw (.branch n l r)) = 31 by rw [bw_u (by omega)]; omega), (vis_r (by omega)).1, if_neg (by omega)]; rfl
    · rw [rt, c, if_neg (show ¬ kK w (bw (.branch n l r)) = 31 by rw [bw_u (by omega)]; omega), (vis_0 (by omega)).2]; rfl
    · rw [rt, c, if_neg (show ¬ kK w (bw (.branch n l r)) = 31 by rw [bw_u (by omega)]; omega), (vis_0 (by omega)).2]; rfl
    · rcases c with z | z <;> rw [z] at hl <;> exact absurd hl (by decide)
    · have ve : vis (.branch n l r) = 6 := by rw [(vis_n (by omega) (by omega)).1, c]; rfl
      rw [rt, ve, (vis_n (by omega) (by omega)).2, if_pos (show 4 ≤ 6 by decide), ite_self, c]; rfl
    · rw [c] at hl; exact absurd hl (by decide)
    · have bf := bin_f c
      obtain ⟨b1, b2, b3, b4⟩ := lvo_b c
      rw [rt, (vis_n (by omega) (by omega)).1, (vis_n (by omega) (by omega)).2, c, Bool.or_true, if_pos rfl]
      by_cases z : 4 ≤ lvo (n % 64)
      · rw [if_pos z, ite_self]; rfl
      · have l2 : lL (n % 64) ≤ 2 := by
          unfold lvo at z
          unfold lL
          repeat' split at z
          all_goals (repeat' split)
          all_goals omega
        rw [if_neg (show ¬ kK w (bw (.branch n l r)) = 31 by rw [bw_n (by omega)]; exact no_31 h1 (by omega))]; rfl
variable {N : Nat} {σ : st_S}
theorem F173 (h : W3 σ w) (h4 : K40 w) {k : Nat} (hk : k < w.length) : F_173 N (nI k) σ = some ((if opx (kK w k) = true then 1 else 0 : Int32), σ) := by
  have f := F162 (N := N) h hk
  have k4 := h4 k
  have e : ∀ m, m < 40 → (nI (kK w k) = nI m ↔ kK w k = m) := fun m hm => nI_eq (by omega) (by omega)
  have e2 : nI (kK w k) = 2 ↔ kK w k = 2 := e 2 (by decide)
  have e1 : nI (kK w k) = 1 ↔ kK w k = 1 := e 1 (by decide)
  have e12 : nI (kK w k) = 12 ↔ kK w k = 12 := e 12 (by decide)
  have e13 : nI (kK w k) = 13 ↔ kK w k = 13 := e 13 (by decide)
  have e37 : nI (kK w k) = 37 ↔ kK w k = 37 := e 37 (by decide)
  have oc : opx (kK w k) = true ↔ (kK w k = 1 ∨ kK w k = 2 ∨ kK w k = 12 ∨ kK w k = 13 ∨ kK w k = 37) := by
    simp only [opx, Bool.or_eq_true, decide_eq_true_eq]
    omega
  unfold F_173
  rw [f, ob_some]
  dsimp only
  rw [f, ob_some]
  dsimp only
  rw [f, ob_some]
  dsimp only
  rw [f, ob_some]
  dsimp only
  rw [f, ob_some]
  dsimp only
  by_cases c2 : kK w k = 2
  · rw [if_pos (e2.mpr c2), if_pos (oc.mpr (by omega))]
  rw [if_neg (fun z => c2 (e2.mp z))]
  by_cases c1 : kK w k = 1
  · rw [if_pos (e1.mpr c1), if_pos (oc.mpr (by omega))]
  rw [if_neg (fun z => c1 (e1.mp z))]
  by_cases c12 : kK w k = 12
  · rw [if_pos (e12.mpr c12), if_pos (oc.mpr (by omega))]
  rw [if_neg (fun z => c12 (e12.mp z))]
  by_cases c13 : kK w k = 13
  · rw [if_pos (e13.mpr c13), if_pos (oc.mpr (by omega))]
  rw [if_neg (fun z => c13 (e13.mp z))]
  by_cases c37 : kK w k = 37
  · rw [if_pos (e37.mpr c37), if_pos (oc.mpr (by omega))]
  · rw [if_neg (fun z => c37 (e37.mp z)), if_neg (fun z => by have := oc.mp z; omega)]
theorem F172 (h : W3 σ w) (h4 : K40 w) {k : Nat} (hk : k < w.length) (hl : w.length < 40000) (hf : fr < 40000) : F_172 N (nI k) (nI fr) σ = some (nI (lsn w fr k), σ) := by
  have f := F162 (N := N) h hk
  have k4 := h4 k
  have e : ∀ m, m < 40 → (nI (kK w k) = nI m ↔ kK w k = m) := fun m hm => nI_eq (by omega) (by omega)
  have e32 : nI (kK w k) = 32 ↔ kK w k = 32 := e 32 (by decide)
  have e30 : nI (kK w k) = 30 ↔ kK w k = 30 := e 30 (by decide)
  have e29 : nI (kK w k) = 29 ↔ kK w k = 29 := e 29 (by decide)
  have e24 : nI (kK w k) = 24 ↔ kK w k = 24 := e 24 (by decide)
  have e25 : nI (kK w k) = 25 ↔ kK w k = 25 := e 25 (by decide)
  have cmp : F_157 N (nI (kK w k)) σ = some ((if 18 ≤ kK w k ∧ kK w k ≤ 23 then 1 else 0 : Int32), σ) := by
    have : ∀ m, m < 40 → (if nI m = 23 then 1 else (if nI m = 18 then 1 else (if nI m = 21 then 1 else (if nI m = 19 then 1 else (if nI m = 22 then 1 else (if nI m = 20 then 1 else 0))))) : Int32) = (if 18 ≤ m ∧ m ≤ 23 then 1 else 0 : Int32) := by decide
    unfold F_157
    rw [this _ k4]
  have mul : ∀ m, m < 40 → (if nI m = 26 then 1 else (if nI m = 27 then 1 else (if nI m = 28 then 1 else 0)) : Int32) = nI (if 26 ≤ m ∧ m ≤ 28 then 1 else 0) := by decide
  have j60 : J_172_60 N (nI k) (nI fr) σ = some (nI (if fr < k ∧ opx (kK w (k - 1)) = true then 2 else 0), σ) := by
    unfold J_172_60
    by_cases c : k ≤ fr
    · rw [if_pos ((nI_lei (by omega) (by omega)).mpr c), if_neg (by omega)]; rfl
    · have e1 : nI k - 1 = nI (k - 1) := nI_sub (b := 1) (by omega)
      rw [if_neg (fun z => c ((nI_lei (by omega) (by omega)).mp z)), e1, F173 h h4 (by omega), ob_some]
      dsimp only
      by_cases o : opx (kK w (k - 1)) = true
      · rw [if_pos o, if_neg (show ¬ (1 : Int32) = 0 by decide), if_pos (show fr < k ∧ opx (kK w (k - 1)) = true from ⟨by omega, o⟩)]; rfl
      · rw [if_neg o, if_pos rfl, if_neg (fun z => o z.2)]; rfl
  unfold F_172 lsn
  rw [f, ob_some]
  dsimp only
  by_cases c32 : kK w k = 32
  · rw [if_pos (e32.mpr c32), if_pos c32]; rfl
  rw [if_neg (fun z => c32 (e32.mp z)), if_neg c32]
  by_cases c30 : kK w k = 30
  · rw [if_pos (e30.mpr c30), if_pos c30]; rfl
  rw [if_neg (fun z => c30 (e30.mp z)), if_neg c30]
  by_cases c29 : kK w k = 29
  · rw [if_pos (e29.mpr c29), if_pos c29]; rfl
  rw [if_neg (fun z => c29 (e29.mp z)), if_neg c29, cmp, ob_some]
  dsimp only
  by_cases cc : 18 ≤ kK w k ∧ kK w k ≤ 23
  · rw [if_pos cc, if_neg (by decide), if_pos cc]; rfl
  rw [if_neg cc, if_pos rfl, if_neg cc, j60]
  by_cases c24 : kK w k = 24
  · rw [if_pos (e24.mpr c24), if_pos (Or.inl c24)]
  rw [if_neg (fun z => c24 (e24.mp z))]
  by_cases c25 : kK w k = 25
  · rw [if_pos (e25.mpr c25), if_pos (Or.inr c25)]
  rw [if_neg (fun z => c25 (e25.mp z)), mul _ k4, if_neg (show ¬ (kK w k = 24 ∨ kK w k = 25) by omega)]
theorem lsn_6 (w : List (Nat × Nat × Nat)) (fr k : Nat) : lsn w fr k ≤ 6 := by
  unfold lsn
  repeat' split
  all_goals omega
theorem L171s (h : W3 σ w) (h4 : K40 w) (hl : w.length < 40000) (hf : fr < 40000) {f k to hh d : Nat} (hk : k < w.length) (hto : k < to) (hto2 : to < 40000) (hh6 : hh ≤ 6) (hd : d < 50000) (h37 : kK w k = 37 → 0 < d) : L_171 N (f + 1) (nI fr) (nI to) b (nI hh) (nI d) (nI k) σ = L_171 N f (nI fr) (nI to) (lst w fr k (b, hh, d)).1 (nI (lst w fr k (b, hh, d)).2.1) (nI (lst w fr k (b, hh, d)).2.2) (nI (k + 1)) σ := by
  have f0 := F162 (N := N) h hk
  have f1 := F172 (N := N) (fr := fr) h h4 hk hl hf
  have k4 := h4 k
  have e36 : nI (kK w k) = 36 ↔ kK w k = 36 := nI_eq (b := 36) (by omega) (by decide)
  have e37 : nI (kK w k) = 37 ↔ kK w k = 37 := nI_eq (b := 37) (by omega) (by decide)
  obtain ⟨d1, hd1⟩ : ∃ x, x = (if kK w k = 37 then d - 1 else d) := ⟨_, rfl⟩
  have ed1 : (if nI (kK w k) = 37 then (nI d - 1) else nI d : Int32) = nI d1 := by
    rw [hd1]
    by_cases c : kK w k = 37
    · rw [if_pos (e37.mpr c), if_pos c]; exact nI_sub (b := 1) (h37 c)
    · rw [if_neg (fun z => c (e37.mp z)), if_neg c]
  have d1b : d1 ≤ d := by rw [hd1]; split <;> omega
  have ed2 : (if nI (kK w k) = 36 then (nI d1 + 1) else nI d1 : Int32) = nI (if kK w k = 36 then d1 + 1 else d1) := by
    by_cases c : kK w k = 36
    · rw [if_pos (e36.mpr c), if_pos c, nI_1]
    · rw [if_neg (fun z => c (e36.mp z)), if_neg c]
  have e0 : nI d1 = 0 ↔ d1 = 0 := nI_eq (b := 0) (by omega) (by decide)
  have l6 := lsn_6 w fr k
  unfold lst
  dsimp only
  rw [← hd1]
  conv => lhs; unfold L_171
  rw [if_neg (fun z => by have := (nI_lei (by omega) (by omega)).mp z; omega), f0, ob_some]
  dsimp only
  rw [ed1, f1, ob_some]
  dsimp only
  rw [f0, ob_some]
  dsimp only
  rw [ed2, nI_1]
  by_cases c : d1 = 0
  · rw [if_pos (e0.mpr c), if_pos c]
    generalize lsn w fr k = x at *
    have q1 : nI hh < nI x ↔ hh < x := nI_lti (by omega) (by omega)
    have q2 : nI x ≤ 0 ↔ x ≤ 0 := nI_lei (b := 0) (by omega) (by decide)
    have q3 : nI x = nI hh ↔ x = hh := nI_eq (by omega) (by omega)
    have q4 : (6 : Int32) ≤ nI x ↔ 6 ≤ x := nI_lei (a := 6) (by decide) (by omega)
    by_cases z1 : hh < x
    · rw [if_pos (q1.mpr z1), if_pos (Or.inl z1), if_pos (Or.inl z1)]
    rw [if_neg (fun z => z1 (q1.mp z))]
    by_cases z2 : x ≤ 0
    · have nt : ¬ tkn x hh := by unfold tkn; omega
      rw [if_pos (q2.mpr z2), if_neg nt, if_neg nt]
      rw [ob_some]
      dsimp only
      rw [ed2]
    rw [if_neg (fun z => z2 (q2.mp z))]
    by_cases z3 : x = hh
    · rw [if_pos (q3.mpr z3)]
      by_cases z4 : 6 ≤ x
      · have nt : ¬ tkn x hh := by unfold tkn; omega
        rw [if_pos (q4.mpr z4), if_neg nt, if_neg nt]
        rw [ob_some]
        dsimp only
        rw [ed2]
      · have yt : tkn x hh := by unfold tkn; omega
        rw [if_neg (fun z => z4 (q4.mp z)), if_pos yt, if_pos yt]
    · have nt : ¬ tkn x hh := by unfold tkn; omega
      rw [if_neg (fun z => z3 (q3.mp z)), if_neg nt, if_neg nt]
      rw [ob_some]
      dsimp only
      rw [ed2]
  · have nt : ¬ tkn 0 hh := by unfold tkn; omega
    rw [if_neg (fun z => c (e0.mp z)), if_neg c, if_neg nt, if_neg nt, if_neg (fun z => by have := (nI_lti (b := 0) (by omega) (by decide)).mp z; omega)]
    rw [ob_some]
    dsimp only
    rw [ed2]
theorem lst_b (w : List (Nat × Nat × Nat)) (fr k : Nat) (b : Int32) (hh d : Nat) (h6 : hh ≤ 6) : (lst w fr k (b, hh, d)).2.1 ≤ 6 ∧ (lst w fr k (b, hh, d)).2.2 ≤ d + 1 := by
  have l6 := lsn_6 w fr k
  unfold lst
  dsimp only
  constructor
  · repeat' split
    all_goals omega
  · repeat' split
    all_goals omega
theorem L171r (h : W3 σ w) (h4 : K40 w) (hl : w.length < 40000) (hf : fr < 40000) : ∀ (m f k to : Nat) (s s' : Int32 × Nat × Nat), Ls w fr m k s s' → k + m ≤ to → to < 40000 → s.2.1 ≤ 6 → s.2.2 + m < 50000 → L_171 N (f + m) (nI fr) (nI to) s.1 (nI s.2.1) (nI s.2.2) (nI k) σ = L_171 N f (nI fr) (nI to) s'.1 (nI s'.2.1) (nI s'.2.2) (nI (k + m)) σ := by
  intro m
  induction m with
  | zero =>
    intro f k to s s' p _ _ _ _
    have p : s = s' := p
    subst p
    rfl
  | succ m ih =>
    intro f k to s s' p b1 b2 b3 b4
    obtain ⟨⟨g1, g2⟩, p⟩ := p
    obtain ⟨b, hh, d⟩ := s
    have b3 : hh ≤ 6 := b3
    have b4 : d + (m + 1) < 50000 := b4
    obtain ⟨u1, u2⟩ := lst_b w fr k b hh d b3
    rw [← Nat.add_assoc]
    have := L171s (N := N) (b := b) (f := f + m) (k := k) (to := to) (hh := hh) (d := d) h h4 hl hf g1 (by omega) b2 b3 (by omega) g2
    show L_171 N (f + m + 1) (nI fr) (nI to) b (nI hh) (nI d) (nI k) σ = _
    rw [this, ih f (k + 1) to (lst w fr k (b, hh, d)) s' p (by omega) b2 u1 (by omega), show k + 1 + m = k + (m + 1) by omega]
/-- the loosest operation of a rule -/
theorem F171 (h : W3 σ w) (h4 : K40 w) (hl : w.length < 40000) (hN : 50000 < N) {T : Tr} (hw : Wf w T) (hv : lev T ≤ 6) (he : ew T ≤ w.length) : F_171 N (nI (bw T)) (nI (ew T)) σ = some ((if rt2 T = true then nI (wrd T) else -1 : Int32), σ) := by
  have e := hw.wd.1
  have p := ls_top (w := w) (fr := bw T) hw hv ⟨Nat.le_refl _, Or.inl rfl⟩
  have q := L171r (N := N) h h4 hl (by omega) (ew T - bw T) (N - (ew T - bw T) - 1 + 1) (bw T) (ew T) _ _ p (by omega) (by omega) (Nat.zero_le _) (by show 0 + _ < _; omega)
  have en : N - (ew T - bw T) - 1 + 1 + (ew T - bw T) = N := by omega
  rw [en, show bw T + (ew T - bw T) = ew T by omega] at q
  have q : L_171 N N (nI (bw T)) (nI (ew T)) (-1) 0 0 (nI (bw T)) σ = _ := q
  unfold F_171
  rw [q]
  have f0 := F162 (N := N) (k := bw T) h (by omega)
  have k4 := h4 (bw T)
  have v6 := vis_le hw hv
  unfold L_171
  rw [if_pos ((nI_lei (by omega) (by omega)).mpr (Nat.le_refl _)), f0, ob_some]
  dsimp only
  rw [← los_v hw hv]
  have e31 : nI (kK w (bw T)) = 31 ↔ kK w (bw T) = 31 := nI_eq (b := 31) (by omega) (by decide)
  have e4 : (4 : Int32) ≤ nI (vis T) ↔ 4 ≤ vis T := nI_lei (a := 4) (by decide) (by omega)
  by_cases c : kK w (bw T) = 31
  · rw [if_pos (e31.mpr c), if_pos c]
    by_cases c2 : 4 ≤ vis T
    · rw [if_pos (e4.mpr c2), if_pos c2]
    · rw [if_neg (fun z => c2 (e4.mp z)), if_neg c2]
  · rw [if_neg (fun z => c (e31.mp z)), if_neg c]
end LO
