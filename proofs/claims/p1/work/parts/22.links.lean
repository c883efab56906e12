/-- the names of the methods that are taken as wholes -/
def tk_bn (k : Nat) : MethodName := match k with
  | 0 => ⟨"java/lang/String", "length", "()I"⟩
  | 1 => ⟨"java/lang/String", "charAt", "(I)C"⟩
  | 2 => ⟨"java/lang/String", "indexOf", "(I)I"⟩
  | 3 => ⟨"java/lang/Math", "min", "(II)I"⟩
  | _ => ⟨"java/lang/Math", "max", "(II)I"⟩
def tk_J (own : String) (ps : List (Nat × Nat)) (q : Nat × (Nat × Nat × Nat)) : Bool := match q.2.1 with
  | 6 => tb_w ((vz_lk ps q.1).getD 0) (.methodLink own q.1 (tk_bn q.2.2.1)) && decide (q.2.2.1 < 3)
  | 7 => tb_w ((vz_lk ps q.1).getD 0) (.methodLink own q.1 (tk_bn q.2.2.1)) && decide (2 < q.2.2.1)
  | 9 => tb_w ((vz_lk ps q.1).getD 0) (.methodLink own q.1 (tb_at q.2.2.1).1.2.2.2.2.2.2)
  | _ => true
theorem tk_J_0 : tE_0.2.2.2.1.all (tk_J "GameTextLaw" [(36, 1002), (57, 1078), (69, 1183)]) = true := by decide +kernel
theorem tk_J_13 : tE_13.2.2.2.1.all (tk_J "java/util/Arrays" [(304, 528)]) = true := by decide +kernel
theorem tk_J_22 : tE_22.2.2.2.1.all (tk_J "GameText$Words" [(66, 569), (70, 579)]) = true := by decide +kernel
theorem tk_J_23 : tE_23.2.2.2.1.all (tk_J "GameText$Words" [(70, 579)]) = true := by decide +kernel
theorem tk_J_25 : tE_25.2.2.2.1.all (tk_J "GameText$Words" [(79, 630)]) = true := by decide +kernel
theorem tk_J_120 : tE_120.2.2.2.1.all (tk_J "GameText$Explorer" [(166, 1164)]) = true := by decide +kernel
theorem tk_J_144 : tE_144.2.2.2.1.all (tk_J "GameTextModel" [(153, 1554), (159, 1555)]) = true := by decide +kernel
set_option maxRecDepth 100000 in
set_option maxHeartbeats 4000000 in
theorem tk_allJ : ∀ e ∈ tb_all, ∃ ps, e.2.2.2.1.all (tk_J e.1.1 ps) = true :=
  List.forall_mem_cons.mpr ⟨⟨_, tk_J_0⟩, List.forall_mem_cons.mpr ⟨⟨[], rfl⟩, List.forall_mem_cons.mpr ⟨⟨[], rfl⟩, List.forall_mem_cons.mpr ⟨⟨[], rfl⟩, List.forall_mem_cons.mpr ⟨⟨[], rfl⟩, List.forall_mem_cons.mpr ⟨⟨[], rfl⟩, List.forall_mem_cons.mpr ⟨⟨[], rfl⟩, List.forall_mem_cons.mpr ⟨⟨[], rfl⟩, List.forall_mem_cons.mpr ⟨⟨[], rfl⟩, List.forall_mem_cons.mpr ⟨⟨[], rfl⟩, List.forall_mem_cons.mpr ⟨⟨[], rfl⟩, List.forall_mem_cons.mpr ⟨⟨[], rfl⟩, List.forall_mem_cons.mpr ⟨⟨[], rfl⟩, List.forall_mem_cons.mpr ⟨⟨_, tk_J_13⟩, List.forall_mem_cons.mpr ⟨⟨[], rfl⟩, List.forall_mem_cons.mpr ⟨⟨[], rfl⟩, List.forall_mem_cons.mpr ⟨⟨[], rfl⟩, List.forall_mem_cons.mpr ⟨⟨[], rfl⟩, List.forall_mem_cons.mpr ⟨⟨[], rfl⟩, List.forall_mem_cons.mpr ⟨⟨[], rfl⟩, List.forall_mem_cons.mpr ⟨⟨[], rfl⟩, List.forall_mem_cons.mpr ⟨⟨[], rfl⟩, List.forall_mem_cons.mpr ⟨⟨_, tk_J_22⟩, List.forall_mem_cons.mpr ⟨⟨_, tk_J_23⟩, List.forall_mem_cons.mpr ⟨⟨[], rfl⟩, List.forall_mem_cons.mpr ⟨⟨_, tk_J_25⟩, List.forall_mem_cons.mpr ⟨⟨[], rfl⟩, List.forall_mem_cons.mpr ⟨⟨[], rfl⟩, List.forall_mem_cons.mpr ⟨⟨[], rfl⟩, List.forall_mem_cons.mpr ⟨⟨[], rfl⟩, List.forall_mem_cons.mpr ⟨⟨[], rfl⟩, List.forall_mem_cons.mpr ⟨⟨[], rfl⟩, List.forall_mem_cons.mpr ⟨⟨[], rfl⟩, List.forall_mem_cons.mpr ⟨⟨[], rfl⟩, List.forall_mem_cons.mpr ⟨⟨[], rfl⟩, List.forall_mem_cons.mpr ⟨⟨[], rfl⟩, List.forall_mem_cons.mpr ⟨⟨[], rfl⟩, List.forall_mem_cons.mpr ⟨⟨[], rfl⟩, List.forall_mem_cons.mpr ⟨⟨[], rfl⟩, List.forall_mem_cons.mpr ⟨⟨[], rfl⟩, List.forall_mem_cons.mpr ⟨⟨[], rfl⟩, List.forall_mem_cons.mpr ⟨⟨[], rfl⟩, List.forall_mem_cons.mpr ⟨⟨[], rfl⟩, List.forall_mem_cons.mpr ⟨⟨[], rfl⟩, List.forall_mem_cons.mpr ⟨⟨[], rfl⟩, List.forall_mem_cons.mpr ⟨⟨[], rfl⟩, List.forall_mem_cons.mpr ⟨⟨[], rfl⟩, List.forall_mem_cons.mpr ⟨⟨[], rfl⟩, List.forall_mem_cons.mpr ⟨⟨[], rfl⟩, List.forall_mem_cons.mpr ⟨⟨[], rfl⟩, List.forall_mem_cons.mpr ⟨⟨[], rfl⟩, List.forall_mem_cons.mpr ⟨⟨[], rfl⟩, List.forall_mem_cons.mpr ⟨⟨[], rfl⟩, List.forall_mem_cons.mpr ⟨⟨[], rfl⟩, List.forall_mem_cons.mpr ⟨⟨[], rfl⟩, List.forall_mem_cons.mpr ⟨⟨[], rfl⟩, List.forall_mem_cons.mpr ⟨⟨[], rfl⟩, List.forall_mem_cons.mpr ⟨⟨[], rfl⟩, List.forall_mem_cons.mpr ⟨⟨[], rfl⟩, List.forall_mem_cons.mpr ⟨⟨[], rfl⟩, List.forall_mem_cons.mpr ⟨⟨[], rfl⟩, List.forall_mem_cons.mpr ⟨⟨[], rfl⟩, List.forall_mem_cons.mpr ⟨⟨[], rfl⟩, List.forall_mem_cons.mpr ⟨⟨[], rfl⟩, List.forall_mem_cons.mpr ⟨⟨[], rfl⟩, List.forall_mem_cons.mpr ⟨⟨[], rfl⟩, List.forall_mem_cons.mpr ⟨⟨[], rfl⟩, List.forall_mem_cons.mpr ⟨⟨[], rfl⟩, List.forall_mem_cons.mpr ⟨⟨[], rfl⟩, List.forall_mem_cons.mpr ⟨⟨[], rfl⟩, List.forall_mem_cons.mpr ⟨⟨[], rfl⟩, List.forall_mem_cons.mpr ⟨⟨[], rfl⟩, List.forall_mem_cons.mpr ⟨⟨[], rfl⟩, List.forall_mem_cons.mpr ⟨⟨[], rfl⟩, List.forall_mem_cons.mpr ⟨⟨[], rfl⟩, List.forall_mem_cons.mpr ⟨⟨[], rfl⟩, List.forall_mem_cons.mpr ⟨⟨[], rfl⟩, List.forall_mem_cons.mpr ⟨⟨[], rfl⟩, List.forall_mem_cons.mpr ⟨⟨[], rfl⟩, List.forall_mem_cons.mpr ⟨⟨[], rfl⟩, List.forall_mem_cons.mpr ⟨⟨[], rfl⟩, List.forall_mem_cons.mpr ⟨⟨[], rfl⟩, List.forall_mem_cons.mpr ⟨⟨[], rfl⟩, List.forall_mem_cons.mpr ⟨⟨[], rfl⟩, List.forall_mem_cons.mpr ⟨⟨[], rfl⟩, List.forall_mem_cons.mpr ⟨⟨[], rfl⟩, List.forall_mem_cons.mpr ⟨⟨[], rfl⟩, List.forall_mem_cons.mpr ⟨⟨[], rfl⟩, List.forall_mem_cons.mpr ⟨⟨[], rfl⟩, List.forall_mem_cons.mpr ⟨⟨[], rfl⟩, List.forall_mem_cons.mpr ⟨⟨[], rfl⟩, List.forall_mem_cons.mpr ⟨⟨[], rfl⟩, List.forall_mem_cons.mpr ⟨⟨[], rfl⟩, List.forall_mem_cons.mpr ⟨⟨[], rfl⟩, List.forall_mem_cons.mpr ⟨⟨[], rfl⟩, List.forall_mem_cons.mpr ⟨⟨[], rfl⟩, List.forall_mem_cons.mpr ⟨⟨[], rfl⟩, List.forall_mem_cons.mpr ⟨⟨[], rfl⟩, List.forall_mem_cons.mpr ⟨⟨[], rfl⟩, List.forall_mem_cons.mpr ⟨⟨[], rfl⟩, List.forall_mem_cons.mpr ⟨⟨[], rfl⟩, List.forall_mem_cons.mpr ⟨⟨[], rfl⟩, List.forall_mem_cons.mpr ⟨⟨[], rfl⟩, List.forall_mem_cons.mpr ⟨⟨[], rfl⟩, List.forall_mem_cons.mpr ⟨⟨[], rfl⟩, List.forall_mem_cons.mpr ⟨⟨[], rfl⟩, List.forall_mem_cons.mpr ⟨⟨[], rfl⟩, List.forall_mem_cons.mpr ⟨⟨[], rfl⟩, List.forall_mem_cons.mpr ⟨⟨[], rfl⟩, List.forall_mem_cons.mpr ⟨⟨[], rfl⟩, List.forall_mem_cons.mpr ⟨⟨[], rfl⟩, List.forall_mem_cons.mpr ⟨⟨[], rfl⟩, List.forall_mem_cons.mpr ⟨⟨[], rfl⟩, List.forall_mem_cons.mpr ⟨⟨[], rfl⟩, List.forall_mem_cons.mpr ⟨⟨[], rfl⟩, List.forall_mem_cons.mpr ⟨⟨[], rfl⟩, List.forall_mem_cons.mpr ⟨⟨[], rfl⟩, List.forall_mem_cons.mpr ⟨⟨[], rfl⟩, List.forall_mem_cons.mpr ⟨⟨[], rfl⟩, List.forall_mem_cons.mpr ⟨⟨[], rfl⟩, List.forall_mem_cons.mpr ⟨⟨_, tk_J_120⟩, List.forall_mem_cons.mpr ⟨⟨[], rfl⟩, List.forall_mem_cons.mpr ⟨⟨[], rfl⟩, List.forall_mem_cons.mpr ⟨⟨[], rfl⟩, List.forall_mem_cons.mpr ⟨⟨[], rfl⟩, List.forall_mem_cons.mpr ⟨⟨[], rfl⟩, List.forall_mem_cons.mpr ⟨⟨[], rfl⟩, List.forall_mem_cons.mpr ⟨⟨[], rfl⟩, List.forall_mem_cons.mpr ⟨⟨[], rfl⟩, List.forall_mem_cons.mpr ⟨⟨[], rfl⟩, List.forall_mem_cons.mpr ⟨⟨[], rfl⟩, List.forall_mem_cons.mpr ⟨⟨[], rfl⟩, List.forall_mem_cons.mpr ⟨⟨[], rfl⟩, List.forall_mem_cons.mpr ⟨⟨[], rfl⟩, List.forall_mem_cons.mpr ⟨⟨[], rfl⟩, List.forall_mem_cons.mpr ⟨⟨[], rfl⟩, List.forall_mem_cons.mpr ⟨⟨[], rfl⟩, List.forall_mem_cons.mpr ⟨⟨[], rfl⟩, List.forall_mem_cons.mpr ⟨⟨[], rfl⟩, List.forall_mem_cons.mpr ⟨⟨[], rfl⟩, List.forall_mem_cons.mpr ⟨⟨[], rfl⟩, List.forall_mem_cons.mpr ⟨⟨[], rfl⟩, List.forall_mem_cons.mpr ⟨⟨[], rfl⟩, List.forall_mem_cons.mpr ⟨⟨[], rfl⟩, List.forall_mem_cons.mpr ⟨⟨_, tk_J_144⟩, List.forall_mem_cons.mpr ⟨⟨[], rfl⟩, List.forall_mem_cons.mpr ⟨⟨[], rfl⟩, List.forall_mem_cons.mpr ⟨⟨[], rfl⟩, List.forall_mem_cons.mpr ⟨⟨[], rfl⟩, List.forall_mem_cons.mpr ⟨⟨[], rfl⟩, List.forall_mem_cons.mpr ⟨⟨[], rfl⟩, List.forall_mem_cons.mpr ⟨⟨[], rfl⟩, List.forall_mem_cons.mpr ⟨⟨[], rfl⟩, List.forall_mem_cons.mpr ⟨⟨[], rfl⟩, List.forall_mem_cons.mpr ⟨⟨[], rfl⟩, List.forall_mem_cons.mpr ⟨⟨[], rfl⟩, List.forall_mem_cons.mpr ⟨⟨[], rfl⟩, List.forall_mem_cons.mpr ⟨⟨[], rfl⟩, List.forall_mem_cons.mpr ⟨⟨[], rfl⟩, List.forall_mem_cons.mpr ⟨⟨[], rfl⟩, List.forall_mem_cons.mpr ⟨⟨[], rfl⟩, List.forall_mem_cons.mpr ⟨⟨[], rfl⟩, List.forall_mem_cons.mpr ⟨⟨[], rfl⟩, List.forall_mem_cons.mpr ⟨⟨[], rfl⟩, List.forall_mem_cons.mpr ⟨⟨[], rfl⟩, List.forall_mem_cons.mpr ⟨⟨[], rfl⟩, List.forall_mem_cons.mpr ⟨⟨[], rfl⟩, List.forall_mem_cons.mpr ⟨⟨[], rfl⟩, List.forall_mem_cons.mpr ⟨⟨[], rfl⟩, List.forall_mem_cons.mpr ⟨⟨[], rfl⟩, List.forall_mem_cons.mpr ⟨⟨[], rfl⟩, List.forall_mem_cons.mpr ⟨⟨[], rfl⟩, List.forall_mem_cons.mpr ⟨⟨[], rfl⟩, List.forall_mem_cons.mpr ⟨⟨[], rfl⟩, List.forall_mem_cons.mpr ⟨⟨[], rfl⟩, List.forall_mem_cons.mpr ⟨⟨[], rfl⟩, List.forall_mem_cons.mpr ⟨⟨[], rfl⟩, List.forall_mem_cons.mpr ⟨⟨[], rfl⟩, List.forall_mem_cons.mpr ⟨⟨[], rfl⟩, List.forall_mem_cons.mpr ⟨⟨[], rfl⟩, List.forall_mem_cons.mpr ⟨⟨[], rfl⟩, List.forall_mem_cons.mpr ⟨⟨[], rfl⟩, List.forall_mem_cons.mpr ⟨⟨[], rfl⟩, List.forall_mem_cons.mpr ⟨⟨[], rfl⟩, List.forall_mem_cons.mpr ⟨⟨[], rfl⟩, List.forall_mem_cons.mpr ⟨⟨[], rfl⟩, List.forall_mem_cons.mpr ⟨⟨[], rfl⟩, List.forall_mem_cons.mpr ⟨⟨[], rfl⟩, List.forall_mem_cons.mpr ⟨⟨[], rfl⟩, List.forall_mem_cons.mpr ⟨⟨[], rfl⟩, List.forall_mem_cons.mpr ⟨⟨[], rfl⟩, List.forall_mem_cons.mpr ⟨⟨[], rfl⟩, List.forall_mem_cons.mpr ⟨⟨[], rfl⟩, List.forall_mem_cons.mpr ⟨⟨[], rfl⟩, List.forall_mem_cons.mpr ⟨⟨[], rfl⟩, List.forall_mem_cons.mpr ⟨⟨[], rfl⟩, List.forall_mem_cons.mpr ⟨⟨[], rfl⟩, List.forall_mem_cons.mpr ⟨⟨[], rfl⟩, List.forall_mem_cons.mpr ⟨⟨[], rfl⟩, List.forall_mem_cons.mpr ⟨⟨[], rfl⟩, List.forall_mem_cons.mpr ⟨⟨[], rfl⟩, List.forall_mem_cons.mpr ⟨⟨[], rfl⟩, List.forall_mem_cons.mpr ⟨⟨[], rfl⟩, List.forall_mem_cons.mpr ⟨⟨[], rfl⟩, List.forall_mem_cons.mpr ⟨⟨[], rfl⟩, List.forall_mem_cons.mpr ⟨⟨[], rfl⟩, List.forall_mem_cons.mpr ⟨⟨[], rfl⟩, List.forall_mem_cons.mpr ⟨⟨[], rfl⟩, List.forall_mem_cons.mpr ⟨⟨[], rfl⟩, List.forall_mem_cons.mpr ⟨⟨[], rfl⟩, List.forall_mem_cons.mpr ⟨⟨[], rfl⟩, List.forall_mem_cons.mpr ⟨⟨[], rfl⟩, List.forall_mem_cons.mpr ⟨⟨[], rfl⟩, List.forall_mem_cons.mpr ⟨⟨[], rfl⟩, List.forall_mem_cons.mpr ⟨⟨[], rfl⟩, List.forall_mem_cons.mpr ⟨⟨[], rfl⟩, List.forall_mem_cons.mpr ⟨⟨[], rfl⟩, List.forall_mem_cons.mpr ⟨⟨[], rfl⟩, List.forall_mem_cons.mpr ⟨⟨[], rfl⟩, List.forall_mem_cons.mpr ⟨⟨[], rfl⟩, List.forall_mem_cons.mpr ⟨⟨[], rfl⟩, List.forall_mem_cons.mpr ⟨⟨[], rfl⟩, List.forall_mem_cons.mpr ⟨⟨[], rfl⟩, List.forall_mem_cons.mpr ⟨⟨[], rfl⟩, List.forall_mem_cons.mpr ⟨⟨[], rfl⟩, List.forall_mem_cons.mpr ⟨⟨[], rfl⟩, List.forall_mem_cons.mpr ⟨⟨[], rfl⟩, List.forall_mem_cons.mpr ⟨⟨[], rfl⟩, List.forall_mem_cons.mpr ⟨⟨[], rfl⟩, List.forall_mem_cons.mpr ⟨⟨[], rfl⟩, fun _ h => absurd h List.not_mem_nil⟩⟩⟩⟩⟩⟩⟩⟩⟩⟩⟩⟩⟩⟩⟩⟩⟩⟩⟩⟩⟩⟩⟩⟩⟩⟩⟩⟩⟩⟩⟩⟩⟩⟩⟩⟩⟩⟩⟩⟩⟩⟩⟩⟩⟩⟩⟩⟩⟩⟩⟩⟩⟩⟩⟩⟩⟩⟩⟩⟩⟩⟩⟩⟩⟩⟩⟩⟩⟩⟩⟩⟩⟩⟩⟩⟩⟩⟩⟩⟩⟩⟩⟩⟩⟩⟩⟩⟩⟩⟩⟩⟩⟩⟩⟩⟩⟩⟩⟩⟩⟩⟩⟩⟩⟩⟩⟩⟩⟩⟩⟩⟩⟩⟩⟩⟩⟩⟩⟩⟩⟩⟩⟩⟩⟩⟩⟩⟩⟩⟩⟩⟩⟩⟩⟩⟩⟩⟩⟩⟩⟩⟩⟩⟩⟩⟩⟩⟩⟩⟩⟩⟩⟩⟩⟩⟩⟩⟩⟩⟩⟩⟩⟩⟩⟩⟩⟩⟩⟩⟩⟩⟩⟩⟩⟩⟩⟩⟩⟩⟩⟩⟩⟩⟩⟩⟩⟩⟩⟩⟩⟩⟩⟩⟩⟩⟩⟩⟩⟩⟩⟩⟩⟩⟩⟩⟩⟩⟩⟩⟩⟩⟩⟩⟩⟩⟩⟩⟩⟩⟩⟩⟩⟩⟩⟩⟩⟩⟩⟩⟩
theorem tg_J {y ix k j n : Nat} (h : vz_Cl P0 y ix = some (k, j, n)) : (k = 6 ∨ k = 7 → Cond.methodLink (vz_own P0 y) ix (tk_bn j) ∈ tb_T) ∧ (k = 6 → j < 3) ∧ (k = 7 → 2 < j) ∧ (k = 9 → Cond.methodLink (vz_own P0 y) ix (vz_mn P0 j) ∈ tb_T) := by
  have hm := vz_lk_mem (show vz_lk (tb_at y).2.2.2.1 ix = some (k, j, n) from h)
  obtain ⟨ps, hL⟩ := tk_allJ _ (tb_out (fun e => e.2.2.2.1) rfl rfl hm)
  have hL := List.all_eq_true.mp hL _ hm
  refine ⟨fun e => ?_, fun e => ?_, fun e => ?_, fun e => ?_⟩
  · rcases e with rfl | rfl
    · exact tb_w_of (Bool.and_eq_true_iff.mp (show (tb_w ((vz_lk ps ix).getD 0) (.methodLink (tb_at y).1.1 ix (tk_bn j)) && decide (j < 3)) = true from hL)).1
    · exact tb_w_of (Bool.and_eq_true_iff.mp (show (tb_w ((vz_lk ps ix).getD 0) (.methodLink (tb_at y).1.1 ix (tk_bn j)) && decide (2 < j)) = true from hL)).1
  · subst e
    exact of_decide_eq_true (Bool.and_eq_true_iff.mp (show (tb_w ((vz_lk ps ix).getD 0) (.methodLink (tb_at y).1.1 ix (tk_bn j)) && decide (j < 3)) = true from hL)).2
  · subst e
    exact of_decide_eq_true (Bool.and_eq_true_iff.mp (show (tb_w ((vz_lk ps ix).getD 0) (.methodLink (tb_at y).1.1 ix (tk_bn j)) && decide (2 < j)) = true from hL)).2
  · subst e
    exact tb_w_of (show tb_w ((vz_lk ps ix).getD 0) (.methodLink (tb_at y).1.1 ix (tb_at j).1.2.2.2.2.2.2) = true from hL)
theorem tk_c9 : ∀ e ∈ tb_all, ∀ q ∈ e.2.2.2.1, q.2.1 = 9 → (q.2.2.1, q.2.2.2) ∈ ([(104, 3), (106, 2), (125, 4)] : List (Nat × Nat)) := by decide +kernel
set_option maxRecDepth 100000 in
theorem tk_D9_104 : tables_1[1004]? = some (Cond.codeWith tE_104.1.2.2.2.2.2.2 tE_104.1.2.2.2.1 tE_104.1.2.2.2.2.1 tE_104.1.2.2.2.2.2.1 ((vz_lk tb_hd 104).getD [])) := rfl
set_option maxRecDepth 100000 in
theorem tk_D9_106 : tables_1[1080]? = some (Cond.codeWith tE_106.1.2.2.2.2.2.2 tE_106.1.2.2.2.1 tE_106.1.2.2.2.2.1 tE_106.1.2.2.2.2.2.1 ((vz_lk tb_hd 106).getD [])) := rfl
set_option maxRecDepth 100000 in
theorem tk_D9_125 : tables_1[1185]? = some (Cond.codeWith tE_125.1.2.2.2.2.2.2 tE_125.1.2.2.2.1 tE_125.1.2.2.2.2.1 tE_125.1.2.2.2.2.2.1 ((vz_lk tb_hd 125).getD [])) := rfl
def tk_W9 (q : Nat × Nat) : Prop := Cond.codeWith (vz_mn P0 q.1) (vz_bc P0 q.1) (vz_ml P0 q.1) (vz_rt P0 q.1) (vz_hd P0 q.1) ∈ tb_T ∧ Cond.initialized (vz_mn P0 q.1).cls ∈ tb_T ∧ ((vz_mn P0 q.1).cls ≠ "java/lang/invoke/MethodHandle" ∧ (vz_mn P0 q.1).cls ≠ "java/lang/invoke/VarHandle") ∧ (parseMethodDescriptor (vz_mn P0 q.1).desc).map (fun d => d.parameters.length) = some q.2 ∧ Cond.static (vz_mn P0 q.1) ∈ tb_T
theorem tk_W9_104 : tk_W9 (104, 3) := ⟨tb_in (p := 1004) tk_D9_104 rfl, tb_w_of (p := 0) (by decide +kernel), ⟨by decide +kernel, by decide +kernel⟩, by decide +kernel, tb_w_of (p := 1003) (by decide +kernel)⟩
theorem tk_W9_106 : tk_W9 (106, 2) := ⟨tb_in (p := 1080) tk_D9_106 rfl, tb_w_of (p := 0) (by decide +kernel), ⟨by decide +kernel, by decide +kernel⟩, by decide +kernel, tb_w_of (p := 1079) (by decide +kernel)⟩
theorem tk_W9_125 : tk_W9 (125, 4) := ⟨tb_in (p := 1185) tk_D9_125 rfl, tb_w_of (p := 0) (by decide +kernel), ⟨by decide +kernel, by decide +kernel⟩, by decide +kernel, tb_w_of (p := 1184) (by decide +kernel)⟩
theorem tg_W : vz_gW P0 tb_T := by
  intro y ix y' n h
  have hm := vz_lk_mem (show vz_lk (tb_at y).2.2.2.1 ix = some (9, y', n) from h)
  have hin := tk_c9 _ (tb_out (fun e => e.2.2.2.1) rfl rfl hm) _ hm rfl
  have hall : ∀ q ∈ ([(104, 3), (106, 2), (125, 4)] : List (Nat × Nat)), tk_W9 q := List.forall_mem_cons.mpr ⟨tk_W9_104, List.forall_mem_cons.mpr ⟨tk_W9_106, List.forall_mem_cons.mpr ⟨tk_W9_125, fun _ h => absurd h List.not_mem_nil⟩⟩⟩
  obtain ⟨h1, h2, h3, h4, h5⟩ := hall _ hin
  exact ⟨h1, h2, h3, h4, (tg_J h).2.2.2 rfl, h5⟩
theorem tg_good : vz_good P0 tb_cl tb_T tb_N := ⟨tg_I, tg_F, tg_N, tg_K, tg_A, tg_M, tg_C, tg_O, tg_W⟩
theorem tm_c (m : MethodName) (b : ByteArray) (p : Nat) (h : tables_1[p]? = some (Cond.code m b 2 (some .int))) : Cond.code m b 2 (some .int) ∈ tb_T := tb_in h rfl
set_option maxRecDepth 100000 in
theorem tm_Bs {D : va_G} {cc : Nat → ClassId} {G : State → Prop} {l : Launch} : vz_Bs P0 D tb_cl cc tb_T tb_N G l := by
  intro y d pc ix k n As rest x p e R s m args below meth c H locs cells slots Q ls A ρ hC hG hdc hcl hla h8 hbi h4 hdR hlR hcR hsR hS hsz kk
  obtain ⟨hx, hbb, hmL, hown, hts, hns, hK, hin, hrt, hlk⟩ := hC
  obtain ⟨j1, -, j2, -⟩ := tg_J hcl
  have j1 := j1 (Or.inr rfl)
  have j2 := j2 rfl
  have hini : (Cond.initialized "java/lang/Math").before args s = true := hts _ (tb_w_of (p := 15) (by decide +kernel))
  have h8' : ((vz_ts ρ rest).map fun v => v.category).sum ≤ 8 := by
    show ((vz_ts ρ rest).map Value.category).sum ≤ 8
    rw [vz_cats]; exact h8
  unfold vz_bi at hbi
  have hbi : tb_bi k As = some (.int x) := hbi
  unfold tb_bi at hbi
  split at hbi
  · omega
  · omega
  · omega
  · next a b =>
    cases hbi
    have hcode : (Cond.code Lib.Math.min.name Lib.Math.min.code 2 (some .int)).before args s = true := hts _ (tm_c _ _ 530 rfl)
    have hst : (Cond.static Lib.Math.min.name).before args s = true := hts _ (tb_w_of (p := 529) (by decide +kernel))
    exact va_mmin hx hbb (hmL.trans hsz.symm) hown (hts _ j1) hst hini hcode (by omega) (by have h99 : ((List.map (vz_t ρ) ([].append rest)).map fun v => v.category).sum ≤ 8 := h8'; omega) hcR hsR hdc kk
  · next a b =>
    cases hbi
    have hcode : (Cond.code Lib.Math.max.name Lib.Math.max.code 2 (some .int)).before args s = true := hts _ (tm_c _ _ 647 rfl)
    have hst : (Cond.static Lib.Math.max.name).before args s = true := hts _ (tb_w_of (p := 646) (by decide +kernel))
    exact va_mmax hx hbb (hmL.trans hsz.symm) hown (hts _ j1) hst hini hcode (by omega) (by have h99 : ((List.map (vz_t ρ) ([].append rest)).map fun v => v.category).sum ≤ 8 := h8'; omega) hcR hsR hdc kk
  · cases hbi
