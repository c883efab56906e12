/-! THE CONSTRUCTORS, run by rows: written by wip/prog/gen_ctor.py -/
theorem va_up_of {α : Type} {f : Nat → α} {a : Nat} {x : α} (h : f a = x) : f = va_up f a x := by
  funext b
  by_cases e : b = a
  · subst e
    rw [va_up_self]
    exact h
  · rw [va_up_ne _ _ e]
/-- GameText$Words.<init>()V, cell 2 -/
theorem ct_1 {d : Nat} {f : Nat → va_E} {nc ns : Nat} (h2 : f 2 = .inr (1, [.null, .int 0, .int 0, .int 0, .int 0, .int 0, .int 0])) : ∃ f1 : Nat → va_E, vz_ev P0 (d + 1) 2 0 (lv_args 0 [.ref 2]) [] (2, f, nc, ns) (.inl none, (3, f1, nc + 1, ns + 256)) ∧ (f1 2 = .inr (1, [.ref 3, .int 0, .int 0, .int 264, .int 0, .int 0, .int 0]) ∧ f1 3 = .inl (0, 256, .inl fun _ => 0)) ∧ ∀ b, b ≠ 2 → b ≠ 3 → f1 b = f b := by
  refine ⟨va_up (va_up (va_up (va_up (va_up (va_up (va_up (va_up (va_up f 2 (.inr (1, [.null, .int 0, .int 0, .int 0, .int 0, .int 0, .int 0]))) 3 (.inl (0, 256, .inl fun _ => 0))) 2 (.inr (1, [.ref 3, .int 0, .int 0, .int 0, .int 0, .int 0, .int 0]))) 2 (.inr (1, [.ref 3, .int 0, .int 0, .int 0, .int 0, .int 0, .int 0]))) 2 (.inr (1, [.ref 3, .int 0, .int 0, .int 0, .int 0, .int 0, .int 0]))) 2 (.inr (1, [.ref 3, .int 0, .int 0, .int 264, .int 0, .int 0, .int 0]))) 2 (.inr (1, [.ref 3, .int 0, .int 0, .int 264, .int 0, .int 0, .int 0]))) 2 (.inr (1, [.ref 3, .int 0, .int 0, .int 264, .int 0, .int 0, .int 0]))) 2 (.inr (1, [.ref 3, .int 0, .int 0, .int 264, .int 0, .int 0, .int 0])), ?_, ?_, ?_⟩
  · refine ev_hp (μ' := (2, va_up f 2 (.inr (1, [.null, .int 0, .int 0, .int 0, .int 0, .int 0, .int 0])), nc + 0, ns + 0)) (congrArg (fun z => ((2 : Nat), z, nc + 0, ns + 0)) (va_up_of h2)) ?_
    refine ev_h (i := .aload_n 0) (len := 1) rfl rfl rfl ?_
    refine ev_obj (d := d + 0) rfl rfl rfl rfl ?_
    refine ev_h (i := .aload_n 0) (len := 1) rfl rfl rfl ?_
    refine ev_h (i := .sipush 256) (len := 3) rfl rfl rfl ?_
    refine ev_h (i := .newarray .int) (len := 2) rfl rfl rfl ?_
    refine ev_h (i := .putfield 9) (len := 3) rfl rfl rfl ?_
    refine ev_h (i := .aload_n 0) (len := 1) rfl rfl rfl ?_
    refine ev_h (i := .iconst 0) (len := 1) rfl rfl rfl ?_
    refine ev_h (i := .putfield 15) (len := 3) rfl rfl rfl ?_
    refine ev_h (i := .aload_n 0) (len := 1) rfl rfl rfl ?_
    refine ev_h (i := .iconst 0) (len := 1) rfl rfl rfl ?_
    refine ev_h (i := .putfield 19) (len := 3) rfl rfl rfl ?_
    refine ev_h (i := .aload_n 0) (len := 1) rfl rfl rfl ?_
    refine ev_h (i := .sipush 264) (len := 3) rfl rfl rfl ?_
    refine ev_h (i := .putfield 22) (len := 3) rfl rfl rfl ?_
    refine ev_h (i := .aload_n 0) (len := 1) rfl rfl rfl ?_
    refine ev_h (i := .iconst 0) (len := 1) rfl rfl rfl ?_
    refine ev_h (i := .putfield 25) (len := 3) rfl rfl rfl ?_
    refine ev_h (i := .aload_n 0) (len := 1) rfl rfl rfl ?_
    refine ev_h (i := .iconst 0) (len := 1) rfl rfl rfl ?_
    refine ev_h (i := .putfield 28) (len := 3) rfl rfl rfl ?_
    refine ev_h (i := .aload_n 0) (len := 1) rfl rfl rfl ?_
    refine ev_h (i := .iconst 0) (len := 1) rfl rfl rfl ?_
    refine ev_h (i := .putfield 31) (len := 3) rfl rfl rfl ?_
    exact ev_vret rfl rfl rfl
  · exact ⟨rfl, rfl⟩
  · intro b q2 q3
    rw [va_up_ne _ _ q2]
    rw [va_up_ne _ _ q2]
    rw [va_up_ne _ _ q2]
    rw [va_up_ne _ _ q2]
    rw [va_up_ne _ _ q2]
    rw [va_up_ne _ _ q2]
    rw [va_up_ne _ _ q2]
    rw [va_up_ne _ _ q3]
    rw [va_up_ne _ _ q2]
/-- GameText$Code.<init>()V, cell 5 -/
theorem ct_2 {d : Nat} {f : Nat → va_E} {nc ns : Nat} (h5 : f 5 = .inr (3, [.null, .null, .null, .null, .null, .null, .null, .null, .int 0])) : ∃ f1 : Nat → va_E, vz_ev P0 (d + 1) 4 0 (lv_args 0 [.ref 5]) [] (5, f, nc, ns) (.inl none, (13, f1, nc + 8, ns + 512)) ∧ (f1 5 = .inr (3, [.ref 6, .ref 7, .ref 8, .ref 9, .ref 10, .ref 11, .ref 12, .ref 13, .int 0]) ∧ f1 6 = .inl (0, 64, .inl fun _ => 0) ∧ f1 7 = .inl (0, 64, .inl fun _ => 0) ∧ f1 8 = .inl (0, 64, .inl fun _ => 0) ∧ f1 9 = .inl (0, 64, .inl fun _ => 0) ∧ f1 10 = .inl (0, 64, .inl fun _ => 0) ∧ f1 11 = .inl (0, 64, .inl fun _ => 0) ∧ f1 12 = .inl (0, 64, .inl fun _ => 0) ∧ f1 13 = .inl (0, 64, .inl fun _ => 0)) ∧ ∀ b, b ≠ 5 → b ≠ 6 → b ≠ 7 → b ≠ 8 → b ≠ 9 → b ≠ 10 → b ≠ 11 → b ≠ 12 → b ≠ 13 → f1 b = f b := by
  refine ⟨va_up (va_up (va_up (va_up (va_up (va_up (va_up (va_up (va_up (va_up (va_up (va_up (va_up (va_up (va_up (va_up (va_up (va_up f 5 (.inr (3, [.null, .null, .null, .null, .null, .null, .null, .null, .int 0]))) 6 (.inl (0, 64, .inl fun _ => 0))) 5 (.inr (3, [.ref 6, .null, .null, .null, .null, .null, .null, .null, .int 0]))) 7 (.inl (0, 64, .inl fun _ => 0))) 5 (.inr (3, [.ref 6, .ref 7, .null, .null, .null, .null, .null, .null, .int 0]))) 8 (.inl (0, 64, .inl fun _ => 0))) 5 (.inr (3, [.ref 6, .ref 7, .ref 8, .null, .null, .null, .null, .null, .int 0]))) 9 (.inl (0, 64, .inl fun _ => 0))) 5 (.inr (3, [.ref 6, .ref 7, .ref 8, .ref 9, .null, .null, .null, .null, .int 0]))) 10 (.inl (0, 64, .inl fun _ => 0))) 5 (.inr (3, [.ref 6, .ref 7, .ref 8, .ref 9, .ref 10, .null, .null, .null, .int 0]))) 11 (.inl (0, 64, .inl fun _ => 0))) 5 (.inr (3, [.ref 6, .ref 7, .ref 8, .ref 9, .ref 10, .ref 11, .null, .null, .int 0]))) 12 (.inl (0, 64, .inl fun _ => 0))) 5 (.inr (3, [.ref 6, .ref 7, .ref 8, .ref 9, .ref 10, .ref 11, .ref 12, .null, .int 0]))) 13 (.inl (0, 64, .inl fun _ => 0))) 5 (.inr (3, [.ref 6, .ref 7, .ref 8, .ref 9, .ref 10, .ref 11, .ref 12, .ref 13, .int 0]))) 5 (.inr (3, [.ref 6, .ref 7, .ref 8, .ref 9, .ref 10, .ref 11, .ref 12, .ref 13, .int 0])), ?_, ?_, ?_⟩
  · refine ev_hp (μ' := (5, va_up f 5 (.inr (3, [.null, .null, .null, .null, .null, .null, .null, .null, .int 0])), nc + 0, ns + 0)) (congrArg (fun z => ((5 : Nat), z, nc + 0, ns + 0)) (va_up_of h5)) ?_
    refine ev_h (i := .aload_n 0) (len := 1) rfl rfl rfl ?_
    refine ev_obj (d := d + 0) rfl rfl rfl rfl ?_
    refine ev_h (i := .aload_n 0) (len := 1) rfl rfl rfl ?_
    refine ev_h (i := .bipush 64) (len := 2) rfl rfl rfl ?_
    refine ev_h (i := .newarray .int) (len := 2) rfl rfl rfl ?_
    refine ev_h (i := .putfield 9) (len := 3) rfl rfl rfl ?_
    refine ev_h (i := .aload_n 0) (len := 1) rfl rfl rfl ?_
    refine ev_h (i := .bipush 64) (len := 2) rfl rfl rfl ?_
    refine ev_h (i := .newarray .int) (len := 2) rfl rfl rfl ?_
    refine ev_h (i := .putfield 15) (len := 3) rfl rfl rfl ?_
    refine ev_h (i := .aload_n 0) (len := 1) rfl rfl rfl ?_
    refine ev_h (i := .bipush 64) (len := 2) rfl rfl rfl ?_
    refine ev_h (i := .newarray .int) (len := 2) rfl rfl rfl ?_
    refine ev_h (i := .putfield 18) (len := 3) rfl rfl rfl ?_
    refine ev_h (i := .aload_n 0) (len := 1) rfl rfl rfl ?_
    refine ev_h (i := .bipush 64) (len := 2) rfl rfl rfl ?_
    refine ev_h (i := .newarray .int) (len := 2) rfl rfl rfl ?_
    refine ev_h (i := .putfield 21) (len := 3) rfl rfl rfl ?_
    refine ev_h (i := .aload_n 0) (len := 1) rfl rfl rfl ?_
    refine ev_h (i := .bipush 64) (len := 2) rfl rfl rfl ?_
    refine ev_h (i := .newarray .int) (len := 2) rfl rfl rfl ?_
    refine ev_h (i := .putfield 24) (len := 3) rfl rfl rfl ?_
    refine ev_h (i := .aload_n 0) (len := 1) rfl rfl rfl ?_
    refine ev_h (i := .bipush 64) (len := 2) rfl rfl rfl ?_
    refine ev_h (i := .newarray .int) (len := 2) rfl rfl rfl ?_
    refine ev_h (i := .putfield 27) (len := 3) rfl rfl rfl ?_
    refine ev_h (i := .aload_n 0) (len := 1) rfl rfl rfl ?_
    refine ev_h (i := .bipush 64) (len := 2) rfl rfl rfl ?_
    refine ev_h (i := .newarray .int) (len := 2) rfl rfl rfl ?_
    refine ev_h (i := .putfield 30) (len := 3) rfl rfl rfl ?_
    refine ev_h (i := .aload_n 0) (len := 1) rfl rfl rfl ?_
    refine ev_h (i := .bipush 64) (len := 2) rfl rfl rfl ?_
    refine ev_h (i := .newarray .int) (len := 2) rfl rfl rfl ?_
    refine ev_h (i := .putfield 33) (len := 3) rfl rfl rfl ?_
    refine ev_h (i := .aload_n 0) (len := 1) rfl rfl rfl ?_
    refine ev_h (i := .iconst 0) (len := 1) rfl rfl rfl ?_
    refine ev_h (i := .putfield 36) (len := 3) rfl rfl rfl ?_
    exact ev_vret rfl rfl rfl
  · exact ⟨rfl, rfl, rfl, rfl, rfl, rfl, rfl, rfl, rfl⟩
  · intro b q5 q6 q7 q8 q9 q10 q11 q12 q13
    rw [va_up_ne _ _ q5]
    rw [va_up_ne _ _ q5]
    rw [va_up_ne _ _ q13]
    rw [va_up_ne _ _ q5]
    rw [va_up_ne _ _ q12]
    rw [va_up_ne _ _ q5]
    rw [va_up_ne _ _ q11]
    rw [va_up_ne _ _ q5]
    rw [va_up_ne _ _ q10]
    rw [va_up_ne _ _ q5]
    rw [va_up_ne _ _ q9]
    rw [va_up_ne _ _ q5]
    rw [va_up_ne _ _ q8]
    rw [va_up_ne _ _ q5]
    rw [va_up_ne _ _ q7]
    rw [va_up_ne _ _ q5]
    rw [va_up_ne _ _ q6]
    rw [va_up_ne _ _ q5]
/-- GameText$Text.<init>()V, cell 4 -/
theorem ct_3 {d : Nat} {f : Nat → va_E} {nc ns : Nat} (h4 : f 4 = .inr (2, [.null, .null, .null, .null, .null, .null, .null, .int 0, .int 0, .int 0, .int 0, .int 0])) : ∃ f1 : Nat → va_E, vz_ev P0 (d + 2) 3 0 (lv_args 0 [.ref 4]) [] (4, f, nc, ns) (.inl none, (19, f1, nc + 15, ns + 689)) ∧ (f1 4 = .inr (2, [.ref 5, .ref 14, .ref 15, .ref 16, .ref 17, .ref 18, .ref 19, .int 0, .int 0, .int 0, .int 0, .int (-1)]) ∧ f1 5 = .inr (3, [.ref 6, .ref 7, .ref 8, .ref 9, .ref 10, .ref 11, .ref 12, .ref 13, .int 0]) ∧ f1 6 = .inl (0, 64, .inl fun _ => 0) ∧ f1 7 = .inl (0, 64, .inl fun _ => 0) ∧ f1 8 = .inl (0, 64, .inl fun _ => 0) ∧ f1 9 = .inl (0, 64, .inl fun _ => 0) ∧ f1 10 = .inl (0, 64, .inl fun _ => 0) ∧ f1 11 = .inl (0, 64, .inl fun _ => 0) ∧ f1 12 = .inl (0, 64, .inl fun _ => 0) ∧ f1 13 = .inl (0, 64, .inl fun _ => 0) ∧ f1 14 = .inl (0, 12, .inl fun _ => 0) ∧ f1 15 = .inl (0, 12, .inl fun _ => 0) ∧ f1 16 = .inl (0, 12, .inl fun _ => 0) ∧ f1 17 = .inl (0, 12, .inl fun _ => 0) ∧ f1 18 = .inl (0, 60, .inl fun _ => 0) ∧ f1 19 = .inl (0, 60, .inl fun _ => 0)) ∧ ∀ b, b ≠ 4 → b ≠ 5 → b ≠ 6 → b ≠ 7 → b ≠ 8 → b ≠ 9 → b ≠ 10 → b ≠ 11 → b ≠ 12 → b ≠ 13 → b ≠ 14 → b ≠ 15 → b ≠ 16 → b ≠ 17 → b ≠ 18 → b ≠ 19 → f1 b = f b := by
  obtain ⟨f_1, v_1, ⟨k_1_5, k_1_6, k_1_7, k_1_8, k_1_9, k_1_10, k_1_11, k_1_12, k_1_13⟩, w_1⟩ := ct_2 (d := d + 0) (f := va_up f 5 (.inr (3, [.null, .null, .null, .null, .null, .null, .null, .null, .int 0]))) (nc := nc + 1) (ns := ns + 9) rfl
  refine ⟨va_up (va_up (va_up (va_up (va_up (va_up (va_up (va_up (va_up (va_up (va_up (va_up (va_up (va_up (va_up (va_up (va_up (va_up (va_up f_1 4 (.inr (2, [.null, .null, .null, .null, .null, .null, .null, .int 0, .int 0, .int 0, .int 0, .int 0]))) 4 (.inr (2, [.ref 5, .null, .null, .null, .null, .null, .null, .int 0, .int 0, .int 0, .int 0, .int 0]))) 14 (.inl (0, 12, .inl fun _ => 0))) 4 (.inr (2, [.ref 5, .ref 14, .null, .null, .null, .null, .null, .int 0, .int 0, .int 0, .int 0, .int 0]))) 15 (.inl (0, 12, .inl fun _ => 0))) 4 (.inr (2, [.ref 5, .ref 14, .ref 15, .null, .null, .null, .null, .int 0, .int 0, .int 0, .int 0, .int 0]))) 16 (.inl (0, 12, .inl fun _ => 0))) 4 (.inr (2, [.ref 5, .ref 14, .ref 15, .ref 16, .null, .null, .null, .int 0, .int 0, .int 0, .int 0, .int 0]))) 17 (.inl (0, 12, .inl fun _ => 0))) 4 (.inr (2, [.ref 5, .ref 14, .ref 15, .ref 16, .ref 17, .null, .null, .int 0, .int 0, .int 0, .int 0, .int 0]))) 18 (.inl (0, 60, .inl fun _ => 0))) 4 (.inr (2, [.ref 5, .ref 14, .ref 15, .ref 16, .ref 17, .ref 18, .null, .int 0, .int 0, .int 0, .int 0, .int 0]))) 19 (.inl (0, 60, .inl fun _ => 0))) 4 (.inr (2, [.ref 5, .ref 14, .ref 15, .ref 16, .ref 17, .ref 18, .ref 19, .int 0, .int 0, .int 0, .int 0, .int 0]))) 4 (.inr (2, [.ref 5, .ref 14, .ref 15, .ref 16, .ref 17, .ref 18, .ref 19, .int 0, .int 0, .int 0, .int 0, .int 0]))) 4 (.inr (2, [.ref 5, .ref 14, .ref 15, .ref 16, .ref 17, .ref 18, .ref 19, .int 0, .int 0, .int 0, .int 0, .int 0]))) 4 (.inr (2, [.ref 5, .ref 14, .ref 15, .ref 16, .ref 17, .ref 18, .ref 19, .int 0, .int 0, .int 0, .int 0, .int 0]))) 4 (.inr (2, [.ref 5, .ref 14, .ref 15, .ref 16, .ref 17, .ref 18, .ref 19, .int 0, .int 0, .int 0, .int 0, .int 0]))) 4 (.inr (2, [.ref 5, .ref 14, .ref 15, .ref 16, .ref 17, .ref 18, .ref 19, .int 0, .int 0, .int 0, .int 0, .int (-1)])), ?_, ?_, ?_⟩
  · refine ev_h (i := .aload_n 0) (len := 1) rfl rfl rfl ?_
    refine ev_obj (d := d + 1) rfl rfl rfl rfl ?_
    refine ev_h (i := .aload_n 0) (len := 1) rfl rfl rfl ?_
    refine ev_h (i := .new 9) (len := 3) rfl rfl rfl ?_
    refine ev_h (i := .dup) (len := 1) rfl rfl rfl ?_
    refine ev_callI (d := d + 1) (As := []) (a := 5) rfl rfl rfl rfl rfl rfl rfl rfl v_1 ?_
    refine ev_hp (μ' := (13, va_up f_1 4 (.inr (2, [.null, .null, .null, .null, .null, .null, .null, .int 0, .int 0, .int 0, .int 0, .int 0])), nc + 9, ns + 521)) (congrArg (fun z => ((13 : Nat), z, nc + 9, ns + 521)) (va_up_of ((w_1 4 (by decide) (by decide) (by decide) (by decide) (by decide) (by decide) (by decide) (by decide) (by decide)).trans (by show f 4 = _; exact h4)))) ?_
    refine ev_h (i := .putfield 12) (len := 3) rfl rfl rfl ?_
    refine ev_h (i := .aload_n 0) (len := 1) rfl rfl rfl ?_
    refine ev_h (i := .bipush 12) (len := 2) rfl rfl rfl ?_
    refine ev_h (i := .newarray .int) (len := 2) rfl rfl rfl ?_
    refine ev_h (i := .putfield 18) (len := 3) rfl rfl rfl ?_
    refine ev_h (i := .aload_n 0) (len := 1) rfl rfl rfl ?_
    refine ev_h (i := .bipush 12) (len := 2) rfl rfl rfl ?_
    refine ev_h (i := .newarray .int) (len := 2) rfl rfl rfl ?_
    refine ev_h (i := .putfield 22) (len := 3) rfl rfl rfl ?_
    refine ev_h (i := .aload_n 0) (len := 1) rfl rfl rfl ?_
    refine ev_h (i := .bipush 12) (len := 2) rfl rfl rfl ?_
    refine ev_h (i := .newarray .int) (len := 2) rfl rfl rfl ?_
    refine ev_h (i := .putfield 25) (len := 3) rfl rfl rfl ?_
    refine ev_h (i := .aload_n 0) (len := 1) rfl rfl rfl ?_
    refine ev_h (i := .bipush 12) (len := 2) rfl rfl rfl ?_
    refine ev_h (i := .newarray .int) (len := 2) rfl rfl rfl ?_
    refine ev_h (i := .putfield 28) (len := 3) rfl rfl rfl ?_
    refine ev_h (i := .aload_n 0) (len := 1) rfl rfl rfl ?_
    refine ev_h (i := .bipush 60) (len := 2) rfl rfl rfl ?_
    refine ev_h (i := .newarray .int) (len := 2) rfl rfl rfl ?_
    refine ev_h (i := .putfield 31) (len := 3) rfl rfl rfl ?_
    refine ev_h (i := .aload_n 0) (len := 1) rfl rfl rfl ?_
    refine ev_h (i := .bipush 60) (len := 2) rfl rfl rfl ?_
    refine ev_h (i := .newarray .int) (len := 2) rfl rfl rfl ?_
    refine ev_h (i := .putfield 34) (len := 3) rfl rfl rfl ?_
    refine ev_h (i := .aload_n 0) (len := 1) rfl rfl rfl ?_
    refine ev_h (i := .iconst 0) (len := 1) rfl rfl rfl ?_
    refine ev_h (i := .putfield 37) (len := 3) rfl rfl rfl ?_
    refine ev_h (i := .aload_n 0) (len := 1) rfl rfl rfl ?_
    refine ev_h (i := .iconst 0) (len := 1) rfl rfl rfl ?_
    refine ev_h (i := .putfield 41) (len := 3) rfl rfl rfl ?_
    refine ev_h (i := .aload_n 0) (len := 1) rfl rfl rfl ?_
    refine ev_h (i := .iconst 0) (len := 1) rfl rfl rfl ?_
    refine ev_h (i := .putfield 44) (len := 3) rfl rfl rfl ?_
    refine ev_h (i := .aload_n 0) (len := 1) rfl rfl rfl ?_
    refine ev_h (i := .iconst 0) (len := 1) rfl rfl rfl ?_
    refine ev_h (i := .putfield 47) (len := 3) rfl rfl rfl ?_
    refine ev_h (i := .aload_n 0) (len := 1) rfl rfl rfl ?_
    refine ev_h (i := .iconst (-1)) (len := 1) rfl rfl rfl ?_
    refine ev_h (i := .putfield 50) (len := 3) rfl rfl rfl ?_
    exact ev_vret rfl rfl rfl
  · exact ⟨rfl, (by show f_1 5 = _; exact k_1_5), (by show f_1 6 = _; exact k_1_6), (by show f_1 7 = _; exact k_1_7), (by show f_1 8 = _; exact k_1_8), (by show f_1 9 = _; exact k_1_9), (by show f_1 10 = _; exact k_1_10), (by show f_1 11 = _; exact k_1_11), (by show f_1 12 = _; exact k_1_12), (by show f_1 13 = _; exact k_1_13), rfl, rfl, rfl, rfl, rfl, rfl⟩
  · intro b q4 q5 q6 q7 q8 q9 q10 q11 q12 q13 q14 q15 q16 q17 q18 q19
    rw [va_up_ne _ _ q4]
    rw [va_up_ne _ _ q4]
    rw [va_up_ne _ _ q4]
    rw [va_up_ne _ _ q4]
    rw [va_up_ne _ _ q4]
    rw [va_up_ne _ _ q4]
    rw [va_up_ne _ _ q19]
    rw [va_up_ne _ _ q4]
    rw [va_up_ne _ _ q18]
    rw [va_up_ne _ _ q4]
    rw [va_up_ne _ _ q17]
    rw [va_up_ne _ _ q4]
    rw [va_up_ne _ _ q16]
    rw [va_up_ne _ _ q4]
    rw [va_up_ne _ _ q15]
    rw [va_up_ne _ _ q4]
    rw [va_up_ne _ _ q14]
    rw [va_up_ne _ _ q4]
    rw [va_up_ne _ _ q4]
    rw [w_1 b q5 q6 q7 q8 q9 q10 q11 q12 q13]
    rw [va_up_ne _ _ q5]
/-- GameText$Code.<init>()V, cell 21 -/
theorem ct_4 {d : Nat} {f : Nat → va_E} {nc ns : Nat} (h21 : f 21 = .inr (3, [.null, .null, .null, .null, .null, .null, .null, .null, .int 0])) : ∃ f1 : Nat → va_E, vz_ev P0 (d + 1) 4 0 (lv_args 0 [.ref 21]) [] (21, f, nc, ns) (.inl none, (29, f1, nc + 8, ns + 512)) ∧ (f1 21 = .inr (3, [.ref 22, .ref 23, .ref 24, .ref 25, .ref 26, .ref 27, .ref 28, .ref 29, .int 0]) ∧ f1 22 = .inl (0, 64, .inl fun _ => 0) ∧ f1 23 = .inl (0, 64, .inl fun _ => 0) ∧ f1 24 = .inl (0, 64, .inl fun _ => 0) ∧ f1 25 = .inl (0, 64, .inl fun _ => 0) ∧ f1 26 = .inl (0, 64, .inl fun _ => 0) ∧ f1 27 = .inl (0, 64, .inl fun _ => 0) ∧ f1 28 = .inl (0, 64, .inl fun _ => 0) ∧ f1 29 = .inl (0, 64, .inl fun _ => 0)) ∧ ∀ b, b ≠ 21 → b ≠ 22 → b ≠ 23 → b ≠ 24 → b ≠ 25 → b ≠ 26 → b ≠ 27 → b ≠ 28 → b ≠ 29 → f1 b = f b := by
  refine ⟨va_up (va_up (va_up (va_up (va_up (va_up (va_up (va_up (va_up (va_up (va_up (va_up (va_up (va_up (va_up (va_up (va_up (va_up f 21 (.inr (3, [.null, .null, .null, .null, .null, .null, .null, .null, .int 0]))) 22 (.inl (0, 64, .inl fun _ => 0))) 21 (.inr (3, [.ref 22, .null, .null, .null, .null, .null, .null, .null, .int 0]))) 23 (.inl (0, 64, .inl fun _ => 0))) 21 (.inr (3, [.ref 22, .ref 23, .null, .null, .null, .null, .null, .null, .int 0]))) 24 (.inl (0, 64, .inl fun _ => 0))) 21 (.inr (3, [.ref 22, .ref 23, .ref 24, .null, .null, .null, .null, .null, .int 0]))) 25 (.inl (0, 64, .inl fun _ => 0))) 21 (.inr (3, [.ref 22, .ref 23, .ref 24, .ref 25, .null, .null, .null, .null, .int 0]))) 26 (.inl (0, 64, .inl fun _ => 0))) 21 (.inr (3, [.ref 22, .ref 23, .ref 24, .ref 25, .ref 26, .null, .null, .null, .int 0]))) 27 (.inl (0, 64, .inl fun _ => 0))) 21 (.inr (3, [.ref 22, .ref 23, .ref 24, .ref 25, .ref 26, .ref 27, .null, .null, .int 0]))) 28 (.inl (0, 64, .inl fun _ => 0))) 21 (.inr (3, [.ref 22, .ref 23, .ref 24, .ref 25, .ref 26, .ref 27, .ref 28, .null, .int 0]))) 29 (.inl (0, 64, .inl fun _ => 0))) 21 (.inr (3, [.ref 22, .ref 23, .ref 24, .ref 25, .ref 26, .ref 27, .ref 28, .ref 29, .int 0]))) 21 (.inr (3, [.ref 22, .ref 23, .ref 24, .ref 25, .ref 26, .ref 27, .ref 28, .ref 29, .int 0])), ?_, ?_, ?_⟩
  · refine ev_hp (μ' := (21, va_up f 21 (.inr (3, [.null, .null, .null, .null, .null, .null, .null, .null, .int 0])), nc + 0, ns + 0)) (congrArg (fun z => ((21 : Nat), z, nc + 0, ns + 0)) (va_up_of h21)) ?_
    refine ev_h (i := .aload_n 0) (len := 1) rfl rfl rfl ?_
    refine ev_obj (d := d + 0) rfl rfl rfl rfl ?_
    refine ev_h (i := .aload_n 0) (len := 1) rfl rfl rfl ?_
    refine ev_h (i := .bipush 64) (len := 2) rfl rfl rfl ?_
    refine ev_h (i := .newarray .int) (len := 2) rfl rfl rfl ?_
    refine ev_h (i := .putfield 9) (len := 3) rfl rfl rfl ?_
    refine ev_h (i := .aload_n 0) (len := 1) rfl rfl rfl ?_
    refine ev_h (i := .bipush 64) (len := 2) rfl rfl rfl ?_
    refine ev_h (i := .newarray .int) (len := 2) rfl rfl rfl ?_
    refine ev_h (i := .putfield 15) (len := 3) rfl rfl rfl ?_
    refine ev_h (i := .aload_n 0) (len := 1) rfl rfl rfl ?_
    refine ev_h (i := .bipush 64) (len := 2) rfl rfl rfl ?_
    refine ev_h (i := .newarray .int) (len := 2) rfl rfl rfl ?_
    refine ev_h (i := .putfield 18) (len := 3) rfl rfl rfl ?_
    refine ev_h (i := .aload_n 0) (len := 1) rfl rfl rfl ?_
    refine ev_h (i := .bipush 64) (len := 2) rfl rfl rfl ?_
    refine ev_h (i := .newarray .int) (len := 2) rfl rfl rfl ?_
    refine ev_h (i := .putfield 21) (len := 3) rfl rfl rfl ?_
    refine ev_h (i := .aload_n 0) (len := 1) rfl rfl rfl ?_
    refine ev_h (i := .bipush 64) (len := 2) rfl rfl rfl ?_
    refine ev_h (i := .newarray .int) (len := 2) rfl rfl rfl ?_
    refine ev_h (i := .putfield 24) (len := 3) rfl rfl rfl ?_
    refine ev_h (i := .aload_n 0) (len := 1) rfl rfl rfl ?_
    refine ev_h (i := .bipush 64) (len := 2) rfl rfl rfl ?_
    refine ev_h (i := .newarray .int) (len := 2) rfl rfl rfl ?_
    refine ev_h (i := .putfield 27) (len := 3) rfl rfl rfl ?_
    refine ev_h (i := .aload_n 0) (len := 1) rfl rfl rfl ?_
    refine ev_h (i := .bipush 64) (len := 2) rfl rfl rfl ?_
    refine ev_h (i := .newarray .int) (len := 2) rfl rfl rfl ?_
    refine ev_h (i := .putfield 30) (len := 3) rfl rfl rfl ?_
    refine ev_h (i := .aload_n 0) (len := 1) rfl rfl rfl ?_
    refine ev_h (i := .bipush 64) (len := 2) rfl rfl rfl ?_
    refine ev_h (i := .newarray .int) (len := 2) rfl rfl rfl ?_
    refine ev_h (i := .putfield 33) (len := 3) rfl rfl rfl ?_
    refine ev_h (i := .aload_n 0) (len := 1) rfl rfl rfl ?_
    refine ev_h (i := .iconst 0) (len := 1) rfl rfl rfl ?_
    refine ev_h (i := .putfield 36) (len := 3) rfl rfl rfl ?_
    exact ev_vret rfl rfl rfl
  · exact ⟨rfl, rfl, rfl, rfl, rfl, rfl, rfl, rfl, rfl⟩
  · intro b q21 q22 q23 q24 q25 q26 q27 q28 q29
    rw [va_up_ne _ _ q21]
    rw [va_up_ne _ _ q21]
    rw [va_up_ne _ _ q29]
    rw [va_up_ne _ _ q21]
    rw [va_up_ne _ _ q28]
    rw [va_up_ne _ _ q21]
    rw [va_up_ne _ _ q27]
    rw [va_up_ne _ _ q21]
    rw [va_up_ne _ _ q26]
    rw [va_up_ne _ _ q21]
    rw [va_up_ne _ _ q25]
    rw [va_up_ne _ _ q21]
    rw [va_up_ne _ _ q24]
    rw [va_up_ne _ _ q21]
    rw [va_up_ne _ _ q23]
    rw [va_up_ne _ _ q21]
    rw [va_up_ne _ _ q22]
    rw [va_up_ne _ _ q21]
/-- GameText$Text.<init>()V, cell 20 -/
theorem ct_5 {d : Nat} {f : Nat → va_E} {nc ns : Nat} (h20 : f 20 = .inr (2, [.null, .null, .null, .null, .null, .null, .null, .int 0, .int 0, .int 0, .int 0, .int 0])) : ∃ f1 : Nat → va_E, vz_ev P0 (d + 2) 3 0 (lv_args 0 [.ref 20]) [] (20, f, nc, ns) (.inl none, (35, f1, nc + 15, ns + 689)) ∧ (f1 20 = .inr (2, [.ref 21, .ref 30, .ref 31, .ref 32, .ref 33, .ref 34, .ref 35, .int 0, .int 0, .int 0, .int 0, .int (-1)]) ∧ f1 21 = .inr (3, [.ref 22, .ref 23, .ref 24, .ref 25, .ref 26, .ref 27, .ref 28, .ref 29, .int 0]) ∧ f1 22 = .inl (0, 64, .inl fun _ => 0) ∧ f1 23 = .inl (0, 64, .inl fun _ => 0) ∧ f1 24 = .inl (0, 64, .inl fun _ => 0) ∧ f1 25 = .inl (0, 64, .inl fun _ => 0) ∧ f1 26 = .inl (0, 64, .inl fun _ => 0) ∧ f1 27 = .inl (0, 64, .inl fun _ => 0) ∧ f1 28 = .inl (0, 64, .inl fun _ => 0) ∧ f1 29 = .inl (0, 64, .inl fun _ => 0) ∧ f1 30 = .inl (0, 12, .inl fun _ => 0) ∧ f1 31 = .inl (0, 12, .inl fun _ => 0) ∧ f1 32 = .inl (0, 12, .inl fun _ => 0) ∧ f1 33 = .inl (0, 12, .inl fun _ => 0) ∧ f1 34 = .inl (0, 60, .inl fun _ => 0) ∧ f1 35 = .inl (0, 60, .inl fun _ => 0)) ∧ ∀ b, b ≠ 20 → b ≠ 21 → b ≠ 22 → b ≠ 23 → b ≠ 24 → b ≠ 25 → b ≠ 26 → b ≠ 27 → b ≠ 28 → b ≠ 29 → b ≠ 30 → b ≠ 31 → b ≠ 32 → b ≠ 33 → b ≠ 34 → b ≠ 35 → f1 b = f b := by
  obtain ⟨f_1, v_1, ⟨k_1_21, k_1_22, k_1_23, k_1_24, k_1_25, k_1_26, k_1_27, k_1_28, k_1_29⟩, w_1⟩ := ct_4 (d := d + 0) (f := va_up f 21 (.inr (3, [.null, .null, .null, .null, .null, .null, .null, .null, .int 0]))) (nc := nc + 1) (ns := ns + 9) rfl
  refine ⟨va_up (va_up (va_up (va_up (va_up (va_up (va_up (va_up (va_up (va_up (va_up (va_up (va_up (va_up (va_up (va_up (va_up (va_up (va_up f_1 20 (.inr (2, [.null, .null, .null, .null, .null, .null, .null, .int 0, .int 0, .int 0, .int 0, .int 0]))) 20 (.inr (2, [.ref 21, .null, .null, .null, .null, .null, .null, .int 0, .int 0, .int 0, .int 0, .int 0]))) 30 (.inl (0, 12, .inl fun _ => 0))) 20 (.inr (2, [.ref 21, .ref 30, .null, .null, .null, .null, .null, .int 0, .int 0, .int 0, .int 0, .int 0]))) 31 (.inl (0, 12, .inl fun _ => 0))) 20 (.inr (2, [.ref 21, .ref 30, .ref 31, .null, .null, .null, .null, .int 0, .int 0, .int 0, .int 0, .int 0]))) 32 (.inl (0, 12, .inl fun _ => 0))) 20 (.inr (2, [.ref 21, .ref 30, .ref 31, .ref 32, .null, .null, .null, .int 0, .int 0, .int 0, .int 0, .int 0]))) 33 (.inl (0, 12, .inl fun _ => 0))) 20 (.inr (2, [.ref 21, .ref 30, .ref 31, .ref 32, .ref 33, .null, .null, .int 0, .int 0, .int 0, .int 0, .int 0]))) 34 (.inl (0, 60, .inl fun _ => 0))) 20 (.inr (2, [.ref 21, .ref 30, .ref 31, .ref 32, .ref 33, .ref 34, .null, .int 0, .int 0, .int 0, .int 0, .int 0]))) 35 (.inl (0, 60, .inl fun _ => 0))) 20 (.inr (2, [.ref 21, .ref 30, .ref 31, .ref 32, .ref 33, .ref 34, .ref 35, .int 0, .int 0, .int 0, .int 0, .int 0]))) 20 (.inr (2, [.ref 21, .ref 30, .ref 31, .ref 32, .ref 33, .ref 34, .ref 35, .int 0, .int 0, .int 0, .int 0, .int 0]))) 20 (.inr (2, [.ref 21, .ref 30, .ref 31, .ref 32, .ref 33, .ref 34, .ref 35, .int 0, .int 0, .int 0, .int 0, .int 0]))) 20 (.inr (2, [.ref 21, .ref 30, .ref 31, .ref 32, .ref 33, .ref 34, .ref 35, .int 0, .int 0, .int 0, .int 0, .int 0]))) 20 (.inr (2, [.ref 21, .ref 30, .ref 31, .ref 32, .ref 33, .ref 34, .ref 35, .int 0, .int 0, .int 0, .int 0, .int 0]))) 20 (.inr (2, [.ref 21, .ref 30, .ref 31, .ref 32, .ref 33, .ref 34, .ref 35, .int 0, .int 0, .int 0, .int 0, .int (-1)])), ?_, ?_, ?_⟩
  · refine ev_h (i := .aload_n 0) (len := 1) rfl rfl rfl ?_
    refine ev_obj (d := d + 1) rfl rfl rfl rfl ?_
    refine ev_h (i := .aload_n 0) (len := 1) rfl rfl rfl ?_
    refine ev_h (i := .new 9) (len := 3) rfl rfl rfl ?_
    refine ev_h (i := .dup) (len := 1) rfl rfl rfl ?_
    refine ev_callI (d := d + 1) (As := []) (a := 21) rfl rfl rfl rfl rfl rfl rfl rfl v_1 ?_
    refine ev_hp (μ' := (29, va_up f_1 20 (.inr (2, [.null, .null, .null, .null, .null, .null, .null, .int 0, .int 0, .int 0, .int 0, .int 0])), nc + 9, ns + 521)) (congrArg (fun z => ((29 : Nat), z, nc + 9, ns + 521)) (va_up_of ((w_1 20 (by decide) (by decide) (by decide) (by decide) (by decide) (by decide) (by decide) (by decide) (by decide)).trans (by show f 20 = _; exact h20)))) ?_
    refine ev_h (i := .putfield 12) (len := 3) rfl rfl rfl ?_
    refine ev_h (i := .aload_n 0) (len := 1) rfl rfl rfl ?_
    refine ev_h (i := .bipush 12) (len := 2) rfl rfl rfl ?_
    refine ev_h (i := .newarray .int) (len := 2) rfl rfl rfl ?_
    refine ev_h (i := .putfield 18) (len := 3) rfl rfl rfl ?_
    refine ev_h (i := .aload_n 0) (len := 1) rfl rfl rfl ?_
    refine ev_h (i := .bipush 12) (len := 2) rfl rfl rfl ?_
    refine ev_h (i := .newarray .int) (len := 2) rfl rfl rfl ?_
    refine ev_h (i := .putfield 22) (len := 3) rfl rfl rfl ?_
    refine ev_h (i := .aload_n 0) (len := 1) rfl rfl rfl ?_
    refine ev_h (i := .bipush 12) (len := 2) rfl rfl rfl ?_
    refine ev_h (i := .newarray .int) (len := 2) rfl rfl rfl ?_
    refine ev_h (i := .putfield 25) (len := 3) rfl rfl rfl ?_
    refine ev_h (i := .aload_n 0) (len := 1) rfl rfl rfl ?_
    refine ev_h (i := .bipush 12) (len := 2) rfl rfl rfl ?_
    refine ev_h (i := .newarray .int) (len := 2) rfl rfl rfl ?_
    refine ev_h (i := .putfield 28) (len := 3) rfl rfl rfl ?_
    refine ev_h (i := .aload_n 0) (len := 1) rfl rfl rfl ?_
    refine ev_h (i := .bipush 60) (len := 2) rfl rfl rfl ?_
    refine ev_h (i := .newarray .int) (len := 2) rfl rfl rfl ?_
    refine ev_h (i := .putfield 31) (len := 3) rfl rfl rfl ?_
    refine ev_h (i := .aload_n 0) (len := 1) rfl rfl rfl ?_
    refine ev_h (i := .bipush 60) (len := 2) rfl rfl rfl ?_
    refine ev_h (i := .newarray .int) (len := 2) rfl rfl rfl ?_
    refine ev_h (i := .putfield 34) (len := 3) rfl rfl rfl ?_
    refine ev_h (i := .aload_n 0) (len := 1) rfl rfl rfl ?_
    refine ev_h (i := .iconst 0) (len := 1) rfl rfl rfl ?_
    refine ev_h (i := .putfield 37) (len := 3) rfl rfl rfl ?_
    refine ev_h (i := .aload_n 0) (len := 1) rfl rfl rfl ?_
    refine ev_h (i := .iconst 0) (len := 1) rfl rfl rfl ?_
    refine ev_h (i := .putfield 41) (len := 3) rfl rfl rfl ?_
    refine ev_h (i := .aload_n 0) (len := 1) rfl rfl rfl ?_
    refine ev_h (i := .iconst 0) (len := 1) rfl rfl rfl ?_
    refine ev_h (i := .putfield 44) (len := 3) rfl rfl rfl ?_
    refine ev_h (i := .aload_n 0) (len := 1) rfl rfl rfl ?_
    refine ev_h (i := .iconst 0) (len := 1) rfl rfl rfl ?_
    refine ev_h (i := .putfield 47) (len := 3) rfl rfl rfl ?_
    refine ev_h (i := .aload_n 0) (len := 1) rfl rfl rfl ?_
    refine ev_h (i := .iconst (-1)) (len := 1) rfl rfl rfl ?_
    refine ev_h (i := .putfield 50) (len := 3) rfl rfl rfl ?_
    exact ev_vret rfl rfl rfl
  · exact ⟨rfl, (by show f_1 21 = _; exact k_1_21), (by show f_1 22 = _; exact k_1_22), (by show f_1 23 = _; exact k_1_23), (by show f_1 24 = _; exact k_1_24), (by show f_1 25 = _; exact k_1_25), (by show f_1 26 = _; exact k_1_26), (by show f_1 27 = _; exact k_1_27), (by show f_1 28 = _; exact k_1_28), (by show f_1 29 = _; exact k_1_29), rfl, rfl, rfl, rfl, rfl, rfl⟩
  · intro b q20 q21 q22 q23 q24 q25 q26 q27 q28 q29 q30 q31 q32 q33 q34 q35
    rw [va_up_ne _ _ q20]
    rw [va_up_ne _ _ q20]
    rw [va_up_ne _ _ q20]
    rw [va_up_ne _ _ q20]
    rw [va_up_ne _ _ q20]
    rw [va_up_ne _ _ q20]
    rw [va_up_ne _ _ q35]
    rw [va_up_ne _ _ q20]
    rw [va_up_ne _ _ q34]
    rw [va_up_ne _ _ q20]
    rw [va_up_ne _ _ q33]
    rw [va_up_ne _ _ q20]
    rw [va_up_ne _ _ q32]
    rw [va_up_ne _ _ q20]
    rw [va_up_ne _ _ q31]
    rw [va_up_ne _ _ q20]
    rw [va_up_ne _ _ q30]
    rw [va_up_ne _ _ q20]
    rw [va_up_ne _ _ q20]
    rw [w_1 b q21 q22 q23 q24 q25 q26 q27 q28 q29]
    rw [va_up_ne _ _ q21]
/-- GameText$Parser.<init>(LGameText$Words;LGameText$Code;)V, cell 36 -/
theorem ct_6 {d : Nat} {f : Nat → va_E} {nc ns : Nat} (h36 : f 36 = .inr (4, [.null, .null, .null, .null, .null, .null, .int 0, .null, .int 0, .int 0, .int 0, .int 0, .int 0, .int 0, .int 0, .int 0, .int 0])) : ∃ f1 : Nat → va_E, vz_ev P0 (d + 1) 5 0 (lv_args 0 [.ref 36, .ref 2, .ref 21]) [] (36, f, nc, ns) (.inl none, (41, f1, nc + 5, ns + 1280)) ∧ (f1 36 = .inr (4, [.ref 2, .ref 37, .ref 38, .ref 39, .ref 40, .ref 41, .int 0, .ref 21, .int 0, .int 0, .int (-1), .int 0, .int 0, .int 0, .int 0, .int 0, .int 0]) ∧ f1 37 = .inl (0, 256, .inl fun _ => 0) ∧ f1 38 = .inl (0, 256, .inl fun _ => 0) ∧ f1 39 = .inl (0, 256, .inl fun _ => 0) ∧ f1 40 = .inl (0, 256, .inl fun _ => 0) ∧ f1 41 = .inl (0, 256, .inl fun _ => 0)) ∧ ∀ b, b ≠ 36 → b ≠ 37 → b ≠ 38 → b ≠ 39 → b ≠ 40 → b ≠ 41 → f1 b = f b := by
  refine ⟨va_up (va_up (va_up (va_up (va_up (va_up (va_up (va_up (va_up (va_up (va_up (va_up (va_up (va_up (va_up (va_up (va_up (va_up (va_up (va_up (va_up (va_up (va_up f 36 (.inr (4, [.null, .null, .null, .null, .null, .null, .int 0, .null, .int 0, .int 0, .int 0, .int 0, .int 0, .int 0, .int 0, .int 0, .int 0]))) 36 (.inr (4, [.ref 2, .null, .null, .null, .null, .null, .int 0, .null, .int 0, .int 0, .int 0, .int 0, .int 0, .int 0, .int 0, .int 0, .int 0]))) 37 (.inl (0, 256, .inl fun _ => 0))) 36 (.inr (4, [.ref 2, .ref 37, .null, .null, .null, .null, .int 0, .null, .int 0, .int 0, .int 0, .int 0, .int 0, .int 0, .int 0, .int 0, .int 0]))) 38 (.inl (0, 256, .inl fun _ => 0))) 36 (.inr (4, [.ref 2, .ref 37, .ref 38, .null, .null, .null, .int 0, .null, .int 0, .int 0, .int 0, .int 0, .int 0, .int 0, .int 0, .int 0, .int 0]))) 39 (.inl (0, 256, .inl fun _ => 0))) 36 (.inr (4, [.ref 2, .ref 37, .ref 38, .ref 39, .null, .null, .int 0, .null, .int 0, .int 0, .int 0, .int 0, .int 0, .int 0, .int 0, .int 0, .int 0]))) 40 (.inl (0, 256, .inl fun _ => 0))) 36 (.inr (4, [.ref 2, .ref 37, .ref 38, .ref 39, .ref 40, .null, .int 0, .null, .int 0, .int 0, .int 0, .int 0, .int 0, .int 0, .int 0, .int 0, .int 0]))) 41 (.inl (0, 256, .inl fun _ => 0))) 36 (.inr (4, [.ref 2, .ref 37, .ref 38, .ref 39, .ref 40, .ref 41, .int 0, .null, .int 0, .int 0, .int 0, .int 0, .int 0, .int 0, .int 0, .int 0, .int 0]))) 36 (.inr (4, [.ref 2, .ref 37, .ref 38, .ref 39, .ref 40, .ref 41, .int 0, .null, .int 0, .int 0, .int 0, .int 0, .int 0, .int 0, .int 0, .int 0, .int 0]))) 36 (.inr (4, [.ref 2, .ref 37, .ref 38, .ref 39, .ref 40, .ref 41, .int 0, .ref 21, .int 0, .int 0, .int 0, .int 0, .int 0, .int 0, .int 0, .int 0, .int 0]))) 36 (.inr (4, [.ref 2, .ref 37, .ref 38, .ref 39, .ref 40, .ref 41, .int 0, .ref 21, .int 0, .int 0, .int 0, .int 0, .int 0, .int 0, .int 0, .int 0, .int 0]))) 36 (.inr (4, [.ref 2, .ref 37, .ref 38, .ref 39, .ref 40, .ref 41, .int 0, .ref 21, .int 0, .int 0, .int 0, .int 0, .int 0, .int 0, .int 0, .int 0, .int 0]))) 36 (.inr (4, [.ref 2, .ref 37, .ref 38, .ref 39, .ref 40, .ref 41, .int 0, .ref 21, .int 0, .int 0, .int (-1), .int 0, .int 0, .int 0, .int 0, .int 0, .int 0]))) 36 (.inr (4, [.ref 2, .ref 37, .ref 38, .ref 39, .ref 40, .ref 41, .int 0, .ref 21, .int 0, .int 0, .int (-1), .int 0, .int 0, .int 0, .int 0, .int 0, .int 0]))) 36 (.inr (4, [.ref 2, .ref 37, .ref 38, .ref 39, .ref 40, .ref 41, .int 0, .ref 21, .int 0, .int 0, .int (-1), .int 0, .int 0, .int 0, .int 0, .int 0, .int 0]))) 36 (.inr (4, [.ref 2, .ref 37, .ref 38, .ref 39, .ref 40, .ref 41, .int 0, .ref 21, .int 0, .int 0, .int (-1), .int 0, .int 0, .int 0, .int 0, .int 0, .int 0]))) 36 (.inr (4, [.ref 2, .ref 37, .ref 38, .ref 39, .ref 40, .ref 41, .int 0, .ref 21, .int 0, .int 0, .int (-1), .int 0, .int 0, .int 0, .int 0, .int 0, .int 0]))) 36 (.inr (4, [.ref 2, .ref 37, .ref 38, .ref 39, .ref 40, .ref 41, .int 0, .ref 21, .int 0, .int 0, .int (-1), .int 0, .int 0, .int 0, .int 0, .int 0, .int 0]))) 36 (.inr (4, [.ref 2, .ref 37, .ref 38, .ref 39, .ref 40, .ref 41, .int 0, .ref 21, .int 0, .int 0, .int (-1), .int 0, .int 0, .int 0, .int 0, .int 0, .int 0])), ?_, ?_, ?_⟩
  · refine ev_hp (μ' := (36, va_up f 36 (.inr (4, [.null, .null, .null, .null, .null, .null, .int 0, .null, .int 0, .int 0, .int 0, .int 0, .int 0, .int 0, .int 0, .int 0, .int 0])), nc + 0, ns + 0)) (congrArg (fun z => ((36 : Nat), z, nc + 0, ns + 0)) (va_up_of h36)) ?_
    refine ev_h (i := .aload_n 0) (len := 1) rfl rfl rfl ?_
    refine ev_obj (d := d + 0) rfl rfl rfl rfl ?_
    refine ev_h (i := .aload_n 0) (len := 1) rfl rfl rfl ?_
    refine ev_h (i := .aload_n 1) (len := 1) rfl rfl rfl ?_
    refine ev_h (i := .putfield 9) (len := 3) rfl rfl rfl ?_
    refine ev_h (i := .aload_n 0) (len := 1) rfl rfl rfl ?_
    refine ev_h (i := .sipush 256) (len := 3) rfl rfl rfl ?_
    refine ev_h (i := .newarray .int) (len := 2) rfl rfl rfl ?_
    refine ev_h (i := .putfield 15) (len := 3) rfl rfl rfl ?_
    refine ev_h (i := .aload_n 0) (len := 1) rfl rfl rfl ?_
    refine ev_h (i := .sipush 256) (len := 3) rfl rfl rfl ?_
    refine ev_h (i := .newarray .int) (len := 2) rfl rfl rfl ?_
    refine ev_h (i := .putfield 19) (len := 3) rfl rfl rfl ?_
    refine ev_h (i := .aload_n 0) (len := 1) rfl rfl rfl ?_
    refine ev_h (i := .sipush 256) (len := 3) rfl rfl rfl ?_
    refine ev_h (i := .newarray .int) (len := 2) rfl rfl rfl ?_
    refine ev_h (i := .putfield 22) (len := 3) rfl rfl rfl ?_
    refine ev_h (i := .aload_n 0) (len := 1) rfl rfl rfl ?_
    refine ev_h (i := .sipush 256) (len := 3) rfl rfl rfl ?_
    refine ev_h (i := .newarray .int) (len := 2) rfl rfl rfl ?_
    refine ev_h (i := .putfield 25) (len := 3) rfl rfl rfl ?_
    refine ev_h (i := .aload_n 0) (len := 1) rfl rfl rfl ?_
    refine ev_h (i := .sipush 256) (len := 3) rfl rfl rfl ?_
    refine ev_h (i := .newarray .int) (len := 2) rfl rfl rfl ?_
    refine ev_h (i := .putfield 28) (len := 3) rfl rfl rfl ?_
    refine ev_h (i := .aload_n 0) (len := 1) rfl rfl rfl ?_
    refine ev_h (i := .iconst 0) (len := 1) rfl rfl rfl ?_
    refine ev_h (i := .putfield 31) (len := 3) rfl rfl rfl ?_
    refine ev_h (i := .aload_n 0) (len := 1) rfl rfl rfl ?_
    refine ev_h (i := .aload_n 2) (len := 1) rfl rfl rfl ?_
    refine ev_h (i := .putfield 35) (len := 3) rfl rfl rfl ?_
    refine ev_h (i := .aload_n 0) (len := 1) rfl rfl rfl ?_
    refine ev_h (i := .iconst 0) (len := 1) rfl rfl rfl ?_
    refine ev_h (i := .putfield 39) (len := 3) rfl rfl rfl ?_
    refine ev_h (i := .aload_n 0) (len := 1) rfl rfl rfl ?_
    refine ev_h (i := .iconst 0) (len := 1) rfl rfl rfl ?_
    refine ev_h (i := .putfield 42) (len := 3) rfl rfl rfl ?_
    refine ev_h (i := .aload_n 0) (len := 1) rfl rfl rfl ?_
    refine ev_h (i := .iconst (-1)) (len := 1) rfl rfl rfl ?_
    refine ev_h (i := .putfield 45) (len := 3) rfl rfl rfl ?_
    refine ev_h (i := .aload_n 0) (len := 1) rfl rfl rfl ?_
    refine ev_h (i := .iconst 0) (len := 1) rfl rfl rfl ?_
    refine ev_h (i := .putfield 48) (len := 3) rfl rfl rfl ?_
    refine ev_h (i := .aload_n 0) (len := 1) rfl rfl rfl ?_
    refine ev_h (i := .iconst 0) (len := 1) rfl rfl rfl ?_
    refine ev_h (i := .putfield 51) (len := 3) rfl rfl rfl ?_
    refine ev_h (i := .aload_n 0) (len := 1) rfl rfl rfl ?_
    refine ev_h (i := .iconst 0) (len := 1) rfl rfl rfl ?_
    refine ev_h (i := .putfield 54) (len := 3) rfl rfl rfl ?_
    refine ev_h (i := .aload_n 0) (len := 1) rfl rfl rfl ?_
    refine ev_h (i := .iconst 0) (len := 1) rfl rfl rfl ?_
    refine ev_h (i := .putfield 57) (len := 3) rfl rfl rfl ?_
    refine ev_h (i := .aload_n 0) (len := 1) rfl rfl rfl ?_
    refine ev_h (i := .iconst 0) (len := 1) rfl rfl rfl ?_
    refine ev_h (i := .putfield 60) (len := 3) rfl rfl rfl ?_
    refine ev_h (i := .aload_n 0) (len := 1) rfl rfl rfl ?_
    refine ev_h (i := .iconst 0) (len := 1) rfl rfl rfl ?_
    refine ev_h (i := .putfield 63) (len := 3) rfl rfl rfl ?_
    exact ev_vret rfl rfl rfl
  · exact ⟨rfl, rfl, rfl, rfl, rfl, rfl⟩
  · intro b q36 q37 q38 q39 q40 q41
    rw [va_up_ne _ _ q36]
    rw [va_up_ne _ _ q36]
    rw [va_up_ne _ _ q36]
    rw [va_up_ne _ _ q36]
    rw [va_up_ne _ _ q36]
    rw [va_up_ne _ _ q36]
    rw [va_up_ne _ _ q36]
    rw [va_up_ne _ _ q36]
    rw [va_up_ne _ _ q36]
    rw [va_up_ne _ _ q36]
    rw [va_up_ne _ _ q36]
    rw [va_up_ne _ _ q36]
    rw [va_up_ne _ _ q41]
    rw [va_up_ne _ _ q36]
    rw [va_up_ne _ _ q40]
    rw [va_up_ne _ _ q36]
    rw [va_up_ne _ _ q39]
    rw [va_up_ne _ _ q36]
    rw [va_up_ne _ _ q38]
    rw [va_up_ne _ _ q36]
    rw [va_up_ne _ _ q37]
    rw [va_up_ne _ _ q36]
    rw [va_up_ne _ _ q36]
/-- GameText$Machine.<init>(LGameText$Text;)V, cell 42 -/
theorem ct_7 {d : Nat} {f : Nat → va_E} {nc ns : Nat} (h20 : f 20 = .inr (2, [.ref 21, .ref 30, .ref 31, .ref 32, .ref 33, .ref 34, .ref 35, .int 0, .int 0, .int 0, .int 0, .int (-1)])) (h42 : f 42 = .inr (5, [.null, .null, .null, .null, .null, .int 0, .int 0, .long 0, .long 0])) : ∃ f1 : Nat → va_E, vz_ev P0 (d + 1) 6 0 (lv_args 0 [.ref 42, .ref 20]) [] (42, f, nc, ns) (.inl none, (45, f1, nc + 3, ns + 132)) ∧ (f1 42 = .inr (5, [.ref 43, .ref 44, .ref 45, .ref 20, .ref 21, .int 1, .int (-1), .long 0, .long 1]) ∧ f1 43 = .inl (0, 12, .inl fun _ => 0) ∧ f1 44 = .inl (0, 60, .inl fun _ => 0) ∧ f1 45 = .inl (0, 60, .inl fun _ => 0)) ∧ ∀ b, b ≠ 42 → b ≠ 43 → b ≠ 44 → b ≠ 45 → f1 b = f b := by
  refine ⟨va_up (va_up (va_up (va_up (va_up (va_up (va_up (va_up (va_up (va_up (va_up (va_up (va_up (va_up f 42 (.inr (5, [.null, .null, .null, .null, .null, .int 0, .int 0, .long 0, .long 0]))) 20 (.inr (2, [.ref 21, .ref 30, .ref 31, .ref 32, .ref 33, .ref 34, .ref 35, .int 0, .int 0, .int 0, .int 0, .int (-1)]))) 43 (.inl (0, 12, .inl fun _ => 0))) 42 (.inr (5, [.ref 43, .null, .null, .null, .null, .int 0, .int 0, .long 0, .long 0]))) 44 (.inl (0, 60, .inl fun _ => 0))) 42 (.inr (5, [.ref 43, .ref 44, .null, .null, .null, .int 0, .int 0, .long 0, .long 0]))) 45 (.inl (0, 60, .inl fun _ => 0))) 42 (.inr (5, [.ref 43, .ref 44, .ref 45, .null, .null, .int 0, .int 0, .long 0, .long 0]))) 42 (.inr (5, [.ref 43, .ref 44, .ref 45, .ref 20, .null, .int 0, .int 0, .long 0, .long 0]))) 42 (.inr (5, [.ref 43, .ref 44, .ref 45, .ref 20, .ref 21, .int 0, .int 0, .long 0, .long 0]))) 42 (.inr (5, [.ref 43, .ref 44, .ref 45, .ref 20, .ref 21, .int 1, .int 0, .long 0, .long 0]))) 42 (.inr (5, [.ref 43, .ref 44, .ref 45, .ref 20, .ref 21, .int 1, .int (-1), .long 0, .long 0]))) 42 (.inr (5, [.ref 43, .ref 44, .ref 45, .ref 20, .ref 21, .int 1, .int (-1), .long 0, .long 0]))) 42 (.inr (5, [.ref 43, .ref 44, .ref 45, .ref 20, .ref 21, .int 1, .int (-1), .long 0, .long 1])), ?_, ?_, ?_⟩
  · refine ev_hp (μ' := (42, va_up f 42 (.inr (5, [.null, .null, .null, .null, .null, .int 0, .int 0, .long 0, .long 0])), nc + 0, ns + 0)) (congrArg (fun z => ((42 : Nat), z, nc + 0, ns + 0)) (va_up_of h42)) ?_
    refine ev_hp (μ' := (42, va_up (va_up f 42 (.inr (5, [.null, .null, .null, .null, .null, .int 0, .int 0, .long 0, .long 0]))) 20 (.inr (2, [.ref 21, .ref 30, .ref 31, .ref 32, .ref 33, .ref 34, .ref 35, .int 0, .int 0, .int 0, .int 0, .int (-1)])), nc + 0, ns + 0)) (congrArg (fun z => ((42 : Nat), z, nc + 0, ns + 0)) (va_up_of (show (va_up f 42 (.inr (5, [.null, .null, .null, .null, .null, .int 0, .int 0, .long 0, .long 0]))) 20 = _ from h20))) ?_
    refine ev_h (i := .aload_n 0) (len := 1) rfl rfl rfl ?_
    refine ev_obj (d := d + 0) rfl rfl rfl rfl ?_
    refine ev_h (i := .aload_n 0) (len := 1) rfl rfl rfl ?_
    refine ev_h (i := .bipush 12) (len := 2) rfl rfl rfl ?_
    refine ev_h (i := .newarray .int) (len := 2) rfl rfl rfl ?_
    refine ev_h (i := .putfield 9) (len := 3) rfl rfl rfl ?_
    refine ev_h (i := .aload_n 0) (len := 1) rfl rfl rfl ?_
    refine ev_h (i := .bipush 60) (len := 2) rfl rfl rfl ?_
    refine ev_h (i := .newarray .int) (len := 2) rfl rfl rfl ?_
    refine ev_h (i := .putfield 15) (len := 3) rfl rfl rfl ?_
    refine ev_h (i := .aload_n 0) (len := 1) rfl rfl rfl ?_
    refine ev_h (i := .bipush 60) (len := 2) rfl rfl rfl ?_
    refine ev_h (i := .newarray .int) (len := 2) rfl rfl rfl ?_
    refine ev_h (i := .putfield 18) (len := 3) rfl rfl rfl ?_
    refine ev_h (i := .aload_n 0) (len := 1) rfl rfl rfl ?_
    refine ev_h (i := .aload_n 1) (len := 1) rfl rfl rfl ?_
    refine ev_h (i := .putfield 21) (len := 3) rfl rfl rfl ?_
    refine ev_h (i := .aload_n 0) (len := 1) rfl rfl rfl ?_
    refine ev_h (i := .aload_n 1) (len := 1) rfl rfl rfl ?_
    refine ev_h (i := .getfield 25) (len := 3) rfl rfl rfl ?_
    refine ev_h (i := .putfield 31) (len := 3) rfl rfl rfl ?_
    refine ev_h (i := .aload_n 0) (len := 1) rfl rfl rfl ?_
    refine ev_h (i := .iconst 1) (len := 1) rfl rfl rfl ?_
    refine ev_h (i := .putfield 32) (len := 3) rfl rfl rfl ?_
    refine ev_h (i := .aload_n 0) (len := 1) rfl rfl rfl ?_
    refine ev_h (i := .iconst (-1)) (len := 1) rfl rfl rfl ?_
    refine ev_h (i := .putfield 36) (len := 3) rfl rfl rfl ?_
    refine ev_h (i := .aload_n 0) (len := 1) rfl rfl rfl ?_
    refine ev_h (i := .lconst 0) (len := 1) rfl rfl rfl ?_
    refine ev_h (i := .putfield 39) (len := 3) rfl rfl rfl ?_
    refine ev_h (i := .aload_n 0) (len := 1) rfl rfl rfl ?_
    refine ev_h (i := .lconst 1) (len := 1) rfl rfl rfl ?_
    refine ev_h (i := .putfield 43) (len := 3) rfl rfl rfl ?_
    exact ev_vret rfl rfl rfl
  · exact ⟨rfl, rfl, rfl, rfl⟩
  · intro b q42 q43 q44 q45
    rw [va_up_ne _ _ q42]
    rw [va_up_ne _ _ q42]
    rw [va_up_ne _ _ q42]
    rw [va_up_ne _ _ q42]
    rw [va_up_ne _ _ q42]
    rw [va_up_ne _ _ q42]
    rw [va_up_ne _ _ q42]
    rw [va_up_ne _ _ q45]
    rw [va_up_ne _ _ q42]
    rw [va_up_ne _ _ q44]
    rw [va_up_ne _ _ q42]
    rw [va_up_ne _ _ q43]
    rw [← va_up_of h20]
    rw [va_up_ne _ _ q42]
/-- GameText$Names.<init>(LGameText$Words;)V, cell 47 -/
theorem ct_8 {d : Nat} {f : Nat → va_E} {nc ns : Nat} (h47 : f 47 = .inr (7, [.null, .null, .null, .null, .null, .int 0])) : ∃ f1 : Nat → va_E, vz_ev P0 (d + 1) 8 0 (lv_args 0 [.ref 47, .ref 2]) [] (47, f, nc, ns) (.inl none, (51, f1, nc + 4, ns + 288)) ∧ (f1 47 = .inr (7, [.ref 2, .ref 48, .ref 49, .ref 50, .ref 51, .int 0]) ∧ f1 48 = .inl (0, 72, .inl fun _ => 0) ∧ f1 49 = .inl (0, 72, .inl fun _ => 0) ∧ f1 50 = .inl (0, 72, .inl fun _ => 0) ∧ f1 51 = .inl (0, 72, .inl fun _ => 0)) ∧ ∀ b, b ≠ 47 → b ≠ 48 → b ≠ 49 → b ≠ 50 → b ≠ 51 → f1 b = f b := by
  refine ⟨va_up (va_up (va_up (va_up (va_up (va_up (va_up (va_up (va_up (va_up (va_up f 47 (.inr (7, [.null, .null, .null, .null, .null, .int 0]))) 47 (.inr (7, [.ref 2, .null, .null, .null, .null, .int 0]))) 48 (.inl (0, 72, .inl fun _ => 0))) 47 (.inr (7, [.ref 2, .ref 48, .null, .null, .null, .int 0]))) 49 (.inl (0, 72, .inl fun _ => 0))) 47 (.inr (7, [.ref 2, .ref 48, .ref 49, .null, .null, .int 0]))) 50 (.inl (0, 72, .inl fun _ => 0))) 47 (.inr (7, [.ref 2, .ref 48, .ref 49, .ref 50, .null, .int 0]))) 51 (.inl (0, 72, .inl fun _ => 0))) 47 (.inr (7, [.ref 2, .ref 48, .ref 49, .ref 50, .ref 51, .int 0]))) 47 (.inr (7, [.ref 2, .ref 48, .ref 49, .ref 50, .ref 51, .int 0])), ?_, ?_, ?_⟩
  · refine ev_hp (μ' := (47, va_up f 47 (.inr (7, [.null, .null, .null, .null, .null, .int 0])), nc + 0, ns + 0)) (congrArg (fun z => ((47 : Nat), z, nc + 0, ns + 0)) (va_up_of h47)) ?_
    refine ev_h (i := .aload_n 0) (len := 1) rfl rfl rfl ?_
    refine ev_obj (d := d + 0) rfl rfl rfl rfl ?_
    refine ev_h (i := .aload_n 0) (len := 1) rfl rfl rfl ?_
    refine ev_h (i := .aload_n 1) (len := 1) rfl rfl rfl ?_
    refine ev_h (i := .putfield 9) (len := 3) rfl rfl rfl ?_
    refine ev_h (i := .aload_n 0) (len := 1) rfl rfl rfl ?_
    refine ev_h (i := .bipush 72) (len := 2) rfl rfl rfl ?_
    refine ev_h (i := .newarray .int) (len := 2) rfl rfl rfl ?_
    refine ev_h (i := .putfield 15) (len := 3) rfl rfl rfl ?_
    refine ev_h (i := .aload_n 0) (len := 1) rfl rfl rfl ?_
    refine ev_h (i := .bipush 72) (len := 2) rfl rfl rfl ?_
    refine ev_h (i := .newarray .int) (len := 2) rfl rfl rfl ?_
    refine ev_h (i := .putfield 19) (len := 3) rfl rfl rfl ?_
    refine ev_h (i := .aload_n 0) (len := 1) rfl rfl rfl ?_
    refine ev_h (i := .bipush 72) (len := 2) rfl rfl rfl ?_
    refine ev_h (i := .newarray .int) (len := 2) rfl rfl rfl ?_
    refine ev_h (i := .putfield 22) (len := 3) rfl rfl rfl ?_
    refine ev_h (i := .aload_n 0) (len := 1) rfl rfl rfl ?_
    refine ev_h (i := .bipush 72) (len := 2) rfl rfl rfl ?_
    refine ev_h (i := .newarray .int) (len := 2) rfl rfl rfl ?_
    refine ev_h (i := .putfield 25) (len := 3) rfl rfl rfl ?_
    refine ev_h (i := .aload_n 0) (len := 1) rfl rfl rfl ?_
    refine ev_h (i := .iconst 0) (len := 1) rfl rfl rfl ?_
    refine ev_h (i := .putfield 28) (len := 3) rfl rfl rfl ?_
    exact ev_vret rfl rfl rfl
  · exact ⟨rfl, rfl, rfl, rfl, rfl⟩
  · intro b q47 q48 q49 q50 q51
    rw [va_up_ne _ _ q47]
    rw [va_up_ne _ _ q47]
    rw [va_up_ne _ _ q51]
    rw [va_up_ne _ _ q47]
    rw [va_up_ne _ _ q50]
    rw [va_up_ne _ _ q47]
    rw [va_up_ne _ _ q49]
    rw [va_up_ne _ _ q47]
    rw [va_up_ne _ _ q48]
    rw [va_up_ne _ _ q47]
    rw [va_up_ne _ _ q47]
/-- GameText$Checker.<init>(LGameText$Words;LGameText$Machine;LGameText$Text;)V, cell 46 -/
theorem ct_9 {d : Nat} {f : Nat → va_E} {nc ns : Nat} (h20 : f 20 = .inr (2, [.ref 21, .ref 30, .ref 31, .ref 32, .ref 33, .ref 34, .ref 35, .int 0, .int 0, .int 0, .int 0, .int (-1)])) (h46 : f 46 = .inr (6, [.null, .null, .null, .null, .int 0, .int 0, .int 0, .int 0, .int 0, .int 0, .int 0, .int 0, .int 0])) : ∃ f1 : Nat → va_E, vz_ev P0 (d + 2) 7 0 (lv_args 0 [.ref 46, .ref 2, .ref 42, .ref 20]) [] (46, f, nc, ns) (.inl none, (51, f1, nc + 5, ns + 294)) ∧ (f1 46 = .inr (6, [.ref 47, .ref 42, .ref 20, .ref 21, .int (-1), .int 0, .int 0, .int 0, .int 0, .int (-1), .int (-1), .int 0, .int (-1)]) ∧ f1 47 = .inr (7, [.ref 2, .ref 48, .ref 49, .ref 50, .ref 51, .int 0]) ∧ f1 48 = .inl (0, 72, .inl fun _ => 0) ∧ f1 49 = .inl (0, 72, .inl fun _ => 0) ∧ f1 50 = .inl (0, 72, .inl fun _ => 0) ∧ f1 51 = .inl (0, 72, .inl fun _ => 0)) ∧ ∀ b, b ≠ 46 → b ≠ 47 → b ≠ 48 → b ≠ 49 → b ≠ 50 → b ≠ 51 → f1 b = f b := by
  obtain ⟨f_1, v_1, ⟨k_1_47, k_1_48, k_1_49, k_1_50, k_1_51⟩, w_1⟩ := ct_8 (d := d + 0) (f := va_up f 47 (.inr (7, [.null, .null, .null, .null, .null, .int 0]))) (nc := nc + 1) (ns := ns + 6) rfl
  refine ⟨va_up (va_up (va_up (va_up (va_up (va_up (va_up (va_up (va_up (va_up (va_up (va_up (va_up (va_up (va_up f_1 46 (.inr (6, [.null, .null, .null, .null, .int 0, .int 0, .int 0, .int 0, .int 0, .int 0, .int 0, .int 0, .int 0]))) 20 (.inr (2, [.ref 21, .ref 30, .ref 31, .ref 32, .ref 33, .ref 34, .ref 35, .int 0, .int 0, .int 0, .int 0, .int (-1)]))) 46 (.inr (6, [.ref 47, .null, .null, .null, .int 0, .int 0, .int 0, .int 0, .int 0, .int 0, .int 0, .int 0, .int 0]))) 46 (.inr (6, [.ref 47, .ref 42, .null, .null, .int 0, .int 0, .int 0, .int 0, .int 0, .int 0, .int 0, .int 0, .int 0]))) 46 (.inr (6, [.ref 47, .ref 42, .ref 20, .null, .int 0, .int 0, .int 0, .int 0, .int 0, .int 0, .int 0, .int 0, .int 0]))) 46 (.inr (6, [.ref 47, .ref 42, .ref 20, .ref 21, .int 0, .int 0, .int 0, .int 0, .int 0, .int 0, .int 0, .int 0, .int 0]))) 46 (.inr (6, [.ref 47, .ref 42, .ref 20, .ref 21, .int (-1), .int 0, .int 0, .int 0, .int 0, .int 0, .int 0, .int 0, .int 0]))) 46 (.inr (6, [.ref 47, .ref 42, .ref 20, .ref 21, .int (-1), .int 0, .int 0, .int 0, .int 0, .int 0, .int 0, .int 0, .int 0]))) 46 (.inr (6, [.ref 47, .ref 42, .ref 20, .ref 21, .int (-1), .int 0, .int 0, .int 0, .int 0, .int 0, .int 0, .int 0, .int 0]))) 46 (.inr (6, [.ref 47, .ref 42, .ref 20, .ref 21, .int (-1), .int 0, .int 0, .int 0, .int 0, .int 0, .int 0, .int 0, .int 0]))) 46 (.inr (6, [.ref 47, .ref 42, .ref 20, .ref 21, .int (-1), .int 0, .int 0, .int 0, .int 0, .int 0, .int 0, .int 0, .int 0]))) 46 (.inr (6, [.ref 47, .ref 42, .ref 20, .ref 21, .int (-1), .int 0, .int 0, .int 0, .int 0, .int (-1), .int 0, .int 0, .int 0]))) 46 (.inr (6, [.ref 47, .ref 42, .ref 20, .ref 21, .int (-1), .int 0, .int 0, .int 0, .int 0, .int (-1), .int (-1), .int 0, .int 0]))) 46 (.inr (6, [.ref 47, .ref 42, .ref 20, .ref 21, .int (-1), .int 0, .int 0, .int 0, .int 0, .int (-1), .int (-1), .int 0, .int 0]))) 46 (.inr (6, [.ref 47, .ref 42, .ref 20, .ref 21, .int (-1), .int 0, .int 0, .int 0, .int 0, .int (-1), .int (-1), .int 0, .int (-1)])), ?_, ?_, ?_⟩
  · refine ev_h (i := .aload_n 0) (len := 1) rfl rfl rfl ?_
    refine ev_obj (d := d + 1) rfl rfl rfl rfl ?_
    refine ev_h (i := .aload_n 0) (len := 1) rfl rfl rfl ?_
    refine ev_h (i := .new 9) (len := 3) rfl rfl rfl ?_
    refine ev_h (i := .dup) (len := 1) rfl rfl rfl ?_
    refine ev_h (i := .aload_n 1) (len := 1) rfl rfl rfl ?_
    refine ev_callI (d := d + 1) (As := [.ref 2]) (a := 47) rfl rfl rfl rfl rfl rfl rfl rfl v_1 ?_
    refine ev_hp (μ' := (51, va_up f_1 46 (.inr (6, [.null, .null, .null, .null, .int 0, .int 0, .int 0, .int 0, .int 0, .int 0, .int 0, .int 0, .int 0])), nc + 5, ns + 294)) (congrArg (fun z => ((51 : Nat), z, nc + 5, ns + 294)) (va_up_of ((w_1 46 (by decide) (by decide) (by decide) (by decide) (by decide)).trans (by show f 46 = _; exact h46)))) ?_
    refine ev_hp (μ' := (51, va_up (va_up f_1 46 (.inr (6, [.null, .null, .null, .null, .int 0, .int 0, .int 0, .int 0, .int 0, .int 0, .int 0, .int 0, .int 0]))) 20 (.inr (2, [.ref 21, .ref 30, .ref 31, .ref 32, .ref 33, .ref 34, .ref 35, .int 0, .int 0, .int 0, .int 0, .int (-1)])), nc + 5, ns + 294)) (congrArg (fun z => ((51 : Nat), z, nc + 5, ns + 294)) (va_up_of (show (va_up f_1 46 (.inr (6, [.null, .null, .null, .null, .int 0, .int 0, .int 0, .int 0, .int 0, .int 0, .int 0, .int 0, .int 0]))) 20 = _ from ((w_1 20 (by decide) (by decide) (by decide) (by decide) (by decide)).trans (by show f 20 = _; exact h20))))) ?_
    refine ev_h (i := .putfield 14) (len := 3) rfl rfl rfl ?_
    refine ev_h (i := .aload_n 0) (len := 1) rfl rfl rfl ?_
    refine ev_h (i := .aload_n 2) (len := 1) rfl rfl rfl ?_
    refine ev_h (i := .putfield 20) (len := 3) rfl rfl rfl ?_
    refine ev_h (i := .aload_n 0) (len := 1) rfl rfl rfl ?_
    refine ev_h (i := .aload_n 3) (len := 1) rfl rfl rfl ?_
    refine ev_h (i := .putfield 24) (len := 3) rfl rfl rfl ?_
    refine ev_h (i := .aload_n 0) (len := 1) rfl rfl rfl ?_
    refine ev_h (i := .aload_n 3) (len := 1) rfl rfl rfl ?_
    refine ev_h (i := .getfield 28) (len := 3) rfl rfl rfl ?_
    refine ev_h (i := .putfield 34) (len := 3) rfl rfl rfl ?_
    refine ev_h (i := .aload_n 0) (len := 1) rfl rfl rfl ?_
    refine ev_h (i := .iconst (-1)) (len := 1) rfl rfl rfl ?_
    refine ev_h (i := .putfield 35) (len := 3) rfl rfl rfl ?_
    refine ev_h (i := .aload_n 0) (len := 1) rfl rfl rfl ?_
    refine ev_h (i := .iconst 0) (len := 1) rfl rfl rfl ?_
    refine ev_h (i := .putfield 39) (len := 3) rfl rfl rfl ?_
    refine ev_h (i := .aload_n 0) (len := 1) rfl rfl rfl ?_
    refine ev_h (i := .iconst 0) (len := 1) rfl rfl rfl ?_
    refine ev_h (i := .putfield 42) (len := 3) rfl rfl rfl ?_
    refine ev_h (i := .aload_n 0) (len := 1) rfl rfl rfl ?_
    refine ev_h (i := .iconst 0) (len := 1) rfl rfl rfl ?_
    refine ev_h (i := .putfield 45) (len := 3) rfl rfl rfl ?_
    refine ev_h (i := .aload_n 0) (len := 1) rfl rfl rfl ?_
    refine ev_h (i := .iconst 0) (len := 1) rfl rfl rfl ?_
    refine ev_h (i := .putfield 48) (len := 3) rfl rfl rfl ?_
    refine ev_h (i := .aload_n 0) (len := 1) rfl rfl rfl ?_
    refine ev_h (i := .iconst (-1)) (len := 1) rfl rfl rfl ?_
    refine ev_h (i := .putfield 51) (len := 3) rfl rfl rfl ?_
    refine ev_h (i := .aload_n 0) (len := 1) rfl rfl rfl ?_
    refine ev_h (i := .iconst (-1)) (len := 1) rfl rfl rfl ?_
    refine ev_h (i := .putfield 54) (len := 3) rfl rfl rfl ?_
    refine ev_h (i := .aload_n 0) (len := 1) rfl rfl rfl ?_
    refine ev_h (i := .iconst 0) (len := 1) rfl rfl rfl ?_
    refine ev_h (i := .putfield 57) (len := 3) rfl rfl rfl ?_
    refine ev_h (i := .aload_n 0) (len := 1) rfl rfl rfl ?_
    refine ev_h (i := .iconst (-1)) (len := 1) rfl rfl rfl ?_
    refine ev_h (i := .putfield 60) (len := 3) rfl rfl rfl ?_
    exact ev_vret rfl rfl rfl
  · exact ⟨rfl, (by show f_1 47 = _; exact k_1_47), (by show f_1 48 = _; exact k_1_48), (by show f_1 49 = _; exact k_1_49), (by show f_1 50 = _; exact k_1_50), (by show f_1 51 = _; exact k_1_51)⟩
  · intro b q46 q47 q48 q49 q50 q51
    rw [va_up_ne _ _ q46]
    rw [va_up_ne _ _ q46]
    rw [va_up_ne _ _ q46]
    rw [va_up_ne _ _ q46]
    rw [va_up_ne _ _ q46]
    rw [va_up_ne _ _ q46]
    rw [va_up_ne _ _ q46]
    rw [va_up_ne _ _ q46]
    rw [va_up_ne _ _ q46]
    rw [va_up_ne _ _ q46]
    rw [va_up_ne _ _ q46]
    rw [va_up_ne _ _ q46]
    rw [va_up_ne _ _ q46]
    rw [← va_up_of ((w_1 20 (by decide) (by decide) (by decide) (by decide) (by decide)).trans (by show f 20 = _; exact h20))]
    rw [va_up_ne _ _ q46]
    rw [w_1 b q47 q48 q49 q50 q51]
    rw [va_up_ne _ _ q47]
/-- GameText$Graph.<init>()V, cell 52 -/
theorem ct_10 {d : Nat} {f : Nat → va_E} {nc ns : Nat} (h52 : f 52 = .inr (8, [.null, .null, .null, .null, .null, .null, .null, .null, .null, .int 0, .int 0, .int 0, .int 0])) : ∃ f1 : Nat → va_E, vz_ev P0 (d + 1) 9 0 (lv_args 0 [.ref 52]) [] (52, f, nc, ns) (.inl none, (61, f1, nc + 9, ns + 1330)) ∧ (f1 52 = .inr (8, [.ref 53, .ref 54, .ref 55, .ref 56, .ref 57, .ref 58, .ref 59, .ref 60, .ref 61, .int 0, .int 0, .int 0, .int 0]) ∧ f1 53 = .inl (0, 1024, .inl fun _ => 0) ∧ f1 54 = .inl (0, 192, .inl fun _ => 0) ∧ f1 55 = .inl (0, 16, .inl fun _ => 0) ∧ f1 56 = .inl (0, 17, .inl fun _ => 0) ∧ f1 57 = .inl (0, 16, .inl fun _ => 0) ∧ f1 58 = .inl (0, 17, .inl fun _ => 0) ∧ f1 59 = .inl (0, 16, .inl fun _ => 0) ∧ f1 60 = .inl (0, 16, .inl fun _ => 0) ∧ f1 61 = .inl (0, 16, .inl fun _ => 0)) ∧ ∀ b, b ≠ 52 → b ≠ 53 → b ≠ 54 → b ≠ 55 → b ≠ 56 → b ≠ 57 → b ≠ 58 → b ≠ 59 → b ≠ 60 → b ≠ 61 → f1 b = f b := by
  refine ⟨va_up (va_up (va_up (va_up (va_up (va_up (va_up (va_up (va_up (va_up (va_up (va_up (va_up (va_up (va_up (va_up (va_up (va_up (va_up (va_up (va_up (va_up (va_up f 52 (.inr (8, [.null, .null, .null, .null, .null, .null, .null, .null, .null, .int 0, .int 0, .int 0, .int 0]))) 53 (.inl (0, 1024, .inl fun _ => 0))) 52 (.inr (8, [.ref 53, .null, .null, .null, .null, .null, .null, .null, .null, .int 0, .int 0, .int 0, .int 0]))) 54 (.inl (0, 192, .inl fun _ => 0))) 52 (.inr (8, [.ref 53, .ref 54, .null, .null, .null, .null, .null, .null, .null, .int 0, .int 0, .int 0, .int 0]))) 55 (.inl (0, 16, .inl fun _ => 0))) 52 (.inr (8, [.ref 53, .ref 54, .ref 55, .null, .null, .null, .null, .null, .null, .int 0, .int 0, .int 0, .int 0]))) 56 (.inl (0, 17, .inl fun _ => 0))) 52 (.inr (8, [.ref 53, .ref 54, .ref 55, .ref 56, .null, .null, .null, .null, .null, .int 0, .int 0, .int 0, .int 0]))) 57 (.inl (0, 16, .inl fun _ => 0))) 52 (.inr (8, [.ref 53, .ref 54, .ref 55, .ref 56, .ref 57, .null, .null, .null, .null, .int 0, .int 0, .int 0, .int 0]))) 58 (.inl (0, 17, .inl fun _ => 0))) 52 (.inr (8, [.ref 53, .ref 54, .ref 55, .ref 56, .ref 57, .ref 58, .null, .null, .null, .int 0, .int 0, .int 0, .int 0]))) 59 (.inl (0, 16, .inl fun _ => 0))) 52 (.inr (8, [.ref 53, .ref 54, .ref 55, .ref 56, .ref 57, .ref 58, .ref 59, .null, .null, .int 0, .int 0, .int 0, .int 0]))) 60 (.inl (0, 16, .inl fun _ => 0))) 52 (.inr (8, [.ref 53, .ref 54, .ref 55, .ref 56, .ref 57, .ref 58, .ref 59, .ref 60, .null, .int 0, .int 0, .int 0, .int 0]))) 61 (.inl (0, 16, .inl fun _ => 0))) 52 (.inr (8, [.ref 53, .ref 54, .ref 55, .ref 56, .ref 57, .ref 58, .ref 59, .ref 60, .ref 61, .int 0, .int 0, .int 0, .int 0]))) 52 (.inr (8, [.ref 53, .ref 54, .ref 55, .ref 56, .ref 57, .ref 58, .ref 59, .ref 60, .ref 61, .int 0, .int 0, .int 0, .int 0]))) 52 (.inr (8, [.ref 53, .ref 54, .ref 55, .ref 56, .ref 57, .ref 58, .ref 59, .ref 60, .ref 61, .int 0, .int 0, .int 0, .int 0]))) 52 (.inr (8, [.ref 53, .ref 54, .ref 55, .ref 56, .ref 57, .ref 58, .ref 59, .ref 60, .ref 61, .int 0, .int 0, .int 0, .int 0]))) 52 (.inr (8, [.ref 53, .ref 54, .ref 55, .ref 56, .ref 57, .ref 58, .ref 59, .ref 60, .ref 61, .int 0, .int 0, .int 0, .int 0])), ?_, ?_, ?_⟩
  · refine ev_hp (μ' := (52, va_up f 52 (.inr (8, [.null, .null, .null, .null, .null, .null, .null, .null, .null, .int 0, .int 0, .int 0, .int 0])), nc + 0, ns + 0)) (congrArg (fun z => ((52 : Nat), z, nc + 0, ns + 0)) (va_up_of h52)) ?_
    refine ev_h (i := .aload_n 0) (len := 1) rfl rfl rfl ?_
    refine ev_obj (d := d + 0) rfl rfl rfl rfl ?_
    refine ev_h (i := .aload_n 0) (len := 1) rfl rfl rfl ?_
    refine ev_h (i := .sipush 1024) (len := 3) rfl rfl rfl ?_
    refine ev_h (i := .newarray .int) (len := 2) rfl rfl rfl ?_
    refine ev_h (i := .putfield 11) (len := 3) rfl rfl rfl ?_
    refine ev_h (i := .aload_n 0) (len := 1) rfl rfl rfl ?_
    refine ev_h (i := .sipush 192) (len := 3) rfl rfl rfl ?_
    refine ev_h (i := .newarray .int) (len := 2) rfl rfl rfl ?_
    refine ev_h (i := .putfield 15) (len := 3) rfl rfl rfl ?_
    refine ev_h (i := .aload_n 0) (len := 1) rfl rfl rfl ?_
    refine ev_h (i := .bipush 16) (len := 2) rfl rfl rfl ?_
    refine ev_h (i := .newarray .int) (len := 2) rfl rfl rfl ?_
    refine ev_h (i := .putfield 18) (len := 3) rfl rfl rfl ?_
    refine ev_h (i := .aload_n 0) (len := 1) rfl rfl rfl ?_
    refine ev_h (i := .bipush 17) (len := 2) rfl rfl rfl ?_
    refine ev_h (i := .newarray .int) (len := 2) rfl rfl rfl ?_
    refine ev_h (i := .putfield 21) (len := 3) rfl rfl rfl ?_
    refine ev_h (i := .aload_n 0) (len := 1) rfl rfl rfl ?_
    refine ev_h (i := .bipush 16) (len := 2) rfl rfl rfl ?_
    refine ev_h (i := .newarray .int) (len := 2) rfl rfl rfl ?_
    refine ev_h (i := .putfield 24) (len := 3) rfl rfl rfl ?_
    refine ev_h (i := .aload_n 0) (len := 1) rfl rfl rfl ?_
    refine ev_h (i := .bipush 17) (len := 2) rfl rfl rfl ?_
    refine ev_h (i := .newarray .int) (len := 2) rfl rfl rfl ?_
    refine ev_h (i := .putfield 27) (len := 3) rfl rfl rfl ?_
    refine ev_h (i := .aload_n 0) (len := 1) rfl rfl rfl ?_
    refine ev_h (i := .bipush 16) (len := 2) rfl rfl rfl ?_
    refine ev_h (i := .newarray .int) (len := 2) rfl rfl rfl ?_
    refine ev_h (i := .putfield 30) (len := 3) rfl rfl rfl ?_
    refine ev_h (i := .aload_n 0) (len := 1) rfl rfl rfl ?_
    refine ev_h (i := .bipush 16) (len := 2) rfl rfl rfl ?_
    refine ev_h (i := .newarray .int) (len := 2) rfl rfl rfl ?_
    refine ev_h (i := .putfield 33) (len := 3) rfl rfl rfl ?_
    refine ev_h (i := .aload_n 0) (len := 1) rfl rfl rfl ?_
    refine ev_h (i := .bipush 16) (len := 2) rfl rfl rfl ?_
    refine ev_h (i := .newarray .int) (len := 2) rfl rfl rfl ?_
    refine ev_h (i := .putfield 36) (len := 3) rfl rfl rfl ?_
    refine ev_h (i := .aload_n 0) (len := 1) rfl rfl rfl ?_
    refine ev_h (i := .iconst 0) (len := 1) rfl rfl rfl ?_
    refine ev_h (i := .putfield 39) (len := 3) rfl rfl rfl ?_
    refine ev_h (i := .aload_n 0) (len := 1) rfl rfl rfl ?_
    refine ev_h (i := .iconst 0) (len := 1) rfl rfl rfl ?_
    refine ev_h (i := .putfield 43) (len := 3) rfl rfl rfl ?_
    refine ev_h (i := .aload_n 0) (len := 1) rfl rfl rfl ?_
    refine ev_h (i := .iconst 0) (len := 1) rfl rfl rfl ?_
    refine ev_h (i := .putfield 46) (len := 3) rfl rfl rfl ?_
    refine ev_h (i := .aload_n 0) (len := 1) rfl rfl rfl ?_
    refine ev_h (i := .iconst 0) (len := 1) rfl rfl rfl ?_
    refine ev_h (i := .putfield 49) (len := 3) rfl rfl rfl ?_
    exact ev_vret rfl rfl rfl
  · exact ⟨rfl, rfl, rfl, rfl, rfl, rfl, rfl, rfl, rfl, rfl⟩
  · intro b q52 q53 q54 q55 q56 q57 q58 q59 q60 q61
    rw [va_up_ne _ _ q52]
    rw [va_up_ne _ _ q52]
    rw [va_up_ne _ _ q52]
    rw [va_up_ne _ _ q52]
    rw [va_up_ne _ _ q52]
    rw [va_up_ne _ _ q61]
    rw [va_up_ne _ _ q52]
    rw [va_up_ne _ _ q60]
    rw [va_up_ne _ _ q52]
    rw [va_up_ne _ _ q59]
    rw [va_up_ne _ _ q52]
    rw [va_up_ne _ _ q58]
    rw [va_up_ne _ _ q52]
    rw [va_up_ne _ _ q57]
    rw [va_up_ne _ _ q52]
    rw [va_up_ne _ _ q56]
    rw [va_up_ne _ _ q52]
    rw [va_up_ne _ _ q55]
    rw [va_up_ne _ _ q52]
    rw [va_up_ne _ _ q54]
    rw [va_up_ne _ _ q52]
    rw [va_up_ne _ _ q53]
    rw [va_up_ne _ _ q52]
/-- GameText$Explorer.<init>(LGameText$Machine;LGameText$Graph;LGameText$Text;)V, cell 62 -/
theorem ct_11 {d : Nat} {f : Nat → va_E} {nc ns : Nat} (h4 : f 4 = .inr (2, [.ref 5, .ref 14, .ref 15, .ref 16, .ref 17, .ref 18, .ref 19, .int 0, .int 0, .int 0, .int 0, .int (-1)])) (h62 : f 62 = .inr (9, [.null, .null, .null, .null, .null, .null, .null, .int 0, .int 0, .int 0])) : ∃ f1 : Nat → va_E, vz_ev P0 (d + 1) 10 0 (lv_args 0 [.ref 62, .ref 42, .ref 52, .ref 4]) [] (62, f, nc, ns) (.inl none, (65, f1, nc + 3, ns + 28)) ∧ (f1 62 = .inr (9, [.ref 42, .ref 52, .ref 63, .ref 64, .ref 65, .ref 4, .ref 5, .int 0, .int (-1), .int (-1)]) ∧ f1 63 = .inl (0, 8, .inl fun _ => 0) ∧ f1 64 = .inl (0, 8, .inl fun _ => 0) ∧ f1 65 = .inl (0, 12, .inl fun _ => 0)) ∧ ∀ b, b ≠ 62 → b ≠ 63 → b ≠ 64 → b ≠ 65 → f1 b = f b := by
  refine ⟨va_up (va_up (va_up (va_up (va_up (va_up (va_up (va_up (va_up (va_up (va_up (va_up (va_up (va_up (va_up f 62 (.inr (9, [.null, .null, .null, .null, .null, .null, .null, .int 0, .int 0, .int 0]))) 4 (.inr (2, [.ref 5, .ref 14, .ref 15, .ref 16, .ref 17, .ref 18, .ref 19, .int 0, .int 0, .int 0, .int 0, .int (-1)]))) 62 (.inr (9, [.ref 42, .null, .null, .null, .null, .null, .null, .int 0, .int 0, .int 0]))) 62 (.inr (9, [.ref 42, .ref 52, .null, .null, .null, .null, .null, .int 0, .int 0, .int 0]))) 63 (.inl (0, 8, .inl fun _ => 0))) 62 (.inr (9, [.ref 42, .ref 52, .ref 63, .null, .null, .null, .null, .int 0, .int 0, .int 0]))) 64 (.inl (0, 8, .inl fun _ => 0))) 62 (.inr (9, [.ref 42, .ref 52, .ref 63, .ref 64, .null, .null, .null, .int 0, .int 0, .int 0]))) 65 (.inl (0, 12, .inl fun _ => 0))) 62 (.inr (9, [.ref 42, .ref 52, .ref 63, .ref 64, .ref 65, .null, .null, .int 0, .int 0, .int 0]))) 62 (.inr (9, [.ref 42, .ref 52, .ref 63, .ref 64, .ref 65, .ref 4, .null, .int 0, .int 0, .int 0]))) 62 (.inr (9, [.ref 42, .ref 52, .ref 63, .ref 64, .ref 65, .ref 4, .ref 5, .int 0, .int 0, .int 0]))) 62 (.inr (9, [.ref 42, .ref 52, .ref 63, .ref 64, .ref 65, .ref 4, .ref 5, .int 0, .int 0, .int 0]))) 62 (.inr (9, [.ref 42, .ref 52, .ref 63, .ref 64, .ref 65, .ref 4, .ref 5, .int 0, .int (-1), .int 0]))) 62 (.inr (9, [.ref 42, .ref 52, .ref 63, .ref 64, .ref 65, .ref 4, .ref 5, .int 0, .int (-1), .int (-1)])), ?_, ?_, ?_⟩
  · refine ev_hp (μ' := (62, va_up f 62 (.inr (9, [.null, .null, .null, .null, .null, .null, .null, .int 0, .int 0, .int 0])), nc + 0, ns + 0)) (congrArg (fun z => ((62 : Nat), z, nc + 0, ns + 0)) (va_up_of h62)) ?_
    refine ev_hp (μ' := (62, va_up (va_up f 62 (.inr (9, [.null, .null, .null, .null, .null, .null, .null, .int 0, .int 0, .int 0]))) 4 (.inr (2, [.ref 5, .ref 14, .ref 15, .ref 16, .ref 17, .ref 18, .ref 19, .int 0, .int 0, .int 0, .int 0, .int (-1)])), nc + 0, ns + 0)) (congrArg (fun z => ((62 : Nat), z, nc + 0, ns + 0)) (va_up_of (show (va_up f 62 (.inr (9, [.null, .null, .null, .null, .null, .null, .null, .int 0, .int 0, .int 0]))) 4 = _ from h4))) ?_
    refine ev_h (i := .aload_n 0) (len := 1) rfl rfl rfl ?_
    refine ev_obj (d := d + 0) rfl rfl rfl rfl ?_
    refine ev_h (i := .aload_n 0) (len := 1) rfl rfl rfl ?_
    refine ev_h (i := .aload_n 1) (len := 1) rfl rfl rfl ?_
    refine ev_h (i := .putfield 9) (len := 3) rfl rfl rfl ?_
    refine ev_h (i := .aload_n 0) (len := 1) rfl rfl rfl ?_
    refine ev_h (i := .aload_n 2) (len := 1) rfl rfl rfl ?_
    refine ev_h (i := .putfield 15) (len := 3) rfl rfl rfl ?_
    refine ev_h (i := .aload_n 0) (len := 1) rfl rfl rfl ?_
    refine ev_h (i := .bipush 8) (len := 2) rfl rfl rfl ?_
    refine ev_h (i := .newarray .int) (len := 2) rfl rfl rfl ?_
    refine ev_h (i := .putfield 19) (len := 3) rfl rfl rfl ?_
    refine ev_h (i := .aload_n 0) (len := 1) rfl rfl rfl ?_
    refine ev_h (i := .bipush 8) (len := 2) rfl rfl rfl ?_
    refine ev_h (i := .newarray .int) (len := 2) rfl rfl rfl ?_
    refine ev_h (i := .putfield 23) (len := 3) rfl rfl rfl ?_
    refine ev_h (i := .aload_n 0) (len := 1) rfl rfl rfl ?_
    refine ev_h (i := .bipush 12) (len := 2) rfl rfl rfl ?_
    refine ev_h (i := .newarray .int) (len := 2) rfl rfl rfl ?_
    refine ev_h (i := .putfield 26) (len := 3) rfl rfl rfl ?_
    refine ev_h (i := .aload_n 0) (len := 1) rfl rfl rfl ?_
    refine ev_h (i := .aload_n 3) (len := 1) rfl rfl rfl ?_
    refine ev_h (i := .putfield 29) (len := 3) rfl rfl rfl ?_
    refine ev_h (i := .aload_n 0) (len := 1) rfl rfl rfl ?_
    refine ev_h (i := .aload_n 3) (len := 1) rfl rfl rfl ?_
    refine ev_h (i := .getfield 33) (len := 3) rfl rfl rfl ?_
    refine ev_h (i := .putfield 39) (len := 3) rfl rfl rfl ?_
    refine ev_h (i := .aload_n 0) (len := 1) rfl rfl rfl ?_
    refine ev_h (i := .iconst 0) (len := 1) rfl rfl rfl ?_
    refine ev_h (i := .putfield 40) (len := 3) rfl rfl rfl ?_
    refine ev_h (i := .aload_n 0) (len := 1) rfl rfl rfl ?_
    refine ev_h (i := .iconst (-1)) (len := 1) rfl rfl rfl ?_
    refine ev_h (i := .putfield 44) (len := 3) rfl rfl rfl ?_
    refine ev_h (i := .aload_n 0) (len := 1) rfl rfl rfl ?_
    refine ev_h (i := .iconst (-1)) (len := 1) rfl rfl rfl ?_
    refine ev_h (i := .putfield 47) (len := 3) rfl rfl rfl ?_
    exact ev_vret rfl rfl rfl
  · exact ⟨rfl, rfl, rfl, rfl⟩
  · intro b q62 q63 q64 q65
    rw [va_up_ne _ _ q62]
    rw [va_up_ne _ _ q62]
    rw [va_up_ne _ _ q62]
    rw [va_up_ne _ _ q62]
    rw [va_up_ne _ _ q62]
    rw [va_up_ne _ _ q62]
    rw [va_up_ne _ _ q65]
    rw [va_up_ne _ _ q62]
    rw [va_up_ne _ _ q64]
    rw [va_up_ne _ _ q62]
    rw [va_up_ne _ _ q63]
    rw [va_up_ne _ _ q62]
    rw [va_up_ne _ _ q62]
    rw [← va_up_of h4]
    rw [va_up_ne _ _ q62]
/-- GameText.<init>()V, cell 1 -/
theorem ct_12 {d : Nat} {f : Nat → va_E} {nc ns : Nat} (h1 : f 1 = .inr (0, [.null, .null, .null, .null, .null, .null, .null, .int 0, .int 0, .int 0])) : ∃ f1 : Nat → va_E, vz_ev P0 (d + 3) 1 0 (lv_args 0 [.ref 1]) [] (1, f, nc, ns) (.inl none, (65, f1, nc + 64, ns + 4791)) ∧ (f1 1 = .inr (0, [.ref 2, .ref 36, .ref 46, .ref 52, .ref 62, .ref 4, .ref 20, .int 0, .int 0, .int (-1)]) ∧ f1 2 = .inr (1, [.ref 3, .int 0, .int 0, .int 264, .int 0, .int 0, .int 0]) ∧ f1 3 = .inl (0, 256, .inl fun _ => 0) ∧ f1 4 = .inr (2, [.ref 5, .ref 14, .ref 15, .ref 16, .ref 17, .ref 18, .ref 19, .int 0, .int 0, .int 0, .int 0, .int (-1)]) ∧ f1 5 = .inr (3, [.ref 6, .ref 7, .ref 8, .ref 9, .ref 10, .ref 11, .ref 12, .ref 13, .int 0]) ∧ f1 6 = .inl (0, 64, .inl fun _ => 0) ∧ f1 7 = .inl (0, 64, .inl fun _ => 0) ∧ f1 8 = .inl (0, 64, .inl fun _ => 0) ∧ f1 9 = .inl (0, 64, .inl fun _ => 0) ∧ f1 10 = .inl (0, 64, .inl fun _ => 0) ∧ f1 11 = .inl (0, 64, .inl fun _ => 0) ∧ f1 12 = .inl (0, 64, .inl fun _ => 0) ∧ f1 13 = .inl (0, 64, .inl fun _ => 0) ∧ f1 14 = .inl (0, 12, .inl fun _ => 0) ∧ f1 15 = .inl (0, 12, .inl fun _ => 0) ∧ f1 16 = .inl (0, 12, .inl fun _ => 0) ∧ f1 17 = .inl (0, 12, .inl fun _ => 0) ∧ f1 18 = .inl (0, 60, .inl fun _ => 0) ∧ f1 19 = .inl (0, 60, .inl fun _ => 0) ∧ f1 20 = .inr (2, [.ref 21, .ref 30, .ref 31, .ref 32, .ref 33, .ref 34, .ref 35, .int 0, .int 0, .int 0, .int 0, .int (-1)]) ∧ f1 21 = .inr (3, [.ref 22, .ref 23, .ref 24, .ref 25, .ref 26, .ref 27, .ref 28, .ref 29, .int 0]) ∧ f1 22 = .inl (0, 64, .inl fun _ => 0) ∧ f1 23 = .inl (0, 64, .inl fun _ => 0) ∧ f1 24 = .inl (0, 64, .inl fun _ => 0) ∧ f1 25 = .inl (0, 64, .inl fun _ => 0) ∧ f1 26 = .inl (0, 64, .inl fun _ => 0) ∧ f1 27 = .inl (0, 64, .inl fun _ => 0) ∧ f1 28 = .inl (0, 64, .inl fun _ => 0) ∧ f1 29 = .inl (0, 64, .inl fun _ => 0) ∧ f1 30 = .inl (0, 12, .inl fun _ => 0) ∧ f1 31 = .inl (0, 12, .inl fun _ => 0) ∧ f1 32 = .inl (0, 12, .inl fun _ => 0) ∧ f1 33 = .inl (0, 12, .inl fun _ => 0) ∧ f1 34 = .inl (0, 60, .inl fun _ => 0) ∧ f1 35 = .inl (0, 60, .inl fun _ => 0) ∧ f1 36 = .inr (4, [.ref 2, .ref 37, .ref 38, .ref 39, .ref 40, .ref 41, .int 0, .ref 21, .int 0, .int 0, .int (-1), .int 0, .int 0, .int 0, .int 0, .int 0, .int 0]) ∧ f1 37 = .inl (0, 256, .inl fun _ => 0) ∧ f1 38 = .inl (0, 256, .inl fun _ => 0) ∧ f1 39 = .inl (0, 256, .inl fun _ => 0) ∧ f1 40 = .inl (0, 256, .inl fun _ => 0) ∧ f1 41 = .inl (0, 256, .inl fun _ => 0) ∧ f1 42 = .inr (5, [.ref 43, .ref 44, .ref 45, .ref 20, .ref 21, .int 1, .int (-1), .long 0, .long 1]) ∧ f1 43 = .inl (0, 12, .inl fun _ => 0) ∧ f1 44 = .inl (0, 60, .inl fun _ => 0) ∧ f1 45 = .inl (0, 60, .inl fun _ => 0) ∧ f1 46 = .inr (6, [.ref 47, .ref 42, .ref 20, .ref 21, .int (-1), .int 0, .int 0, .int 0, .int 0, .int (-1), .int (-1), .int 0, .int (-1)]) ∧ f1 47 = .inr (7, [.ref 2, .ref 48, .ref 49, .ref 50, .ref 51, .int 0]) ∧ f1 48 = .inl (0, 72, .inl fun _ => 0) ∧ f1 49 = .inl (0, 72, .inl fun _ => 0) ∧ f1 50 = .inl (0, 72, .inl fun _ => 0) ∧ f1 51 = .inl (0, 72, .inl fun _ => 0) ∧ f1 52 = .inr (8, [.ref 53, .ref 54, .ref 55, .ref 56, .ref 57, .ref 58, .ref 59, .ref 60, .ref 61, .int 0, .int 0, .int 0, .int 0]) ∧ f1 53 = .inl (0, 1024, .inl fun _ => 0) ∧ f1 54 = .inl (0, 192, .inl fun _ => 0) ∧ f1 55 = .inl (0, 16, .inl fun _ => 0) ∧ f1 56 = .inl (0, 17, .inl fun _ => 0) ∧ f1 57 = .inl (0, 16, .inl fun _ => 0) ∧ f1 58 = .inl (0, 17, .inl fun _ => 0) ∧ f1 59 = .inl (0, 16, .inl fun _ => 0) ∧ f1 60 = .inl (0, 16, .inl fun _ => 0) ∧ f1 61 = .inl (0, 16, .inl fun _ => 0) ∧ f1 62 = .inr (9, [.ref 42, .ref 52, .ref 63, .ref 64, .ref 65, .ref 4, .ref 5, .int 0, .int (-1), .int (-1)]) ∧ f1 63 = .inl (0, 8, .inl fun _ => 0) ∧ f1 64 = .inl (0, 8, .inl fun _ => 0) ∧ f1 65 = .inl (0, 12, .inl fun _ => 0)) ∧ ∀ b, b ≠ 1 → b ≠ 2 → b ≠ 3 → b ≠ 4 → b ≠ 5 → b ≠ 6 → b ≠ 7 → b ≠ 8 → b ≠ 9 → b ≠ 10 → b ≠ 11 → b ≠ 12 → b ≠ 13 → b ≠ 14 → b ≠ 15 → b ≠ 16 → b ≠ 17 → b ≠ 18 → b ≠ 19 → b ≠ 20 → b ≠ 21 → b ≠ 22 → b ≠ 23 → b ≠ 24 → b ≠ 25 → b ≠ 26 → b ≠ 27 → b ≠ 28 → b ≠ 29 → b ≠ 30 → b ≠ 31 → b ≠ 32 → b ≠ 33 → b ≠ 34 → b ≠ 35 → b ≠ 36 → b ≠ 37 → b ≠ 38 → b ≠ 39 → b ≠ 40 → b ≠ 41 → b ≠ 42 → b ≠ 43 → b ≠ 44 → b ≠ 45 → b ≠ 46 → b ≠ 47 → b ≠ 48 → b ≠ 49 → b ≠ 50 → b ≠ 51 → b ≠ 52 → b ≠ 53 → b ≠ 54 → b ≠ 55 → b ≠ 56 → b ≠ 57 → b ≠ 58 → b ≠ 59 → b ≠ 60 → b ≠ 61 → b ≠ 62 → b ≠ 63 → b ≠ 64 → b ≠ 65 → f1 b = f b := by
  obtain ⟨f_1, v_1, ⟨k_1_2, k_1_3⟩, w_1⟩ := ct_1 (d := d + 1) (f := va_up f 2 (.inr (1, [.null, .int 0, .int 0, .int 0, .int 0, .int 0, .int 0]))) (nc := nc + 1) (ns := ns + 7) rfl
  obtain ⟨f_2, v_2, ⟨k_2_4, k_2_5, k_2_6, k_2_7, k_2_8, k_2_9, k_2_10, k_2_11, k_2_12, k_2_13, k_2_14, k_2_15, k_2_16, k_2_17, k_2_18, k_2_19⟩, w_2⟩ := ct_3 (d := d + 0) (f := va_up (va_up (va_up f_1 1 (.inr (0, [.null, .null, .null, .null, .null, .null, .null, .int 0, .int 0, .int 0]))) 1 (.inr (0, [.ref 2, .null, .null, .null, .null, .null, .null, .int 0, .int 0, .int 0]))) 4 (.inr (2, [.null, .null, .null, .null, .null, .null, .null, .int 0, .int 0, .int 0, .int 0, .int 0]))) (nc := nc + 3) (ns := ns + 275) rfl
  obtain ⟨f_3, v_3, ⟨k_3_20, k_3_21, k_3_22, k_3_23, k_3_24, k_3_25, k_3_26, k_3_27, k_3_28, k_3_29, k_3_30, k_3_31, k_3_32, k_3_33, k_3_34, k_3_35⟩, w_3⟩ := ct_5 (d := d + 0) (f := va_up (va_up (va_up f_2 1 (.inr (0, [.ref 2, .null, .null, .null, .null, .null, .null, .int 0, .int 0, .int 0]))) 1 (.inr (0, [.ref 2, .null, .null, .null, .null, .ref 4, .null, .int 0, .int 0, .int 0]))) 20 (.inr (2, [.null, .null, .null, .null, .null, .null, .null, .int 0, .int 0, .int 0, .int 0, .int 0]))) (nc := nc + 19) (ns := ns + 976) rfl
  obtain ⟨f_4, v_4, ⟨k_4_36, k_4_37, k_4_38, k_4_39, k_4_40, k_4_41⟩, w_4⟩ := ct_6 (d := d + 1) (f := va_up (va_up (va_up (va_up f_3 1 (.inr (0, [.ref 2, .null, .null, .null, .null, .ref 4, .null, .int 0, .int 0, .int 0]))) 20 (.inr (2, [.ref 21, .ref 30, .ref 31, .ref 32, .ref 33, .ref 34, .ref 35, .int 0, .int 0, .int 0, .int 0, .int (-1)]))) 1 (.inr (0, [.ref 2, .null, .null, .null, .null, .ref 4, .ref 20, .int 0, .int 0, .int 0]))) 36 (.inr (4, [.null, .null, .null, .null, .null, .null, .int 0, .null, .int 0, .int 0, .int 0, .int 0, .int 0, .int 0, .int 0, .int 0, .int 0]))) (nc := nc + 35) (ns := ns + 1682) rfl
  obtain ⟨f_5, v_5, ⟨k_5_42, k_5_43, k_5_44, k_5_45⟩, w_5⟩ := ct_7 (d := d + 1) (f := va_up (va_up (va_up f_4 1 (.inr (0, [.ref 2, .null, .null, .null, .null, .ref 4, .ref 20, .int 0, .int 0, .int 0]))) 1 (.inr (0, [.ref 2, .ref 36, .null, .null, .null, .ref 4, .ref 20, .int 0, .int 0, .int 0]))) 42 (.inr (5, [.null, .null, .null, .null, .null, .int 0, .int 0, .long 0, .long 0]))) (nc := nc + 41) (ns := ns + 2971) (by show f_4 20 = _; exact ((w_4 20 (by decide) (by decide) (by decide) (by decide) (by decide) (by decide)).trans rfl)) rfl
  obtain ⟨f_6, v_6, ⟨k_6_46, k_6_47, k_6_48, k_6_49, k_6_50, k_6_51⟩, w_6⟩ := ct_9 (d := d + 0) (f := va_up (va_up f_5 1 (.inr (0, [.ref 2, .ref 36, .null, .null, .null, .ref 4, .ref 20, .int 0, .int 0, .int 0]))) 46 (.inr (6, [.null, .null, .null, .null, .int 0, .int 0, .int 0, .int 0, .int 0, .int 0, .int 0, .int 0, .int 0]))) (nc := nc + 45) (ns := ns + 3116) (by show f_5 20 = _; exact ((w_5 20 (by decide) (by decide) (by decide) (by decide)).trans (by show f_4 20 = _; exact ((w_4 20 (by decide) (by decide) (by decide) (by decide) (by decide) (by decide)).trans rfl)))) rfl
  obtain ⟨f_7, v_7, ⟨k_7_52, k_7_53, k_7_54, k_7_55, k_7_56, k_7_57, k_7_58, k_7_59, k_7_60, k_7_61⟩, w_7⟩ := ct_10 (d := d + 1) (f := va_up (va_up (va_up f_6 1 (.inr (0, [.ref 2, .ref 36, .null, .null, .null, .ref 4, .ref 20, .int 0, .int 0, .int 0]))) 1 (.inr (0, [.ref 2, .ref 36, .ref 46, .null, .null, .ref 4, .ref 20, .int 0, .int 0, .int 0]))) 52 (.inr (8, [.null, .null, .null, .null, .null, .null, .null, .null, .null, .int 0, .int 0, .int 0, .int 0]))) (nc := nc + 51) (ns := ns + 3423) rfl
  obtain ⟨f_8, v_8, ⟨k_8_62, k_8_63, k_8_64, k_8_65⟩, w_8⟩ := ct_11 (d := d + 1) (f := va_up (va_up (va_up f_7 1 (.inr (0, [.ref 2, .ref 36, .ref 46, .null, .null, .ref 4, .ref 20, .int 0, .int 0, .int 0]))) 1 (.inr (0, [.ref 2, .ref 36, .ref 46, .ref 52, .null, .ref 4, .ref 20, .int 0, .int 0, .int 0]))) 62 (.inr (9, [.null, .null, .null, .null, .null, .null, .null, .int 0, .int 0, .int 0]))) (nc := nc + 61) (ns := ns + 4763) (by show f_7 4 = _; exact ((w_7 4 (by decide) (by decide) (by decide) (by decide) (by decide) (by decide) (by decide) (by decide) (by decide) (by decide)).trans (by show f_6 4 = _; exact ((w_6 4 (by decide) (by decide) (by decide) (by decide) (by decide) (by decide)).trans (by show f_5 4 = _; exact ((w_5 4 (by decide) (by decide) (by decide) (by decide)).trans (by show f_4 4 = _; exact ((w_4 4 (by decide) (by decide) (by decide) (by decide) (by decide) (by decide)).trans (by show f_3 4 = _; exact ((w_3 4 (by decide) (by decide) (by decide) (by decide) (by decide) (by decide) (by decide) (by decide) (by decide) (by decide) (by decide) (by decide) (by decide) (by decide) (by decide) (by decide)).trans (by show f_2 4 = _; exact k_2_4))))))))))) rfl
  refine ⟨va_up (va_up (va_up (va_up (va_up f_8 1 (.inr (0, [.ref 2, .ref 36, .ref 46, .ref 52, .null, .ref 4, .ref 20, .int 0, .int 0, .int 0]))) 1 (.inr (0, [.ref 2, .ref 36, .ref 46, .ref 52, .ref 62, .ref 4, .ref 20, .int 0, .int 0, .int 0]))) 1 (.inr (0, [.ref 2, .ref 36, .ref 46, .ref 52, .ref 62, .ref 4, .ref 20, .int 0, .int 0, .int 0]))) 1 (.inr (0, [.ref 2, .ref 36, .ref 46, .ref 52, .ref 62, .ref 4, .ref 20, .int 0, .int 0, .int 0]))) 1 (.inr (0, [.ref 2, .ref 36, .ref 46, .ref 52, .ref 62, .ref 4, .ref 20, .int 0, .int 0, .int (-1)])), ?_, ?_, ?_⟩
  · refine ev_h (i := .aload_n 0) (len := 1) rfl rfl rfl ?_
    refine ev_obj (d := d + 2) rfl rfl rfl rfl ?_
    refine ev_h (i := .aload_n 0) (len := 1) rfl rfl rfl ?_
    refine ev_h (i := .new 7) (len := 3) rfl rfl rfl ?_
    refine ev_h (i := .dup) (len := 1) rfl rfl rfl ?_
    refine ev_callI (d := d + 2) (As := []) (a := 2) rfl rfl rfl rfl rfl rfl rfl rfl v_1 ?_
    refine ev_hp (μ' := (3, va_up f_1 1 (.inr (0, [.null, .null, .null, .null, .null, .null, .null, .int 0, .int 0, .int 0])), nc + 2, ns + 263)) (congrArg (fun z => ((3 : Nat), z, nc + 2, ns + 263)) (va_up_of ((w_1 1 (by decide) (by decide)).trans (by show f 1 = _; exact h1)))) ?_
    refine ev_h (i := .putfield 10) (len := 3) rfl rfl rfl ?_
    refine ev_h (i := .aload_n 0) (len := 1) rfl rfl rfl ?_
    refine ev_h (i := .new 16) (len := 3) rfl rfl rfl ?_
    refine ev_h (i := .dup) (len := 1) rfl rfl rfl ?_
    refine ev_callI (d := d + 2) (As := []) (a := 4) rfl rfl rfl rfl rfl rfl rfl rfl v_2 ?_
    refine ev_hp (μ' := (19, va_up f_2 1 (.inr (0, [.ref 2, .null, .null, .null, .null, .null, .null, .int 0, .int 0, .int 0])), nc + 18, ns + 964)) (congrArg (fun z => ((19 : Nat), z, nc + 18, ns + 964)) (va_up_of ((w_2 1 (by decide) (by decide) (by decide) (by decide) (by decide) (by decide) (by decide) (by decide) (by decide) (by decide) (by decide) (by decide) (by decide) (by decide) (by decide) (by decide)).trans rfl))) ?_
    refine ev_h (i := .putfield 19) (len := 3) rfl rfl rfl ?_
    refine ev_h (i := .aload_n 0) (len := 1) rfl rfl rfl ?_
    refine ev_h (i := .new 16) (len := 3) rfl rfl rfl ?_
    refine ev_h (i := .dup) (len := 1) rfl rfl rfl ?_
    refine ev_callI (d := d + 2) (As := []) (a := 20) rfl rfl rfl rfl rfl rfl rfl rfl v_3 ?_
    refine ev_hp (μ' := (35, va_up f_3 1 (.inr (0, [.ref 2, .null, .null, .null, .null, .ref 4, .null, .int 0, .int 0, .int 0])), nc + 34, ns + 1665)) (congrArg (fun z => ((35 : Nat), z, nc + 34, ns + 1665)) (va_up_of ((w_3 1 (by decide) (by decide) (by decide) (by decide) (by decide) (by decide) (by decide) (by decide) (by decide) (by decide) (by decide) (by decide) (by decide) (by decide) (by decide) (by decide)).trans rfl))) ?_
    refine ev_hp (μ' := (35, va_up (va_up f_3 1 (.inr (0, [.ref 2, .null, .null, .null, .null, .ref 4, .null, .int 0, .int 0, .int 0]))) 20 (.inr (2, [.ref 21, .ref 30, .ref 31, .ref 32, .ref 33, .ref 34, .ref 35, .int 0, .int 0, .int 0, .int 0, .int (-1)])), nc + 34, ns + 1665)) (congrArg (fun z => ((35 : Nat), z, nc + 34, ns + 1665)) (va_up_of (show (va_up f_3 1 (.inr (0, [.ref 2, .null, .null, .null, .null, .ref 4, .null, .int 0, .int 0, .int 0]))) 20 = _ from k_3_20))) ?_
    refine ev_h (i := .putfield 23) (len := 3) rfl rfl rfl ?_
    refine ev_h (i := .aload_n 0) (len := 1) rfl rfl rfl ?_
    refine ev_h (i := .new 26) (len := 3) rfl rfl rfl ?_
    refine ev_h (i := .dup) (len := 1) rfl rfl rfl ?_
    refine ev_h (i := .aload_n 0) (len := 1) rfl rfl rfl ?_
    refine ev_h (i := .getfield 10) (len := 3) rfl rfl rfl ?_
    refine ev_h (i := .aload_n 0) (len := 1) rfl rfl rfl ?_
    refine ev_h (i := .getfield 23) (len := 3) rfl rfl rfl ?_
    refine ev_h (i := .getfield 28) (len := 3) rfl rfl rfl ?_
    refine ev_callI (d := d + 2) (As := [.ref 2, .ref 21]) (a := 36) rfl rfl rfl rfl rfl rfl rfl rfl v_4 ?_
    refine ev_hp (μ' := (41, va_up f_4 1 (.inr (0, [.ref 2, .null, .null, .null, .null, .ref 4, .ref 20, .int 0, .int 0, .int 0])), nc + 40, ns + 2962)) (congrArg (fun z => ((41 : Nat), z, nc + 40, ns + 2962)) (va_up_of ((w_4 1 (by decide) (by decide) (by decide) (by decide) (by decide) (by decide)).trans rfl))) ?_
    refine ev_h (i := .putfield 35) (len := 3) rfl rfl rfl ?_
    refine ev_h (i := .new 39) (len := 3) rfl rfl rfl ?_
    refine ev_h (i := .dup) (len := 1) rfl rfl rfl ?_
    refine ev_h (i := .aload_n 0) (len := 1) rfl rfl rfl ?_
    refine ev_h (i := .getfield 23) (len := 3) rfl rfl rfl ?_
    refine ev_callI (d := d + 2) (As := [.ref 20]) (a := 42) rfl rfl rfl rfl rfl rfl rfl rfl v_5 ?_
    refine ev_hp (μ' := (45, va_up f_5 1 (.inr (0, [.ref 2, .ref 36, .null, .null, .null, .ref 4, .ref 20, .int 0, .int 0, .int 0])), nc + 44, ns + 3103)) (congrArg (fun z => ((45 : Nat), z, nc + 44, ns + 3103)) (va_up_of ((w_5 1 (by decide) (by decide) (by decide) (by decide)).trans rfl))) ?_
    refine ev_h (i := .astore_n 1) (len := 1) rfl rfl rfl ?_
    refine ev_h (i := .aload_n 0) (len := 1) rfl rfl rfl ?_
    refine ev_h (i := .new 44) (len := 3) rfl rfl rfl ?_
    refine ev_h (i := .dup) (len := 1) rfl rfl rfl ?_
    refine ev_h (i := .aload_n 0) (len := 1) rfl rfl rfl ?_
    refine ev_h (i := .getfield 10) (len := 3) rfl rfl rfl ?_
    refine ev_h (i := .aload_n 1) (len := 1) rfl rfl rfl ?_
    refine ev_h (i := .aload_n 0) (len := 1) rfl rfl rfl ?_
    refine ev_h (i := .getfield 23) (len := 3) rfl rfl rfl ?_
    refine ev_callI (d := d + 2) (As := [.ref 2, .ref 42, .ref 20]) (a := 46) rfl rfl rfl rfl rfl rfl rfl rfl v_6 ?_
    refine ev_hp (μ' := (51, va_up f_6 1 (.inr (0, [.ref 2, .ref 36, .null, .null, .null, .ref 4, .ref 20, .int 0, .int 0, .int 0])), nc + 50, ns + 3410)) (congrArg (fun z => ((51 : Nat), z, nc + 50, ns + 3410)) (va_up_of ((w_6 1 (by decide) (by decide) (by decide) (by decide) (by decide) (by decide)).trans rfl))) ?_
    refine ev_h (i := .putfield 49) (len := 3) rfl rfl rfl ?_
    refine ev_h (i := .aload_n 0) (len := 1) rfl rfl rfl ?_
    refine ev_h (i := .new 53) (len := 3) rfl rfl rfl ?_
    refine ev_h (i := .dup) (len := 1) rfl rfl rfl ?_
    refine ev_callI (d := d + 2) (As := []) (a := 52) rfl rfl rfl rfl rfl rfl rfl rfl v_7 ?_
    refine ev_hp (μ' := (61, va_up f_7 1 (.inr (0, [.ref 2, .ref 36, .ref 46, .null, .null, .ref 4, .ref 20, .int 0, .int 0, .int 0])), nc + 60, ns + 4753)) (congrArg (fun z => ((61 : Nat), z, nc + 60, ns + 4753)) (va_up_of ((w_7 1 (by decide) (by decide) (by decide) (by decide) (by decide) (by decide) (by decide) (by decide) (by decide) (by decide)).trans rfl))) ?_
    refine ev_h (i := .putfield 56) (len := 3) rfl rfl rfl ?_
    refine ev_h (i := .aload_n 0) (len := 1) rfl rfl rfl ?_
    refine ev_h (i := .new 60) (len := 3) rfl rfl rfl ?_
    refine ev_h (i := .dup) (len := 1) rfl rfl rfl ?_
    refine ev_h (i := .aload_n 1) (len := 1) rfl rfl rfl ?_
    refine ev_h (i := .aload_n 0) (len := 1) rfl rfl rfl ?_
    refine ev_h (i := .getfield 56) (len := 3) rfl rfl rfl ?_
    refine ev_h (i := .aload_n 0) (len := 1) rfl rfl rfl ?_
    refine ev_h (i := .getfield 19) (len := 3) rfl rfl rfl ?_
    refine ev_callI (d := d + 2) (As := [.ref 42, .ref 52, .ref 4]) (a := 62) rfl rfl rfl rfl rfl rfl rfl rfl v_8 ?_
    refine ev_hp (μ' := (65, va_up f_8 1 (.inr (0, [.ref 2, .ref 36, .ref 46, .ref 52, .null, .ref 4, .ref 20, .int 0, .int 0, .int 0])), nc + 64, ns + 4791)) (congrArg (fun z => ((65 : Nat), z, nc + 64, ns + 4791)) (va_up_of ((w_8 1 (by decide) (by decide) (by decide) (by decide)).trans rfl))) ?_
    refine ev_h (i := .putfield 65) (len := 3) rfl rfl rfl ?_
    refine ev_h (i := .aload_n 0) (len := 1) rfl rfl rfl ?_
    refine ev_h (i := .iconst 0) (len := 1) rfl rfl rfl ?_
    refine ev_h (i := .putfield 69) (len := 3) rfl rfl rfl ?_
    refine ev_h (i := .aload_n 0) (len := 1) rfl rfl rfl ?_
    refine ev_h (i := .iconst 0) (len := 1) rfl rfl rfl ?_
    refine ev_h (i := .putfield 73) (len := 3) rfl rfl rfl ?_
    refine ev_h (i := .aload_n 0) (len := 1) rfl rfl rfl ?_
    refine ev_h (i := .iconst (-1)) (len := 1) rfl rfl rfl ?_
    refine ev_h (i := .putfield 76) (len := 3) rfl rfl rfl ?_
    exact ev_vret rfl rfl rfl
  · exact ⟨rfl, (by show f_8 2 = _; exact ((w_8 2 (by decide) (by decide) (by decide) (by decide)).trans (by show f_7 2 = _; exact ((w_7 2 (by decide) (by decide) (by decide) (by decide) (by decide) (by decide) (by decide) (by decide) (by decide) (by decide)).trans (by show f_6 2 = _; exact ((w_6 2 (by decide) (by decide) (by decide) (by decide) (by decide) (by decide)).trans (by show f_5 2 = _; exact ((w_5 2 (by decide) (by decide) (by decide) (by decide)).trans (by show f_4 2 = _; exact ((w_4 2 (by decide) (by decide) (by decide) (by decide) (by decide) (by decide)).trans (by show f_3 2 = _; exact ((w_3 2 (by decide) (by decide) (by decide) (by decide) (by decide) (by decide) (by decide) (by decide) (by decide) (by decide) (by decide) (by decide) (by decide) (by decide) (by decide) (by decide)).trans (by show f_2 2 = _; exact ((w_2 2 (by decide) (by decide) (by decide) (by decide) (by decide) (by decide) (by decide) (by decide) (by decide) (by decide) (by decide) (by decide) (by decide) (by decide) (by decide) (by decide)).trans (by show f_1 2 = _; exact k_1_2))))))))))))))), (by show f_8 3 = _; exact ((w_8 3 (by decide) (by decide) (by decide) (by decide)).trans (by show f_7 3 = _; exact ((w_7 3 (by decide) (by decide) (by decide) (by decide) (by decide) (by decide) (by decide) (by decide) (by decide) (by decide)).trans (by show f_6 3 = _; exact ((w_6 3 (by decide) (by decide) (by decide) (by decide) (by decide) (by decide)).trans (by show f_5 3 = _; exact ((w_5 3 (by decide) (by decide) (by decide) (by decide)).trans (by show f_4 3 = _; exact ((w_4 3 (by decide) (by decide) (by decide) (by decide) (by decide) (by decide)).trans (by show f_3 3 = _; exact ((w_3 3 (by decide) (by decide) (by decide) (by decide) (by decide) (by decide) (by decide) (by decide) (by decide) (by decide) (by decide) (by decide) (by decide) (by decide) (by decide) (by decide)).trans (by show f_2 3 = _; exact ((w_2 3 (by decide) (by decide) (by decide) (by decide) (by decide) (by decide) (by decide) (by decide) (by decide) (by decide) (by decide) (by decide) (by decide) (by decide) (by decide) (by decide)).trans (by show f_1 3 = _; exact k_1_3))))))))))))))), (by show f_8 4 = _; exact ((w_8 4 (by decide) (by decide) (by decide) (by decide)).trans (by show f_7 4 = _; exact ((w_7 4 (by decide) (by decide) (by decide) (by decide) (by decide) (by decide) (by decide) (by decide) (by decide) (by decide)).trans (by show f_6 4 = _; exact ((w_6 4 (by decide) (by decide) (by decide) (by decide) (by decide) (by decide)).trans (by show f_5 4 = _; exact ((w_5 4 (by decide) (by decide) (by decide) (by decide)).trans (by show f_4 4 = _; exact ((w_4 4 (by decide) (by decide) (by decide) (by decide) (by decide) (by decide)).trans (by show f_3 4 = _; exact ((w_3 4 (by decide) (by decide) (by decide) (by decide) (by decide) (by decide) (by decide) (by decide) (by decide) (by decide) (by decide) (by decide) (by decide) (by decide) (by decide) (by decide)).trans (by show f_2 4 = _; exact k_2_4))))))))))))), (by show f_8 5 = _; exact ((w_8 5 (by decide) (by decide) (by decide) (by decide)).trans (by show f_7 5 = _; exact ((w_7 5 (by decide) (by decide) (by decide) (by decide) (by decide) (by decide) (by decide) (by decide) (by decide) (by decide)).trans (by show f_6 5 = _; exact ((w_6 5 (by decide) (by decide) (by decide) (by decide) (by decide) (by decide)).trans (by show f_5 5 = _; exact ((w_5 5 (by decide) (by decide) (by decide) (by decide)).trans (by show f_4 5 = _; exact ((w_4 5 (by decide) (by decide) (by decide) (by decide) (by decide) (by decide)).trans (by show f_3 5 = _; exact ((w_3 5 (by decide) (by decide) (by decide) (by decide) (by decide) (by decide) (by decide) (by decide) (by decide) (by decide) (by decide) (by decide) (by decide) (by decide) (by decide) (by decide)).trans (by show f_2 5 = _; exact k_2_5))))))))))))), (by show f_8 6 = _; exact ((w_8 6 (by decide) (by decide) (by decide) (by decide)).trans (by show f_7 6 = _; exact ((w_7 6 (by decide) (by decide) (by decide) (by decide) (by decide) (by decide) (by decide) (by decide) (by decide) (by decide)).trans (by show f_6 6 = _; exact ((w_6 6 (by decide) (by decide) (by decide) (by decide) (by decide) (by decide)).trans (by show f_5 6 = _; exact ((w_5 6 (by decide) (by decide) (by decide) (by decide)).trans (by show f_4 6 = _; exact ((w_4 6 (by decide) (by decide) (by decide) (by decide) (by decide) (by decide)).trans (by show f_3 6 = _; exact ((w_3 6 (by decide) (by decide) (by decide) (by decide) (by decide) (by decide) (by decide) (by decide) (by decide) (by decide) (by decide) (by decide) (by decide) (by decide) (by decide) (by decide)).trans (by show f_2 6 = _; exact k_2_6))))))))))))), (by show f_8 7 = _; exact ((w_8 7 (by decide) (by decide) (by decide) (by decide)).trans (by show f_7 7 = _; exact ((w_7 7 (by decide) (by decide) (by decide) (by decide) (by decide) (by decide) (by decide) (by decide) (by decide) (by decide)).trans (by show f_6 7 = _; exact ((w_6 7 (by decide) (by decide) (by decide) (by decide) (by decide) (by decide)).trans (by show f_5 7 = _; exact ((w_5 7 (by decide) (by decide) (by decide) (by decide)).trans (by show f_4 7 = _; exact ((w_4 7 (by decide) (by decide) (by decide) (by decide) (by decide) (by decide)).trans (by show f_3 7 = _; exact ((w_3 7 (by decide) (by decide) (by decide) (by decide) (by decide) (by decide) (by decide) (by decide) (by decide) (by decide) (by decide) (by decide) (by decide) (by decide) (by decide) (by decide)).trans (by show f_2 7 = _; exact k_2_7))))))))))))), (by show f_8 8 = _; exact ((w_8 8 (by decide) (by decide) (by decide) (by decide)).trans (by show f_7 8 = _; exact ((w_7 8 (by decide) (by decide) (by decide) (by decide) (by decide) (by decide) (by decide) (by decide) (by decide) (by decide)).trans (by show f_6 8 = _; exact ((w_6 8 (by decide) (by decide) (by decide) (by decide) (by decide) (by decide)).trans (by show f_5 8 = _; exact ((w_5 8 (by decide) (by decide) (by decide) (by decide)).trans (by show f_4 8 = _; exact ((w_4 8 (by decide) (by decide) (by decide) (by decide) (by decide) (by decide)).trans (by show f_3 8 = _; exact ((w_3 8 (by decide) (by decide) (by decide) (by decide) (by decide) (by decide) (by decide) (by decide) (by decide) (by decide) (by decide) (by decide) (by decide) (by decide) (by decide) (by decide)).trans (by show f_2 8 = _; exact k_2_8))))))))))))), (by show f_8 9 = _; exact ((w_8 9 (by decide) (by decide) (by decide) (by decide)).trans (by show f_7 9 = _; exact ((w_7 9 (by decide) (by decide) (by decide) (by decide) (by decide) (by decide) (by decide) (by decide) (by decide) (by decide)).trans (by show f_6 9 = _; exact ((w_6 9 (by decide) (by decide) (by decide) (by decide) (by decide) (by decide)).trans (by show f_5 9 = _; exact ((w_5 9 (by decide) (by decide) (by decide) (by decide)).trans (by show f_4 9 = _; exact ((w_4 9 (by decide) (by decide) (by decide) (by decide) (by decide) (by decide)).trans (by show f_3 9 = _; exact ((w_3 9 (by decide) (by decide) (by decide) (by decide) (by decide) (by decide) (by decide) (by decide) (by decide) (by decide) (by decide) (by decide) (by decide) (by decide) (by decide) (by decide)).trans (by show f_2 9 = _; exact k_2_9))))))))))))), (by show f_8 10 = _; exact ((w_8 10 (by decide) (by decide) (by decide) (by decide)).trans (by show f_7 10 = _; exact ((w_7 10 (by decide) (by decide) (by decide) (by decide) (by decide) (by decide) (by decide) (by decide) (by decide) (by decide)).trans (by show f_6 10 = _; exact ((w_6 10 (by decide) (by decide) (by decide) (by decide) (by decide) (by decide)).trans (by show f_5 10 = _; exact ((w_5 10 (by decide) (by decide) (by decide) (by decide)).trans (by show f_4 10 = _; exact ((w_4 10 (by decide) (by decide) (by decide) (by decide) (by decide) (by decide)).trans (by show f_3 10 = _; exact ((w_3 10 (by decide) (by decide) (by decide) (by decide) (by decide) (by decide) (by decide) (by decide) (by decide) (by decide) (by decide) (by decide) (by decide) (by decide) (by decide) (by decide)).trans (by show f_2 10 = _; exact k_2_10))))))))))))), (by show f_8 11 = _; exact ((w_8 11 (by decide) (by decide) (by decide) (by decide)).trans (by show f_7 11 = _; exact ((w_7 11 (by decide) (by decide) (by decide) (by decide) (by decide) (by decide) (by decide) (by decide) (by decide) (by decide)).trans (by show f_6 11 = _; exact ((w_6 11 (by decide) (by decide) (by decide) (by decide) (by decide) (by decide)).trans (by show f_5 11 = _; exact ((w_5 11 (by decide) (by decide) (by decide) (by decide)).trans (by show f_4 11 = _; exact ((w_4 11 (by decide) (by decide) (by decide) (by decide) (by decide) (by decide)).trans (by show f_3 11 = _; exact ((w_3 11 (by decide) (by decide) (by decide) (by decide) (by decide) (by decide) (by decide) (by decide) (by decide) (by decide) (by decide) (by decide) (by decide) (by decide) (by decide) (by decide)).trans (by show f_2 11 = _; exact k_2_11))))))))))))), (by show f_8 12 = _; exact ((w_8 12 (by decide) (by decide) (by decide) (by decide)).trans (by show f_7 12 = _; exact ((w_7 12 (by decide) (by decide) (by decide) (by decide) (by decide) (by decide) (by decide) (by decide) (by decide) (by decide)).trans (by show f_6 12 = _; exact ((w_6 12 (by decide) (by decide) (by decide) (by decide) (by decide) (by decide)).trans (by show f_5 12 = _; exact ((w_5 12 (by decide) (by decide) (by decide) (by decide)).trans (by show f_4 12 = _; exact ((w_4 12 (by decide) (by decide) (by decide) (by decide) (by decide) (by decide)).trans (by show f_3 12 = _; exact ((w_3 12 (by decide) (by decide) (by decide) (by decide) (by decide) (by decide) (by decide) (by decide) (by decide) (by decide) (by decide) (by decide) (by decide) (by decide) (by decide) (by decide)).trans (by show f_2 12 = _; exact k_2_12))))))))))))), (by show f_8 13 = _; exact ((w_8 13 (by decide) (by decide) (by decide) (by decide)).trans (by show f_7 13 = _; exact ((w_7 13 (by decide) (by decide) (by decide) (by decide) (by decide) (by decide) (by decide) (by decide) (by decide) (by decide)).trans (by show f_6 13 = _; exact ((w_6 13 (by decide) (by decide) (by decide) (by decide) (by decide) (by decide)).trans (by show f_5 13 = _; exact ((w_5 13 (by decide) (by decide) (by decide) (by decide)).trans (by show f_4 13 = _; exact ((w_4 13 (by decide) (by decide) (by decide) (by decide) (by decide) (by decide)).trans (by show f_3 13 = _; exact ((w_3 13 (by decide) (by decide) (by decide) (by decide) (by decide) (by decide) (by decide) (by decide) (by decide) (by decide) (by decide) (by decide) (by decide) (by decide) (by decide) (by decide)).trans (by show f_2 13 = _; exact k_2_13))))))))))))), (by show f_8 14 = _; exact ((w_8 14 (by decide) (by decide) (by decide) (by decide)).trans (by show f_7 14 = _; exact ((w_7 14 (by decide) (by decide) (by decide) (by decide) (by decide) (by decide) (by decide) (by decide) (by decide) (by decide)).trans (by show f_6 14 = _; exact ((w_6 14 (by decide) (by decide) (by decide) (by decide) (by decide) (by decide)).trans (by show f_5 14 = _; exact ((w_5 14 (by decide) (by decide) (by decide) (by decide)).trans (by show f_4 14 = _; exact ((w_4 14 (by decide) (by decide) (by decide) (by decide) (by decide) (by decide)).trans (by show f_3 14 = _; exact ((w_3 14 (by decide) (by decide) (by decide) (by decide) (by decide) (by decide) (by decide) (by decide) (by decide) (by decide) (by decide) (by decide) (by decide) (by decide) (by decide) (by decide)).trans (by show f_2 14 = _; exact k_2_14))))))))))))), (by show f_8 15 = _; exact ((w_8 15 (by decide) (by decide) (by decide) (by decide)).trans (by show f_7 15 = _; exact ((w_7 15 (by decide) (by decide) (by decide) (by decide) (by decide) (by decide) (by decide) (by decide) (by decide) (by decide)).trans (by show f_6 15 = _; exact ((w_6 15 (by decide) (by decide) (by decide) (by decide) (by decide) (by decide)).trans (by show f_5 15 = _; exact ((w_5 15 (by decide) (by decide) (by decide) (by decide)).trans (by show f_4 15 = _; exact ((w_4 15 (by decide) (by decide) (by decide) (by decide) (by decide) (by decide)).trans (by show f_3 15 = _; exact ((w_3 15 (by decide) (by decide) (by decide) (by decide) (by decide) (by decide) (by decide) (by decide) (by decide) (by decide) (by decide) (by decide) (by decide) (by decide) (by decide) (by decide)).trans (by show f_2 15 = _; exact k_2_15))))))))))))), (by show f_8 16 = _; exact ((w_8 16 (by decide) (by decide) (by decide) (by decide)).trans (by show f_7 16 = _; exact ((w_7 16 (by decide) (by decide) (by decide) (by decide) (by decide) (by decide) (by decide) (by decide) (by decide) (by decide)).trans (by show f_6 16 = _; exact ((w_6 16 (by decide) (by decide) (by decide) (by decide) (by decide) (by decide)).trans (by show f_5 16 = _; exact ((w_5 16 (by decide) (by decide) (by decide) (by decide)).trans (by show f_4 16 = _; exact ((w_4 16 (by decide) (by decide) (by decide) (by decide) (by decide) (by decide)).trans (by show f_3 16 = _; exact ((w_3 16 (by decide) (by decide) (by decide) (by decide) (by decide) (by decide) (by decide) (by decide) (by decide) (by decide) (by decide) (by decide) (by decide) (by decide) (by decide) (by decide)).trans (by show f_2 16 = _; exact k_2_16))))))))))))), (by show f_8 17 = _; exact ((w_8 17 (by decide) (by decide) (by decide) (by decide)).trans (by show f_7 17 = _; exact ((w_7 17 (by decide) (by decide) (by decide) (by decide) (by decide) (by decide) (by decide) (by decide) (by decide) (by decide)).trans (by show f_6 17 = _; exact ((w_6 17 (by decide) (by decide) (by decide) (by decide) (by decide) (by decide)).trans (by show f_5 17 = _; exact ((w_5 17 (by decide) (by decide) (by decide) (by decide)).trans (by show f_4 17 = _; exact ((w_4 17 (by decide) (by decide) (by decide) (by decide) (by decide) (by decide)).trans (by show f_3 17 = _; exact ((w_3 17 (by decide) (by decide) (by decide) (by decide) (by decide) (by decide) (by decide) (by decide) (by decide) (by decide) (by decide) (by decide) (by decide) (by decide) (by decide) (by decide)).trans (by show f_2 17 = _; exact k_2_17))))))))))))), (by show f_8 18 = _; exact ((w_8 18 (by decide) (by decide) (by decide) (by decide)).trans (by show f_7 18 = _; exact ((w_7 18 (by decide) (by decide) (by decide) (by decide) (by decide) (by decide) (by decide) (by decide) (by decide) (by decide)).trans (by show f_6 18 = _; exact ((w_6 18 (by decide) (by decide) (by decide) (by decide) (by decide) (by decide)).trans (by show f_5 18 = _; exact ((w_5 18 (by decide) (by decide) (by decide) (by decide)).trans (by show f_4 18 = _; exact ((w_4 18 (by decide) (by decide) (by decide) (by decide) (by decide) (by decide)).trans (by show f_3 18 = _; exact ((w_3 18 (by decide) (by decide) (by decide) (by decide) (by decide) (by decide) (by decide) (by decide) (by decide) (by decide) (by decide) (by decide) (by decide) (by decide) (by decide) (by decide)).trans (by show f_2 18 = _; exact k_2_18))))))))))))), (by show f_8 19 = _; exact ((w_8 19 (by decide) (by decide) (by decide) (by decide)).trans (by show f_7 19 = _; exact ((w_7 19 (by decide) (by decide) (by decide) (by decide) (by decide) (by decide) (by decide) (by decide) (by decide) (by decide)).trans (by show f_6 19 = _; exact ((w_6 19 (by decide) (by decide) (by decide) (by decide) (by decide) (by decide)).trans (by show f_5 19 = _; exact ((w_5 19 (by decide) (by decide) (by decide) (by decide)).trans (by show f_4 19 = _; exact ((w_4 19 (by decide) (by decide) (by decide) (by decide) (by decide) (by decide)).trans (by show f_3 19 = _; exact ((w_3 19 (by decide) (by decide) (by decide) (by decide) (by decide) (by decide) (by decide) (by decide) (by decide) (by decide) (by decide) (by decide) (by decide) (by decide) (by decide) (by decide)).trans (by show f_2 19 = _; exact k_2_19))))))))))))), (by show f_8 20 = _; exact ((w_8 20 (by decide) (by decide) (by decide) (by decide)).trans (by show f_7 20 = _; exact ((w_7 20 (by decide) (by decide) (by decide) (by decide) (by decide) (by decide) (by decide) (by decide) (by decide) (by decide)).trans (by show f_6 20 = _; exact ((w_6 20 (by decide) (by decide) (by decide) (by decide) (by decide) (by decide)).trans (by show f_5 20 = _; exact ((w_5 20 (by decide) (by decide) (by decide) (by decide)).trans (by show f_4 20 = _; exact ((w_4 20 (by decide) (by decide) (by decide) (by decide) (by decide) (by decide)).trans rfl)))))))))), (by show f_8 21 = _; exact ((w_8 21 (by decide) (by decide) (by decide) (by decide)).trans (by show f_7 21 = _; exact ((w_7 21 (by decide) (by decide) (by decide) (by decide) (by decide) (by decide) (by decide) (by decide) (by decide) (by decide)).trans (by show f_6 21 = _; exact ((w_6 21 (by decide) (by decide) (by decide) (by decide) (by decide) (by decide)).trans (by show f_5 21 = _; exact ((w_5 21 (by decide) (by decide) (by decide) (by decide)).trans (by show f_4 21 = _; exact ((w_4 21 (by decide) (by decide) (by decide) (by decide) (by decide) (by decide)).trans (by show f_3 21 = _; exact k_3_21))))))))))), (by show f_8 22 = _; exact ((w_8 22 (by decide) (by decide) (by decide) (by decide)).trans (by show f_7 22 = _; exact ((w_7 22 (by decide) (by decide) (by decide) (by decide) (by decide) (by decide) (by decide) (by decide) (by decide) (by decide)).trans (by show f_6 22 = _; exact ((w_6 22 (by decide) (by decide) (by decide) (by decide) (by decide) (by decide)).trans (by show f_5 22 = _; exact ((w_5 22 (by decide) (by decide) (by decide) (by decide)).trans (by show f_4 22 = _; exact ((w_4 22 (by decide) (by decide) (by decide) (by decide) (by decide) (by decide)).trans (by show f_3 22 = _; exact k_3_22))))))))))), (by show f_8 23 = _; exact ((w_8 23 (by decide) (by decide) (by decide) (by decide)).trans (by show f_7 23 = _; exact ((w_7 23 (by decide) (by decide) (by decide) (by decide) (by decide) (by decide) (by decide) (by decide) (by decide) (by decide)).trans (by show f_6 23 = _; exact ((w_6 23 (by decide) (by decide) (by decide) (by decide) (by decide) (by decide)).trans (by show f_5 23 = _; exact ((w_5 23 (by decide) (by decide) (by decide) (by decide)).trans (by show f_4 23 = _; exact ((w_4 23 (by decide) (by decide) (by decide) (by decide) (by decide) (by decide)).trans (by show f_3 23 = _; exact k_3_23))))))))))), (by show f_8 24 = _; exact ((w_8 24 (by decide) (by decide) (by decide) (by decide)).trans (by show f_7 24 = _; exact ((w_7 24 (by decide) (by decide) (by decide) (by decide) (by decide) (by decide) (by decide) (by decide) (by decide) (by decide)).trans (by show f_6 24 = _; exact ((w_6 24 (by decide) (by decide) (by decide) (by decide) (by decide) (by decide)).trans (by show f_5 24 = _; exact ((w_5 24 (by decide) (by decide) (by decide) (by decide)).trans (by show f_4 24 = _; exact ((w_4 24 (by decide) (by decide) (by decide) (by decide) (by decide) (by decide)).trans (by show f_3 24 = _; exact k_3_24))))))))))), (by show f_8 25 = _; exact ((w_8 25 (by decide) (by decide) (by decide) (by decide)).trans (by show f_7 25 = _; exact ((w_7 25 (by decide) (by decide) (by decide) (by decide) (by decide) (by decide) (by decide) (by decide) (by decide) (by decide)).trans (by show f_6 25 = _; exact ((w_6 25 (by decide) (by decide) (by decide) (by decide) (by decide) (by decide)).trans (by show f_5 25 = _; exact ((w_5 25 (by decide) (by decide) (by decide) (by decide)).trans (by show f_4 25 = _; exact ((w_4 25 (by decide) (by decide) (by decide) (by decide) (by decide) (by decide)).trans (by show f_3 25 = _; exact k_3_25))))))))))), (by show f_8 26 = _; exact ((w_8 26 (by decide) (by decide) (by decide) (by decide)).trans (by show f_7 26 = _; exact ((w_7 26 (by decide) (by decide) (by decide) (by decide) (by decide) (by decide) (by decide) (by decide) (by decide) (by decide)).trans (by show f_6 26 = _; exact ((w_6 26 (by decide) (by decide) (by decide) (by decide) (by decide) (by decide)).trans (by show f_5 26 = _; exact ((w_5 26 (by decide) (by decide) (by decide) (by decide)).trans (by show f_4 26 = _; exact ((w_4 26 (by decide) (by decide) (by decide) (by decide) (by decide) (by decide)).trans (by show f_3 26 = _; exact k_3_26))))))))))), (by show f_8 27 = _; exact ((w_8 27 (by decide) (by decide) (by decide) (by decide)).trans (by show f_7 27 = _; exact ((w_7 27 (by decide) (by decide) (by decide) (by decide) (by decide) (by decide) (by decide) (by decide) (by decide) (by decide)).trans (by show f_6 27 = _; exact ((w_6 27 (by decide) (by decide) (by decide) (by decide) (by decide) (by decide)).trans (by show f_5 27 = _; exact ((w_5 27 (by decide) (by decide) (by decide) (by decide)).trans (by show f_4 27 = _; exact ((w_4 27 (by decide) (by decide) (by decide) (by decide) (by decide) (by decide)).trans (by show f_3 27 = _; exact k_3_27))))))))))), (by show f_8 28 = _; exact ((w_8 28 (by decide) (by decide) (by decide) (by decide)).trans (by show f_7 28 = _; exact ((w_7 28 (by decide) (by decide) (by decide) (by decide) (by decide) (by decide) (by decide) (by decide) (by decide) (by decide)).trans (by show f_6 28 = _; exact ((w_6 28 (by decide) (by decide) (by decide) (by decide) (by decide) (by decide)).trans (by show f_5 28 = _; exact ((w_5 28 (by decide) (by decide) (by decide) (by decide)).trans (by show f_4 28 = _; exact ((w_4 28 (by decide) (by decide) (by decide) (by decide) (by decide) (by decide)).trans (by show f_3 28 = _; exact k_3_28))))))))))), (by show f_8 29 = _; exact ((w_8 29 (by decide) (by decide) (by decide) (by decide)).trans (by show f_7 29 = _; exact ((w_7 29 (by decide) (by decide) (by decide) (by decide) (by decide) (by decide) (by decide) (by decide) (by decide) (by decide)).trans (by show f_6 29 = _; exact ((w_6 29 (by decide) (by decide) (by decide) (by decide) (by decide) (by decide)).trans (by show f_5 29 = _; exact ((w_5 29 (by decide) (by decide) (by decide) (by decide)).trans (by show f_4 29 = _; exact ((w_4 29 (by decide) (by decide) (by decide) (by decide) (by decide) (by decide)).trans (by show f_3 29 = _; exact k_3_29))))))))))), (by show f_8 30 = _; exact ((w_8 30 (by decide) (by decide) (by decide) (by decide)).trans (by show f_7 30 = _; exact ((w_7 30 (by decide) (by decide) (by decide) (by decide) (by decide) (by decide) (by decide) (by decide) (by decide) (by decide)).trans (by show f_6 30 = _; exact ((w_6 30 (by decide) (by decide) (by decide) (by decide) (by decide) (by decide)).trans (by show f_5 30 = _; exact ((w_5 30 (by decide) (by decide) (by decide) (by decide)).trans (by show f_4 30 = _; exact ((w_4 30 (by decide) (by decide) (by decide) (by decide) (by decide) (by decide)).trans (by show f_3 30 = _; exact k_3_30))))))))))), (by show f_8 31 = _; exact ((w_8 31 (by decide) (by decide) (by decide) (by decide)).trans (by show f_7 31 = _; exact ((w_7 31 (by decide) (by decide) (by decide) (by decide) (by decide) (by decide) (by decide) (by decide) (by decide) (by decide)).trans (by show f_6 31 = _; exact ((w_6 31 (by decide) (by decide) (by decide) (by decide) (by decide) (by decide)).trans (by show f_5 31 = _; exact ((w_5 31 (by decide) (by decide) (by decide) (by decide)).trans (by show f_4 31 = _; exact ((w_4 31 (by decide) (by decide) (by decide) (by decide) (by decide) (by decide)).trans (by show f_3 31 = _; exact k_3_31))))))))))), (by show f_8 32 = _; exact ((w_8 32 (by decide) (by decide) (by decide) (by decide)).trans (by show f_7 32 = _; exact ((w_7 32 (by decide) (by decide) (by decide) (by decide) (by decide) (by decide) (by decide) (by decide) (by decide) (by decide)).trans (by show f_6 32 = _; exact ((w_6 32 (by decide) (by decide) (by decide) (by decide) (by decide) (by decide)).trans (by show f_5 32 = _; exact ((w_5 32 (by decide) (by decide) (by decide) (by decide)).trans (by show f_4 32 = _; exact ((w_4 32 (by decide) (by decide) (by decide) (by decide) (by decide) (by decide)).trans (by show f_3 32 = _; exact k_3_32))))))))))), (by show f_8 33 = _; exact ((w_8 33 (by decide) (by decide) (by decide) (by decide)).trans (by show f_7 33 = _; exact ((w_7 33 (by decide) (by decide) (by decide) (by decide) (by decide) (by decide) (by decide) (by decide) (by decide) (by decide)).trans (by show f_6 33 = _; exact ((w_6 33 (by decide) (by decide) (by decide) (by decide) (by decide) (by decide)).trans (by show f_5 33 = _; exact ((w_5 33 (by decide) (by decide) (by decide) (by decide)).trans (by show f_4 33 = _; exact ((w_4 33 (by decide) (by decide) (by decide) (by decide) (by decide) (by decide)).trans (by show f_3 33 = _; exact k_3_33))))))))))), (by show f_8 34 = _; exact ((w_8 34 (by decide) (by decide) (by decide) (by decide)).trans (by show f_7 34 = _; exact ((w_7 34 (by decide) (by decide) (by decide) (by decide) (by decide) (by decide) (by decide) (by decide) (by decide) (by decide)).trans (by show f_6 34 = _; exact ((w_6 34 (by decide) (by decide) (by decide) (by decide) (by decide) (by decide)).trans (by show f_5 34 = _; exact ((w_5 34 (by decide) (by decide) (by decide) (by decide)).trans (by show f_4 34 = _; exact ((w_4 34 (by decide) (by decide) (by decide) (by decide) (by decide) (by decide)).trans (by show f_3 34 = _; exact k_3_34))))))))))), (by show f_8 35 = _; exact ((w_8 35 (by decide) (by decide) (by decide) (by decide)).trans (by show f_7 35 = _; exact ((w_7 35 (by decide) (by decide) (by decide) (by decide) (by decide) (by decide) (by decide) (by decide) (by decide) (by decide)).trans (by show f_6 35 = _; exact ((w_6 35 (by decide) (by decide) (by decide) (by decide) (by decide) (by decide)).trans (by show f_5 35 = _; exact ((w_5 35 (by decide) (by decide) (by decide) (by decide)).trans (by show f_4 35 = _; exact ((w_4 35 (by decide) (by decide) (by decide) (by decide) (by decide) (by decide)).trans (by show f_3 35 = _; exact k_3_35))))))))))), (by show f_8 36 = _; exact ((w_8 36 (by decide) (by decide) (by decide) (by decide)).trans (by show f_7 36 = _; exact ((w_7 36 (by decide) (by decide) (by decide) (by decide) (by decide) (by decide) (by decide) (by decide) (by decide) (by decide)).trans (by show f_6 36 = _; exact ((w_6 36 (by decide) (by decide) (by decide) (by decide) (by decide) (by decide)).trans (by show f_5 36 = _; exact ((w_5 36 (by decide) (by decide) (by decide) (by decide)).trans (by show f_4 36 = _; exact k_4_36))))))))), (by show f_8 37 = _; exact ((w_8 37 (by decide) (by decide) (by decide) (by decide)).trans (by show f_7 37 = _; exact ((w_7 37 (by decide) (by decide) (by decide) (by decide) (by decide) (by decide) (by decide) (by decide) (by decide) (by decide)).trans (by show f_6 37 = _; exact ((w_6 37 (by decide) (by decide) (by decide) (by decide) (by decide) (by decide)).trans (by show f_5 37 = _; exact ((w_5 37 (by decide) (by decide) (by decide) (by decide)).trans (by show f_4 37 = _; exact k_4_37))))))))), (by show f_8 38 = _; exact ((w_8 38 (by decide) (by decide) (by decide) (by decide)).trans (by show f_7 38 = _; exact ((w_7 38 (by decide) (by decide) (by decide) (by decide) (by decide) (by decide) (by decide) (by decide) (by decide) (by decide)).trans (by show f_6 38 = _; exact ((w_6 38 (by decide) (by decide) (by decide) (by decide) (by decide) (by decide)).trans (by show f_5 38 = _; exact ((w_5 38 (by decide) (by decide) (by decide) (by decide)).trans (by show f_4 38 = _; exact k_4_38))))))))), (by show f_8 39 = _; exact ((w_8 39 (by decide) (by decide) (by decide) (by decide)).trans (by show f_7 39 = _; exact ((w_7 39 (by decide) (by decide) (by decide) (by decide) (by decide) (by decide) (by decide) (by decide) (by decide) (by decide)).trans (by show f_6 39 = _; exact ((w_6 39 (by decide) (by decide) (by decide) (by decide) (by decide) (by decide)).trans (by show f_5 39 = _; exact ((w_5 39 (by decide) (by decide) (by decide) (by decide)).trans (by show f_4 39 = _; exact k_4_39))))))))), (by show f_8 40 = _; exact ((w_8 40 (by decide) (by decide) (by decide) (by decide)).trans (by show f_7 40 = _; exact ((w_7 40 (by decide) (by decide) (by decide) (by decide) (by decide) (by decide) (by decide) (by decide) (by decide) (by decide)).trans (by show f_6 40 = _; exact ((w_6 40 (by decide) (by decide) (by decide) (by decide) (by decide) (by decide)).trans (by show f_5 40 = _; exact ((w_5 40 (by decide) (by decide) (by decide) (by decide)).trans (by show f_4 40 = _; exact k_4_40))))))))), (by show f_8 41 = _; exact ((w_8 41 (by decide) (by decide) (by decide) (by decide)).trans (by show f_7 41 = _; exact ((w_7 41 (by decide) (by decide) (by decide) (by decide) (by decide) (by decide) (by decide) (by decide) (by decide) (by decide)).trans (by show f_6 41 = _; exact ((w_6 41 (by decide) (by decide) (by decide) (by decide) (by decide) (by decide)).trans (by show f_5 41 = _; exact ((w_5 41 (by decide) (by decide) (by decide) (by decide)).trans (by show f_4 41 = _; exact k_4_41))))))))), (by show f_8 42 = _; exact ((w_8 42 (by decide) (by decide) (by decide) (by decide)).trans (by show f_7 42 = _; exact ((w_7 42 (by decide) (by decide) (by decide) (by decide) (by decide) (by decide) (by decide) (by decide) (by decide) (by decide)).trans (by show f_6 42 = _; exact ((w_6 42 (by decide) (by decide) (by decide) (by decide) (by decide) (by decide)).trans (by show f_5 42 = _; exact k_5_42))))))), (by show f_8 43 = _; exact ((w_8 43 (by decide) (by decide) (by decide) (by decide)).trans (by show f_7 43 = _; exact ((w_7 43 (by decide) (by decide) (by decide) (by decide) (by decide) (by decide) (by decide) (by decide) (by decide) (by decide)).trans (by show f_6 43 = _; exact ((w_6 43 (by decide) (by decide) (by decide) (by decide) (by decide) (by decide)).trans (by show f_5 43 = _; exact k_5_43))))))), (by show f_8 44 = _; exact ((w_8 44 (by decide) (by decide) (by decide) (by decide)).trans (by show f_7 44 = _; exact ((w_7 44 (by decide) (by decide) (by decide) (by decide) (by decide) (by decide) (by decide) (by decide) (by decide) (by decide)).trans (by show f_6 44 = _; exact ((w_6 44 (by decide) (by decide) (by decide) (by decide) (by decide) (by decide)).trans (by show f_5 44 = _; exact k_5_44))))))), (by show f_8 45 = _; exact ((w_8 45 (by decide) (by decide) (by decide) (by decide)).trans (by show f_7 45 = _; exact ((w_7 45 (by decide) (by decide) (by decide) (by decide) (by decide) (by decide) (by decide) (by decide) (by decide) (by decide)).trans (by show f_6 45 = _; exact ((w_6 45 (by decide) (by decide) (by decide) (by decide) (by decide) (by decide)).trans (by show f_5 45 = _; exact k_5_45))))))), (by show f_8 46 = _; exact ((w_8 46 (by decide) (by decide) (by decide) (by decide)).trans (by show f_7 46 = _; exact ((w_7 46 (by decide) (by decide) (by decide) (by decide) (by decide) (by decide) (by decide) (by decide) (by decide) (by decide)).trans (by show f_6 46 = _; exact k_6_46))))), (by show f_8 47 = _; exact ((w_8 47 (by decide) (by decide) (by decide) (by decide)).trans (by show f_7 47 = _; exact ((w_7 47 (by decide) (by decide) (by decide) (by decide) (by decide) (by decide) (by decide) (by decide) (by decide) (by decide)).trans (by show f_6 47 = _; exact k_6_47))))), (by show f_8 48 = _; exact ((w_8 48 (by decide) (by decide) (by decide) (by decide)).trans (by show f_7 48 = _; exact ((w_7 48 (by decide) (by decide) (by decide) (by decide) (by decide) (by decide) (by decide) (by decide) (by decide) (by decide)).trans (by show f_6 48 = _; exact k_6_48))))), (by show f_8 49 = _; exact ((w_8 49 (by decide) (by decide) (by decide) (by decide)).trans (by show f_7 49 = _; exact ((w_7 49 (by decide) (by decide) (by decide) (by decide) (by decide) (by decide) (by decide) (by decide) (by decide) (by decide)).trans (by show f_6 49 = _; exact k_6_49))))), (by show f_8 50 = _; exact ((w_8 50 (by decide) (by decide) (by decide) (by decide)).trans (by show f_7 50 = _; exact ((w_7 50 (by decide) (by decide) (by decide) (by decide) (by decide) (by decide) (by decide) (by decide) (by decide) (by decide)).trans (by show f_6 50 = _; exact k_6_50))))), (by show f_8 51 = _; exact ((w_8 51 (by decide) (by decide) (by decide) (by decide)).trans (by show f_7 51 = _; exact ((w_7 51 (by decide) (by decide) (by decide) (by decide) (by decide) (by decide) (by decide) (by decide) (by decide) (by decide)).trans (by show f_6 51 = _; exact k_6_51))))), (by show f_8 52 = _; exact ((w_8 52 (by decide) (by decide) (by decide) (by decide)).trans (by show f_7 52 = _; exact k_7_52))), (by show f_8 53 = _; exact ((w_8 53 (by decide) (by decide) (by decide) (by decide)).trans (by show f_7 53 = _; exact k_7_53))), (by show f_8 54 = _; exact ((w_8 54 (by decide) (by decide) (by decide) (by decide)).trans (by show f_7 54 = _; exact k_7_54))), (by show f_8 55 = _; exact ((w_8 55 (by decide) (by decide) (by decide) (by decide)).trans (by show f_7 55 = _; exact k_7_55))), (by show f_8 56 = _; exact ((w_8 56 (by decide) (by decide) (by decide) (by decide)).trans (by show f_7 56 = _; exact k_7_56))), (by show f_8 57 = _; exact ((w_8 57 (by decide) (by decide) (by decide) (by decide)).trans (by show f_7 57 = _; exact k_7_57))), (by show f_8 58 = _; exact ((w_8 58 (by decide) (by decide) (by decide) (by decide)).trans (by show f_7 58 = _; exact k_7_58))), (by show f_8 59 = _; exact ((w_8 59 (by decide) (by decide) (by decide) (by decide)).trans (by show f_7 59 = _; exact k_7_59))), (by show f_8 60 = _; exact ((w_8 60 (by decide) (by decide) (by decide) (by decide)).trans (by show f_7 60 = _; exact k_7_60))), (by show f_8 61 = _; exact ((w_8 61 (by decide) (by decide) (by decide) (by decide)).trans (by show f_7 61 = _; exact k_7_61))), (by show f_8 62 = _; exact k_8_62), (by show f_8 63 = _; exact k_8_63), (by show f_8 64 = _; exact k_8_64), (by show f_8 65 = _; exact k_8_65)⟩
  · intro b q1 q2 q3 q4 q5 q6 q7 q8 q9 q10 q11 q12 q13 q14 q15 q16 q17 q18 q19 q20 q21 q22 q23 q24 q25 q26 q27 q28 q29 q30 q31 q32 q33 q34 q35 q36 q37 q38 q39 q40 q41 q42 q43 q44 q45 q46 q47 q48 q49 q50 q51 q52 q53 q54 q55 q56 q57 q58 q59 q60 q61 q62 q63 q64 q65
    rw [va_up_ne _ _ q1]
    rw [va_up_ne _ _ q1]
    rw [va_up_ne _ _ q1]
    rw [va_up_ne _ _ q1]
    rw [va_up_ne _ _ q1]
    rw [w_8 b q62 q63 q64 q65]
    rw [va_up_ne _ _ q62]
    rw [va_up_ne _ _ q1]
    rw [va_up_ne _ _ q1]
    rw [w_7 b q52 q53 q54 q55 q56 q57 q58 q59 q60 q61]
    rw [va_up_ne _ _ q52]
    rw [va_up_ne _ _ q1]
    rw [va_up_ne _ _ q1]
    rw [w_6 b q46 q47 q48 q49 q50 q51]
    rw [va_up_ne _ _ q46]
    rw [va_up_ne _ _ q1]
    rw [w_5 b q42 q43 q44 q45]
    rw [va_up_ne _ _ q42]
    rw [va_up_ne _ _ q1]
    rw [va_up_ne _ _ q1]
    rw [w_4 b q36 q37 q38 q39 q40 q41]
    rw [va_up_ne _ _ q36]
    rw [va_up_ne _ _ q1]
    rw [va_up_ne _ _ q20]
    rw [va_up_ne _ _ q1]
    rw [w_3 b q20 q21 q22 q23 q24 q25 q26 q27 q28 q29 q30 q31 q32 q33 q34 q35]
    rw [va_up_ne _ _ q20]
    rw [va_up_ne _ _ q1]
    rw [va_up_ne _ _ q1]
    rw [w_2 b q4 q5 q6 q7 q8 q9 q10 q11 q12 q13 q14 q15 q16 q17 q18 q19]
    rw [va_up_ne _ _ q4]
    rw [va_up_ne _ _ q1]
    rw [va_up_ne _ _ q1]
    rw [w_1 b q2 q3]
    rw [va_up_ne _ _ q2]
/-- GameTextModel$Numbers.<init>()V, cell 67 -/
theorem ct_13 {d : Nat} {f : Nat → va_E} {nc ns : Nat} (h67 : f 67 = .inr (11, [.null, .int 0])) : ∃ f1 : Nat → va_E, vz_ev P0 (d + 1) 128 0 (lv_args 0 [.ref 67]) [] (67, f, nc, ns) (.inl none, (68, f1, nc + 1, ns + 16)) ∧ (f1 67 = .inr (11, [.ref 68, .int 0]) ∧ f1 68 = .inl (0, 16, .inl fun _ => 0)) ∧ ∀ b, b ≠ 67 → b ≠ 68 → f1 b = f b := by
  refine ⟨va_up (va_up (va_up f 67 (.inr (11, [.null, .int 0]))) 68 (.inl (0, 16, .inl fun _ => 0))) 67 (.inr (11, [.ref 68, .int 0])), ?_, ?_, ?_⟩
  · refine ev_hp (μ' := (67, va_up f 67 (.inr (11, [.null, .int 0])), nc + 0, ns + 0)) (congrArg (fun z => ((67 : Nat), z, nc + 0, ns + 0)) (va_up_of h67)) ?_
    refine ev_h (i := .aload_n 0) (len := 1) rfl rfl rfl ?_
    refine ev_obj (d := d + 0) rfl rfl rfl rfl ?_
    refine ev_h (i := .aload_n 0) (len := 1) rfl rfl rfl ?_
    refine ev_h (i := .bipush 16) (len := 2) rfl rfl rfl ?_
    refine ev_h (i := .newarray .int) (len := 2) rfl rfl rfl ?_
    refine ev_h (i := .putfield 7) (len := 3) rfl rfl rfl ?_
    exact ev_vret rfl rfl rfl
  · exact ⟨rfl, rfl⟩
  · intro b q67 q68
    rw [va_up_ne _ _ q67]
    rw [va_up_ne _ _ q68]
    rw [va_up_ne _ _ q67]
