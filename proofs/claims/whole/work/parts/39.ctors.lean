/-! THE CONSTRUCTORS, run by rows: written by wip/prog/gen_ctor.py -/
theorem va_up_of {α : Type} {f : Nat → α} {a : Nat} {x : α} (h : f a = x) : f = va_up f a x := by
  funext b
  by_cases e : b = a
  · subst e
    rw [va_up_self]
    exact h
  · rw [va_up_ne _ _ e]
/-- GameText$Words.<init>()V, cell 2 -/
theorem ct_1 {d : Nat} {f : Nat → va_E} {nc ns : Nat} (h2 : f 2 = .inr (1, [.null, .int 0, .int 0, .int 0, .int 0, .int 0, .int 0])) : ∃ f1 : Nat → va_E, vz_ev P0 (d + 1) 2 0 (lv_args 0 [.ref 2]) [] (2, f, nc, ns) (.inl none, (3, f1, nc + 1, ns + 256)) ∧ (f1 2 = .inr (1, [.ref 3, .int 0, .int 0, .int 264, .int 0, .int 0, .int 0]) ∧ f1 3 = .inl (0, 256, .inl fun _ => 0)) ∧ ∀ b, b ≠ 2 → b ≠ 3 → f1 b = f b := by
  refine ⟨va_up (va_up (va_up (va_up (va_up (va_up (va_up (va_up (va_up f 2 (.inr (1, [.null, .int 0, .int 0, .int 0, .int 0, .int 0, .int 0]))) 3 (.inl (0, 256, .inl fun _ => 0))) 2 (.inr (1, [.ref 3, .int 0, .int 0, .int 0, .int 0, .int 0, .int 0]))) 2 (.inr (1, [.ref 3, .int 0, .int 0, .int 0, .int 0, .int 0, .int 0]))) 2 (.inr (1, [.ref 3, .int 0, .int 0, .int 0, .int 0, .int 0, .int 0]))) 2 (.inr (1, [.ref 3, .int 0, .int 0, .int 264, .int 0, .int 0, .int 0]))) 2 (.inr (1, [.ref 3, .int 0, .int 0, .int 264, .int 0, .int 0, .int 0]))) 2 (.inr (1, [.ref 3, .int 0, .int 0, .int 264, .int 0, .int 0, .int 0]))) 2 (.inr (1, [.ref 3, .int 0, .int 0, .int 264, .int 0, .int 0, .int 0])), ?_, ?_, ?_⟩
  · refine ev_hp (μ' := (2, va_up f 2 (.inr (1, [.null, .int 0, .int 0, .int 0, .int 0, .int 0, .int 0])), nc + 0, ns + 0)) (congrArg (fun z => ((2 : Nat), z, nc + 0, ns + 0)) (va_up_of h2)) ?_
    refine ev_h (i := .aload_n 0) (len := 1) rfl rfl rfl ?_
    refine ev_obj (d := d + 0) rfl rfl rfl rfl ?_
    refine ev_h (i := .aload_n 0) (len := 1) rfl rfl rfl ?_
    refine ev_h (i := .sipush 256) (len := 3) rfl rfl rfl ?_
    refine ev_h (i := .newarray .int) (len := 2) rfl rfl rfl ?_
    refine ev_h (i := .putfield 9) (len := 3) rfl rfl rfl ?_
    refine ev_h (i := .aload_n 0) (len := 1) rfl rfl rfl ?_
    refine ev_h (i := .iconst 0) (len := 1) rfl rfl rfl ?_
    refine ev_h (i := .putfield 15) (len := 3) rfl rfl rfl ?_
    refine ev_h (i := .aload_n 0) (len := 1) rfl rfl rfl ?_
    refine ev_h (i := .iconst 0) (len := 1) rfl rfl rfl ?_
    refine ev_h (i := .putfield 19) (len := 3) rfl rfl rfl ?_
    refine ev_h (i := .aload_n 0) (len := 1) rfl rfl rfl ?_
    refine ev_h (i := .sipush 264) (len := 3) rfl rfl rfl ?_
    refine ev_h (i := .putfield 22) (len := 3) rfl rfl rfl ?_
    refine ev_h (i := .aload_n 0) (len := 1) rfl rfl rfl ?_
    refine ev_h (i := .iconst 0) (len := 1) rfl rfl rfl ?_
    refine ev_h (i := .putfield 25) (len := 3) rfl rfl rfl ?_
    refine ev_h (i := .aload_n 0) (len := 1) rfl rfl rfl ?_
    refine ev_h (i := .iconst 0) (len := 1) rfl rfl rfl ?_
    refine ev_h (i := .putfield 28) (len := 3) rfl rfl rfl ?_
    refine ev_h (i := .aload_n 0) (len := 1) rfl rfl rfl ?_
    refine ev_h (i := .iconst 0) (len := 1) rfl rfl rfl ?_
    refine ev_h (i := .putfield 31) (len := 3) rfl rfl rfl ?_
    exact ev_vret rfl rfl rfl
  · exact ⟨rfl, rfl⟩
  · intro b q2 q3
    rw [va_up_ne _ _ q2]
    rw [va_up_ne _ _ q2]
    rw [va_up_ne _ _ q2]
    rw [va_up_ne _ _ q2]
    rw [va_up_ne _ _ q2]
    rw [va_up_ne _ _ q2]
    rw [va_up_ne _ _ q2]
    rw [va_up_ne _ _ q3]
    rw [va_up_ne _ _ q2]
/-- GameText$Code.<init>()V, cell 5 -/
theorem ct_2 {d : Nat} {f : Nat → va_E} {nc ns : Nat} (h5 : f 5 = .inr (3, [.null, .null, .null, .null, .null, .null, .null, .null, .int 0])) : ∃ f1 : Nat → va_E, vz_ev P0 (d + 1) 4 0 (lv_args 0 [.ref 5]) [] (5, f, nc, ns) (.inl none, (13, f1, nc + 8, ns + 512)) ∧ (f1 5 = .inr (3, [.ref 6, .ref 7, .ref 8, .ref 9, .ref 10, .ref 11, .ref 12, .ref 13, .int 0]) ∧ f1 6 = .inl (0, 64, .inl fun _ => 0) ∧ f1 7 = .inl (0, 64, .inl fun _ => 0) ∧ f1 8 = .inl (0, 64, .inl fun _ => 0) ∧ f1 9 = .inl (0, 64, .inl fun _ => 0) ∧ f1 10 = .inl (0, 64, .inl fun _ => 0) ∧ f1 11 = .inl (0, 64, .inl fun _ => 0) ∧ f1 12 = .inl (0, 64, .inl fun _ => 0) ∧ f1 13 = .inl (0, 64, .inl fun _ => 0)) ∧ ∀ b, b ≠ 5 → b ≠ 6 → b ≠ 7 → b ≠ 8 → b ≠ 9 → b ≠ 10 → b ≠ 11 → b ≠ 12 → b ≠ 13 → f1 b = f b := by
  refine ⟨va_up (va_up (va_up (va_up (va_up (va_up (va_up (va_up (va_up (va_up (va_up (va_up (va_up (va_up (va_up (va_up (va_up (va_up f 5 (.inr (3, [.null, .null, .null, .null, .null, .null, .null, .null, .int 0]))) 6 (.inl (0, 64, .inl fun _ => 0))) 5 (.inr (3, [.ref 6, .null, .null, .null, .null, .null, .null, .null, .int 0]))) 7 (.inl (0, 64, .inl fun _ => 0))) 5 (.inr (3, [.ref 6, .ref 7, .null, .null, .null, .null, .null, .null, .int 0]))) 8 (.inl (0, 64, .inl fun _ => 0))) 5 (.inr (3, [.ref 6, .ref 7, .ref 8, .null, .null, .null, .null, .null, .int 0]))) 9 (.inl (0, 64, .inl fun _ => 0))) 5 (.inr (3, [.ref 6, .ref 7, .ref 8, .ref 9, .null, .null, .null, .null, .int 0]))) 10 (.inl (0, 64, .inl fun _ => 0))) 5 (.inr (3, [.ref 6, .ref 7, .ref 8, .ref 9, .ref 10, .null, .null, .null, .int 0]))) 11 (.inl (0, 64, .inl fun _ => 0))) 5 (.inr (3, [.ref 6, .ref 7, .ref 8, .ref 9, .ref 10, .ref 11, .null, .null, .int 0]))) 12 (.inl (0, 64, .inl fun _ => 0))) 5 (.inr (3, [.ref 6, .ref 7, .ref 8, .ref 9, .ref 10, .ref 11, .ref 12, .null, .int 0]))) 13 (.inl (0, 64, .inl fun _ => 0))) 5 (.inr (3, [.ref 6, .ref 7, .ref 8, .ref 9, .ref 10, .ref 11, .ref 12, .ref 13, .int 0]))) 5 (.inr (3, [.ref 6, .ref 7, .ref 8, .ref 9, .ref 10, .ref 11, .ref 12, .ref 13, .int 0])), ?_, ?_, ?_⟩
  · refine ev_hp (μ' := (5, va_up f 5 (.inr (3, [.null, .null, .null, .null, .null, .null, .null, .null, .int 0])), nc + 0, ns + 0)) (congrArg (fun z => ((5 : Nat), z, nc + 0, ns + 0)) (va_up_of h5)) ?_
    refine ev_h (i := .aload_n 0) (len := 1) rfl rfl rfl ?_
    refine ev_obj (d := d + 0) rfl rfl rfl rfl ?_
    refine ev_h (i := .aload_n 0) (len := 1) rfl rfl rfl ?_
    refine ev_h (i := .bipush 64) (len := 2) rfl rfl rfl ?_
    refine ev_h (i := .newarray .int) (len := 2) rfl rfl rfl ?_
    refine ev_h (i := .putfield 9) (len := 3) rfl rfl rfl ?_
    refine ev_h (i := .aload_n 0) (len := 1) rfl rfl rfl ?_
    refine ev_h (i := .bipush 64) (len := 2) rfl rfl rfl ?_
    refine ev_h (i := .newarray .int) (len := 2) rfl rfl rfl ?_
    refine ev_h (i := .putfield 15) (len := 3) rfl rfl rfl ?_
    refine ev_h (i := .aload_n 0) (len := 1) rfl rfl rfl ?_
    refine ev_h (i := .bipush 64) (len := 2) rfl rfl rfl ?_
    refine ev_h (i := .newarray .int) (len := 2) rfl rfl rfl ?_
    refine ev_h (i := .putfield 18) (len := 3) rfl rfl rfl ?_
    refine ev_h (i := .aload_n 0) (len := 1) rfl rfl rfl ?_
    refine ev_h (i := .bipush 64) (len := 2) rfl rfl rfl ?_
    refine ev_h (i := .newarray .int) (len := 2) rfl rfl rfl ?_
    refine ev_h (i := .putfield 21) (len := 3) rfl rfl rfl ?_
    refine ev_h (i := .aload_n 0) (len := 1) rfl rfl rfl ?_
    refine ev_h (i := .bipush 64) (len := 2) rfl rfl rfl ?_
    refine ev_h (i := .newarray .int) (len := 2) rfl rfl rfl ?_
    refine ev_h (i := .putfield 24) (len := 3) rfl rfl rfl ?_
    refine ev_h (i := .aload_n 0) (len := 1) rfl rfl rfl ?_
    refine ev_h (i := .bipush 64) (len := 2) rfl rfl rfl ?_
    refine ev_h (i := .newarray .int) (len := 2) rfl rfl rfl ?_
    refine ev_h (i := .putfield 27) (len := 3) rfl rfl rfl ?_
    refine ev_h (i := .aload_n 0) (len := 1) rfl rfl rfl ?_
    refine ev_h (i := .bipush 64) (len := 2) rfl rfl rfl ?_
    refine ev_h (i := .newarray .int) (len := 2) rfl rfl rfl ?_
    refine ev_h (i := .putfield 30) (len := 3) rfl rfl rfl ?_
    refine ev_h (i := .aload_n 0) (len := 1) rfl rfl rfl ?_
    refine ev_h (i := .bipush 64) (len := 2) rfl rfl rfl ?_
    refine ev_h (i := .newarray .int) (len := 2) rfl rfl rfl ?_
    refine ev_h (i := .putfield 33) (len := 3) rfl rfl rfl ?_
    refine ev_h (i := .aload_n 0) (len := 1) rfl rfl rfl ?_
    refine ev_h (i := .iconst 0) (len := 1) rfl rfl rfl ?_
    refine ev_h (i := .putfield 36) (len := 3) rfl rfl rfl ?_
    exact ev_vret rfl rfl rfl
  · exact ⟨rfl, rfl, rfl, rfl, rfl, rfl, rfl, rfl, rfl⟩
  · intro b q5 q6 q7 q8 q9 q10 q11 q12 q13
    rw [va_up_ne _ _ q5]
    rw [va_up_ne _ _ q5]
    rw [va_up_ne _ _ q13]
    rw [va_up_ne _ _ q5]
    rw [va_up_ne _ _ q12]
    rw [va_up_ne _ _ q5]
    rw [va_up_ne _ _ q11]
    rw [va_up_ne _ _ q5]
    rw [va_up_ne _ _ q10]
    rw [va_up_ne _ _ q5]
    rw [va_up_ne _ _ q9]
    rw [va_up_ne _ _ q5]
    rw [va_up_ne _ _ q8]
    rw [va_up_ne _ _ q5]
    rw [va_up_ne _ _ q7]
    rw [va_up_ne _ _ q5]
    rw [va_up_ne _ _ q6]
    rw [va_up_ne _ _ q5]
/-- GameText$Text.<init>()V, cell 4 -/
theorem ct_3 {d : Nat} {f : Nat → va_E} {nc ns : Nat} (h4 : f 4 = .inr (2, [.null, .null, .null, .null, .null, .null, .null, .int 0, .int 0, .int 0, .int 0, .int 0])) : ∃ f1 : Nat → va_E, vz_ev P0 (d + 2) 3 0 (lv_args 0 [.ref 4]) [] (4, f, nc, ns) (.inl none, (19, f1, nc + 15, ns + 689)) ∧ (f1 4 = .inr (2, [.ref 5, .ref 14, .ref 15, .ref 16, .ref 17, .ref 18, .ref 19, .int 0, .int 0, .int 0, .int 0, .int (-1)]) ∧ f1 5 = .inr (3, [.ref 6, .ref 7, .ref 8, .ref 9, .ref 10, .ref 11, .ref 12, .ref 13, .int 0]) ∧ f1 6 = .inl (0, 64, .inl fun _ => 0) ∧ f1 7 = .inl (0, 64, .inl fun _ => 0) ∧ f1 8 = .inl (0, 64, .inl fun _ => 0) ∧ f1 9 = .inl (0, 64, .inl fun _ => 0) ∧ f1 10 = .inl (0, 64, .inl fun _ => 0) ∧ f1 11 = .inl (0, 64, .inl fun _ => 0) ∧ f1 12 = .inl (0, 64, .inl fun _ => 0) ∧ f1 13 = .inl (0, 64, .inl fun _ => 0) ∧ f1 14 = .inl (0, 12, .inl fun _ => 0) ∧ f1 15 = .inl (0, 12, .inl fun _ => 0) ∧ f1 16 = .inl (0, 12, .inl fun _ => 0) ∧ f1 17 = .inl (0, 12, .inl fun _ => 0) ∧ f1 18 = .inl (0, 60, .inl fun _ => 0) ∧ f1 19 = .inl (0, 60, .inl fun _ => 0)) ∧ ∀ b, b ≠ 4 → b ≠ 5 → b ≠ 6 → b ≠ 7 → b ≠ 8 → b ≠ 9 → b ≠ 10 → b ≠ 11 → b ≠ 12 → b ≠ 13 → b ≠ 14 → b ≠ 15 → b ≠ 16 → b ≠ 17 → b ≠ 18 → b ≠ 19 → f1 b = f b := by
  obtain ⟨f_1, v_1, ⟨k_1_5, k_1_6, k_1_7, k_1_8, k_1_9, k_1_10, k_1_11, k_1_12, k_1_13⟩, w_1⟩ := ct_2 (d := d + 0) (f := va_up f 5 (.inr (3, [.null, .null, .null, .null, .null, .null, .null, .null, .int 0]))) (nc := nc + 1) (ns := ns + 9) rfl
  refine ⟨va_up (va_up (va_up (va_up (va_up (va_up (va_up (va_up (va_up (va_up (va_up (va_up (va_up (va_up (va_up (va_up (va_up (va_up (va_up f_1 4 (.inr (2, [.null, .null, .null, .null, .null, .null, .null, .int 0, .int 0, .int 0, .int 0, .int 0]))) 4 (.inr (2, [.ref 5, .null, .null, .null, .null, .null, .null, .int 0, .int 0, .int 0, .int 0, .int 0]))) 14 (.inl (0, 12, .inl fun _ => 0))) 4 (.inr (2, [.ref 5, .ref 14, .null, .null, .null, .null, .null, .int 0, .int 0, .int 0, .int 0, .int 0]))) 15 (.inl (0, 12, .inl fun _ => 0))) 4 (.inr (2, [.ref 5, .ref 14, .ref 15, .null, .null, .null, .null, .int 0, .int 0, .int 0, .int 0, .int 0]))) 16 (.inl (0, 12, .inl fun _ => 0))) 4 (.inr (2, [.ref 5, .ref 14, .ref 15, .ref 16, .null, .null, .null, .int 0, .int 0, .int 0, .int 0, .int 0]))) 17 (.inl (0, 12, .inl fun _ => 0))) 4 (.inr (2, [.ref 5, .ref 14, .ref 15, .ref 16, .ref 17, .null, .null, .int 0, .int 0, .int 0, .int 0, .int 0]))) 18 (.inl (0, 60, .inl fun _ => 0))) 4 (.inr (2, [.ref 5, .ref 14, .ref 15, .ref 16, .ref 17, .ref 18, .null, .int 0, .int 0, .int 0, .int 0, .int 0]))) 19 (.inl (0, 60, .inl fun _ => 0))) 4 (.inr (2, [.ref 5, .ref 14, .ref 15, .ref 16, .ref 17, .ref 18, .ref 19, .int 0, .int 0, .int 0, .int 0, .int 0]))) 4 (.inr (2, [.ref 5, .ref 14, .ref 15, .ref 16, .ref 17, .ref 18, .ref 19, .int 0, .int 0, .int 0, .int 0, .int 0]))) 4 (.inr (2, [.ref 5, .ref 14, .ref 15, .ref 16, .ref 17, .ref 18, .ref 19, .int 0, .int 0, .int 0, .int 0, .int 0]))) 4 (.inr (2, [.ref 5, .ref 14, .ref 15, .ref 16, .ref 17, .ref 18, .ref 19, .int 0, .int 0, .int 0, .int 0, .int 0]))) 4 (.inr (2, [.ref 5, .ref 14, .ref 15, .ref 16, .ref 17, .ref 18, .ref 19, .int 0, .int 0, .int 0, .int 0, .int 0]))) 4 (.inr (2, [.ref 5, .ref 14, .ref 15, .ref 16, .ref 17, .ref 18, .ref 19, .int 0, .int 0, .int 0, .int 0, .int (-1)])), ?_, ?_, ?_⟩
  · refine ev_h (i := .aload_n 0) (len := 1) rfl rfl rfl ?_
    refine ev_obj (d := d + 1) rfl rfl rfl rfl ?_
    refine ev_h (i := .aload_n 0) (len := 1) rfl rfl rfl ?_
    refine ev_h (i := .new 9) (len := 3) rfl rfl rfl ?_
    refine ev_h (i := .dup) (len := 1) rfl rfl rfl ?_
    refine ev_callI (d := d + 1) (As := []) (a := 5) rfl rfl rfl rfl rfl rfl rfl rfl v_1 ?_
    refine ev_hp (μ' := (13, va_up f_1 4 (.inr (2, [.null, .null, .null, .null, .null, .null, .null, .int 0, .int 0, .int 0, .int 0, .int 0])), nc + 9, ns + 521)) (congrArg (fun z => ((13 : Nat), z, nc + 9, ns + 521)) (va_up_of ((w_1 4 (by decide) (by decide) (by decide) (by decide) (by decide) (by decide) (by decide) (by decide) (by decide)).trans (by show f 4 = _; exact h4)))) ?_
    refine ev_h (i := .putfield 12) (len := 3) rfl rfl rfl ?_
    refine ev_h (i := .aload_n 0) (len := 1) rfl rfl rfl ?_
    refine ev_h (i := .bipush 12) (len := 2) rfl rfl rfl ?_
    refine ev_h (i := .newarray .int) (len := 2) rfl rfl rfl ?_
    refine ev_h (i := .putfield 18) (len := 3) rfl rfl rfl ?_
    refine ev_h (i := .aload_n 0) (len := 1) rfl rfl rfl ?_
    refine ev_h (i := .bipush 12) (len := 2) rfl rfl rfl ?_
    refine ev_h (i := .newarray .int) (len := 2) rfl rfl rfl ?_
    refine ev_h (i := .putfield 22) (len := 3) rfl rfl rfl ?_
    refine ev_h (i := .aload_n 0) (len := 1) rfl rfl rfl ?_
    refine ev_h (i := .bipush 12) (len := 2) rfl rfl rfl ?_
    refine ev_h (i := .newarray .int) (len := 2) rfl rfl rfl ?_
    refine ev_h (i := .putfield 25) (len := 3) rfl rfl rfl ?_
    refine ev_h (i := .aload_n 0) (len := 1) rfl rfl rfl ?_
    refine ev_h (i := .bipush 12) (len := 2) rfl rfl rfl ?_
    refine ev_h (i := .newarray .int) (len := 2) rfl rfl rfl ?_
    refine ev_h (i := .putfield 28) (len := 3) rfl rfl rfl ?_
    refine ev_h (i := .aload_n 0) (len := 1) rfl rfl rfl ?_
    refine ev_h (i := .bipush 60) (len := 2) rfl rfl rfl ?_
    refine ev_h (i := .newarray .int) (len := 2) rfl rfl rfl ?_
    refine ev_h (i := .putfield 31) (len := 3) rfl rfl rfl ?_
    refine ev_h (i := .aload_n 0) (len := 1) rfl rfl rfl ?_
    refine ev_h (i := .bipush 60) (len := 2) rfl rfl rfl ?_
    refine ev_h (i := .newarray .int) (len := 2) rfl rfl rfl ?_
    refine ev_h (i := .putfield 34) (len := 3) rfl rfl rfl ?_
    refine ev_h (i := .aload_n 0) (len := 1) rfl rfl rfl ?_
    refine ev_h (i := .iconst 0) (len := 1) rfl rfl rfl ?_
    refine ev_h (i := .putfield 37) (len := 3) rfl rfl rfl ?_
    refine ev_h (i := .aload_n 0) (len := 1) rfl rfl rfl ?_
    refine ev_h (i := .iconst 0) (len := 1) rfl rfl rfl ?_
    refine ev_h (i := .putfield 41) (len := 3) rfl rfl rfl ?_
    refine ev_h (i := .aload_n 0) (len := 1) rfl rfl rfl ?_
    refine ev_h (i := .iconst 0) (len := 1) rfl rfl rfl ?_
    refine ev_h (i := .putfield 44) (len := 3) rfl rfl rfl ?_
    refine ev_h (i := .aload_n 0) (len := 1) rfl rfl rfl ?_
    refine ev_h (i := .iconst 0) (len := 1) rfl rfl rfl ?_
    refine ev_h (i := .putfield 47) (len := 3) rfl rfl rfl ?_
    refine ev_h (i := .aload_n 0) (len := 1) rfl rfl rfl ?_
    refine ev_h (i := .iconst (-1)) (len := 1) rfl rfl rfl ?_
    refine ev_h (i := .putfield 50) (len := 3) rfl rfl rfl ?_
    exact ev_vret rfl rfl rfl
  · exact ⟨rfl, (by show f_1 5 = _; exact k_1_5), (by show f_1 6 = _; exact k_1_6), (by show f_1 7 = _; exact k_1_7), (by show f_1 8 = _; exact k_1_8), (by show f_1 9 = _; exact k_1_9), (by show f_1 10 = _; exact k_1_10), (by show f_1 11 = _; exact k_1_11), (by show f_1 12 = _; exact k_1_12), (by show f_1 13 = _; exact k_1_13), rfl, rfl, rfl, rfl, rfl, rfl⟩
  · intro b q4 q5 q6 q7 q8 q9 q10 q11 q12 q13 q14 q15 q16 q17 q18 q19
    rw [va_up_ne _ _ q4]
    rw [va_up_ne _ _ q4]
    rw [va_up_ne _ _ q4]
    rw [va_up_ne _ _ q4]
    rw [va_up_ne _ _ q4]
    rw [va_up_ne _ _ q4]
    rw [va_up_ne _ _ q19]
    rw [va_up_ne _ _ q4]
    rw [va_up_ne _ _ q18]
    rw [va_up_ne _ _ q4]
    rw [va_up_ne _ _ q17]
    rw [va_up_ne _ _ q4]
    rw [va_up_ne _ _ q16]
    rw [va_up_ne _ _ q4]
    rw [va_up_ne _ _ q15]
    rw [va_up_ne _ _ q4]
    rw [va_up_ne _ _ q14]
    rw [va_up_ne _ _ q4]
    rw [va_up_ne _ _ q4]
    rw [w_1 b q5 q6 q7 q8 q9 q10 q11 q12 q13]
    rw [va_up_ne _ _ q5]
/-- GameText$Code.<init>()V, cell 21 -/
theorem ct_4 {d : Nat} {f : Nat → va_E} {nc ns : Nat} (h21 : f 21 = .inr (3, [.null, .null, .null, .null, .null, .null, .null, .null, .int 0])) : ∃ f1 : Nat → va_E, vz_ev P0 (d + 1) 4 0 (lv_args 0 [.ref 21]) [] (21, f, nc, ns) (.inl none, (29, f1, nc + 8, ns + 512)) ∧ (f1 21 = .inr (3, [.ref 22, .ref 23, .ref 24, .ref 25, .ref 26, .ref 27, .ref 28, .ref 29, .int 0]) ∧ f1 22 = .inl (0, 64, .inl fun _ => 0) ∧ f1 23 = .inl (0, 64, .inl fun _ => 0) ∧ f1 24 = .inl (0, 64, .inl fun _ => 0) ∧ f1 25 = .inl (0, 64, .inl fun _ => 0) ∧ f1 26 = .inl (0, 64, .inl fun _ => 0) ∧ f1 27 = .inl (0, 64, .inl fun _ => 0) ∧ f1 28 = .inl (0, 64, .inl fun _ => 0) ∧ f1 29 = .inl (0, 64, .inl fun _ => 0)) ∧ ∀ b, b ≠ 21 → b ≠ 22 → b ≠ 23 → b ≠ 24 → b ≠ 25 → b ≠ 26 → b ≠ 27 → b ≠ 28 → b ≠ 29 → f1 b = f b := by
  refine ⟨va_up (va_up (va_up (va_up (va_up (va_up (va_up (va_up (va_up (va_up (va_up (va_up (va_up (va_up (va_up (va_up (va_up (va_up f 21 (.inr (3, [.null, .null, .null, .null, .null, .null, .null, .null, .int 0]))) 22 (.inl (0, 64, .inl fun _ => 0))) 21 (.inr (3, [.ref 22, .null, .null, .null, .null, .null, .null, .null, .int 0]))) 23 (.inl (0, 64, .inl fun _ => 0))) 21 (.inr (3, [.ref 22, .ref 23, .null, .null, .null, .null, .null, .null, .int 0]))) 24 (.inl (0, 64, .inl fun _ => 0))) 21 (.inr (3, [.ref 22, .ref 23, .ref 24, .null, .null, .null, .null, .null, .int 0]))) 25 (.inl (0, 64, .inl fun _ => 0))) 21 (.inr (3, [.ref 22, .ref 23, .ref 24, .ref 25, .null, .null, .null, .null, .int 0]))) 26 (.inl (0, 64, .inl fun _ => 0))) 21 (.inr (3, [.ref 22, .ref 23, .ref 24, .ref 25, .ref 26, .null, .null, .null, .int 0]))) 27 (.inl (0, 64, .inl fun _ => 0))) 21 (.inr (3, [.ref 22, .ref 23, .ref 24, .ref 25, .ref 26, .ref 27, .null, .null, .int 0]))) 28 (.inl (0, 64, .inl fun _ => 0))) 21 (.inr (3, [.ref 22, .ref 23, .ref 24, .ref 25, .ref 26, .ref 27, .ref 28, .null, .int 0]))) 29 (.inl (0, 64, .inl fun _ => 0))) 21 (.inr (3, [.ref 22, .ref 23, .ref 24, .ref 25, .ref 26, .ref 27, .ref 28, .ref 29, .int 0]))) 21 (.inr (3, [.ref 22, .ref 23, .ref 24, .ref 25, .ref 26, .ref 27, .ref 28, .ref 29, .int 0])), ?_, ?_, ?_⟩
  · refine ev_hp (μ' := (21, va_up f 21 (.inr (3, [.null, .null, .null, .null, .null, .null, .null, .null, .int 0])), nc + 0, ns + 0)) (congrArg (fun z => ((21 : Nat), z, nc + 0, ns + 0)) (va_up_of h21)) ?_
    refine ev_h (i := .aload_n 0) (len := 1) rfl rfl rfl ?_
    refine ev_obj (d := d + 0) rfl rfl rfl rfl ?_
    refine ev_h (i := .aload_n 0) (len := 1) rfl rfl rfl ?_
    refine ev_h (i := .bipush 64) (len := 2) rfl rfl rfl ?_
    refine ev_h (i := .newarray .int) (len := 2) rfl rfl rfl ?_
    refine ev_h (i := .putfield 9) (len := 3) rfl rfl rfl ?_
    refine ev_h (i := .aload_n 0) (len := 1) rfl rfl rfl ?_
    refine ev_h (i := .bipush 64) (len := 2) rfl rfl rfl ?_
    refine ev_h (i := .newarray .int) (len := 2) rfl rfl rfl ?_
    refine ev_h (i := .putfield 15) (len := 3) rfl rfl rfl ?_
    refine ev_h (i := .aload_n 0) (len := 1) rfl rfl rfl ?_
    refine ev_h (i := .bipush 64) (len := 2) rfl rfl rfl ?_
    refine ev_h (i := .newarray .int) (len := 2) rfl rfl rfl ?_
    refine ev_h (i := .putfield 18) (len := 3) rfl rfl rfl ?_
    refine ev_h (i := .aload_n 0) (len := 1) rfl rfl rfl ?_
    refine ev_h (i := .bipush 64) (len := 2) rfl rfl rfl ?_
    refine ev_h (i := .newarray .int) (len := 2) rfl rfl rfl ?_
    refine ev_h (i := .putfield 21) (len := 3) rfl rfl rfl ?_
    refine ev_h (i := .aload_n 0) (len := 1) rfl rfl rfl ?_
    refine ev_h (i := .bipush 64) (len := 2) rfl rfl rfl ?_
    refine ev_h (i := .newarray .int) (len := 2) rfl rfl rfl ?_
    refine ev_h (i := .putfield 24) (len := 3) rfl rfl rfl ?_
    refine ev_h (i := .aload_n 0) (len := 1) rfl rfl rfl ?_
    refine ev_h (i := .bipush 64) (len := 2) rfl rfl rfl ?_
    refine ev_h (i := .newarray .int) (len := 2) rfl rfl rfl ?_
    refine ev_h (i := .putfield 27) (len := 3) rfl rfl rfl ?_
    refine ev_h (i := .aload_n 0) (len := 1) rfl rfl rfl ?_
    refine ev_h (i := .bipush 64) (len := 2) rfl rfl rfl ?_
    refine ev_h (i := .newarray .int) (len := 2) rfl rfl rfl ?_
    refine ev_h (i := .putfield 30) (len := 3) rfl rfl rfl ?_
    refine ev_h (i := .aload_n 0) (len := 1) rfl rfl rfl ?_
    refine ev_h (i := .bipush 64) (len := 2) rfl rfl rfl ?_
    refine ev_h (i := .newarray .int) (len := 2) rfl rfl rfl ?_
    refine ev_h (i := .putfield 33) (len := 3) rfl rfl rfl ?_
    refine ev_h (i := .aload_n 0) (len := 1) rfl rfl rfl ?_
    refine ev_h (i := .iconst 0) (len := 1) rfl rfl rfl ?_
    refine ev_h (i := .putfield 36) (len := 3) rfl rfl rfl ?_
    exact ev_vret rfl rfl rfl
  · exact ⟨rfl, rfl, rfl, rfl, rfl, rfl, rfl, rfl, rfl⟩
  · intro b q21 q22 q23 q24 q25 q26 q27 q28 q29
    rw [va_up_ne _ _ q21]
    rw [va_up_ne _ _ q21]
    rw [va_up_ne _ _ q29]
    rw [va_up_ne _ _ q21]
    rw [va_up_ne _ _ q28]
    rw [va_up_ne _ _ q21]
    rw [va_up_ne _ _ q27]
    rw [va_up_ne _ _ q21]
    rw [va_up_ne _ _ q26]
    rw [va_up_ne _ _ q21]
    rw [va_up_ne _ _ q25]
    rw [va_up_ne _ _ q21]
    rw [va_up_ne _ _ q24]
    rw [va_up_ne _ _ q21]
    rw [va_up_ne _ _ q23]
    rw [va_up_ne _ _ q21]
    rw [va_up_ne _ _ q22]
    rw [va_up_ne _ _ q21]
