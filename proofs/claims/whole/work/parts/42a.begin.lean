/-! THE LAW'S BEGINNING: written by wip/prog/gen_layout.py -/
/-- the fields that are not 0 at the beginning; the changing references; the arrays' lengths -/
def s0t : List (Nat × List (Nat × Int32)) := [(1, [(9, (-1))]), (2, [(3, 264)]), (4, [(11, (-1))]), (20, [(11, (-1))]), (36, [(10, (-1))]), (42, [(5, 1), (6, (-1))]), (46, [(4, (-1)), (9, (-1)), (10, (-1)), (12, (-1))]), (62, [(8, (-1)), (9, (-1))]), (66, [(12, (-1)), (30, (-1))])]
def s0l : List (Nat × List (Nat × Int64)) := [(42, [(8, 1)])]
def s0r : List (Nat × List (Nat × Nat)) := [(1, [(5, 4), (6, 20)]), (36, [(7, 21)]), (42, [(3, 20), (4, 21)]), (46, [(2, 20), (3, 21)]), (62, [(5, 4), (6, 5)]), (66, [(1, 67), (2, 69), (9, 79), (10, 115)])]
def s0n : List (Nat × Nat) := [(3, 256), (6, 64), (7, 64), (8, 64), (9, 64), (10, 64), (11, 64), (12, 64), (13, 64), (14, 12), (15, 12), (16, 12), (17, 12), (18, 60), (19, 60), (22, 64), (23, 64), (24, 64), (25, 64), (26, 64), (27, 64), (28, 64), (29, 64), (30, 12), (31, 12), (32, 12), (33, 12), (34, 60), (35, 60), (37, 256), (38, 256), (39, 256), (40, 256), (41, 256), (43, 12), (44, 60), (45, 60), (48, 72), (49, 72), (50, 72), (51, 72), (53, 1024), (54, 192), (55, 16), (56, 17), (57, 16), (58, 17), (59, 16), (60, 16), (61, 16), (63, 8), (64, 8), (65, 12), (68, 16), (70, 16), (72, 16), (74, 16), (76, 16), (78, 16), (81, 16), (83, 16), (85, 16), (87, 16), (89, 16), (91, 16), (92, 60), (93, 60), (94, 60), (97, 12), (98, 12), (99, 12), (100, 12), (101, 60), (102, 60), (103, 60), (104, 60), (105, 480), (106, 480), (107, 480), (108, 480), (110, 16), (112, 16), (114, 16), (117, 16), (119, 16), (121, 16), (123, 16), (125, 16), (127, 16), (128, 60), (129, 60), (130, 60), (133, 12), (134, 12), (135, 12), (136, 12), (137, 60), (138, 60), (139, 60), (140, 60), (141, 480), (142, 480), (143, 480), (144, 480), (146, 16), (148, 16), (150, 16), (152, 16), (154, 16), (156, 16), (158, 16), (160, 16), (162, 16), (166, 16), (167, 12), (168, 60), (171, 6144), (172, 512), (173, 512), (174, 512), (176, 16), (178, 16), (180, 16), (181, 4096), (184, 12), (95, 60), (96, 60), (131, 60), (132, 60), (163, 16400), (164, 16400), (169, 60), (170, 60), (182, 4096), (183, 4096), (185, 8), (186, 8), (187, 1)]
def s0f (L : Nat) (xs : Nat → Int32) : Nat → va_E := fun _ => .inl (0, L, .inl xs)
/-- the store at the beginning -/
def s0 (L : Nat) (xs : Nat → Int32) : st_S := (fun a k => ((vz_lk s0t a).bind fun r => vz_lk r k).getD 0, fun a k => ((vz_lk s0l a).bind fun r => vz_lk r k).getD 0, fun a k => ((vz_lk s0r a).bind fun r => vz_lk r k).getD 0, fun a => (vz_lk s0n a).getD 0, fun _ _ => 0, fun _ _ => 0, 0, s0f L xs, 187, 63523)
def hAll {α : Type} (g : Nat → α) : List (Nat × α) → Prop
  | [] => True
  | q :: l => g q.1 = q.2 ∧ hAll g l
theorem hAll_app {α : Type} {g : Nat → α} {l1 l2 : List (Nat × α)} (h1 : hAll g l1) (h2 : hAll g l2) : hAll g (l1 ++ l2) := by
  induction l1 with
  | nil => exact h2
  | cons q l ih => exact ⟨h1.1, ih h1.2⟩
theorem hA_or {α : Type} {f g : Nat → α} {l : List (Nat × α)} (h : hAll g l) (b : Nat) : hA f l b = g b ∨ (l.all (fun q => !(Nat.beq q.1 b)) = true ∧ hA f l b = f b) := by
  induction l with
  | nil => exact Or.inr ⟨rfl, rfl⟩
  | cons q l ih =>
    show va_up (hA f l) q.1 q.2 b = g b ∨ ((!(Nat.beq q.1 b) && l.all (fun q => !(Nat.beq q.1 b))) = true ∧ va_up (hA f l) q.1 q.2 b = f b)
    by_cases e : b = q.1
    · subst e
      rw [va_up_self]
      exact Or.inl h.1.symm
    · rw [va_up_ne _ _ e]
      rcases ih h.2 with r | r
      · exact Or.inl r
      · refine Or.inr ⟨?_, r.2⟩
        rw [r.1, Bool.and_true]
        cases hb : Nat.beq q.1 b with
        | true => exact absurd (Nat.eq_of_beq_eq_true hb).symm e
        | false => rfl
set_option maxHeartbeats 4000000 in
set_option maxRecDepth 100000 in
theorem ok_2 (L : Nat) (xs : Nat → Int32) : hAll (st_c ly (s0 L xs)) cl_2 := (hAll_app (And.intro rfl (trivial)) (And.intro rfl (trivial)))
set_option maxHeartbeats 4000000 in
set_option maxRecDepth 100000 in
theorem ok_5 (L : Nat) (xs : Nat → Int32) : hAll (st_c ly (s0 L xs)) cl_5 := (hAll_app (And.intro rfl (trivial)) (And.intro rfl (And.intro rfl (And.intro rfl (And.intro rfl (And.intro rfl (And.intro rfl (And.intro rfl (And.intro rfl (trivial))))))))))
set_option maxHeartbeats 4000000 in
set_option maxRecDepth 100000 in
theorem ok_4 (L : Nat) (xs : Nat → Int32) : hAll (st_c ly (s0 L xs)) cl_4 := (hAll_app (hAll_app (And.intro rfl (trivial)) (And.intro rfl (And.intro rfl (And.intro rfl (And.intro rfl (And.intro rfl (And.intro rfl (trivial)))))))) (ok_5 L xs))
set_option maxHeartbeats 4000000 in
set_option maxRecDepth 100000 in
theorem ok_21 (L : Nat) (xs : Nat → Int32) : hAll (st_c ly (s0 L xs)) cl_21 := (hAll_app (And.intro rfl (trivial)) (And.intro rfl (And.intro rfl (And.intro rfl (And.intro rfl (And.intro rfl (And.intro rfl (And.intro rfl (And.intro rfl (trivial))))))))))
set_option maxHeartbeats 4000000 in
set_option maxRecDepth 100000 in
theorem ok_20 (L : Nat) (xs : Nat → Int32) : hAll (st_c ly (s0 L xs)) cl_20 := (hAll_app (hAll_app (And.intro rfl (trivial)) (And.intro rfl (And.intro rfl (And.intro rfl (And.intro rfl (And.intro rfl (And.intro rfl (trivial)))))))) (ok_21 L xs))
set_option maxHeartbeats 4000000 in
set_option maxRecDepth 100000 in
theorem ok_36 (L : Nat) (xs : Nat → Int32) : hAll (st_c ly (s0 L xs)) cl_36 := (hAll_app (And.intro rfl (trivial)) (And.intro rfl (And.intro rfl (And.intro rfl (And.intro rfl (And.intro rfl (trivial)))))))
set_option maxHeartbeats 4000000 in
set_option maxRecDepth 100000 in
theorem ok_42 (L : Nat) (xs : Nat → Int32) : hAll (st_c ly (s0 L xs)) cl_42 := (hAll_app (And.intro rfl (trivial)) (And.intro rfl (And.intro rfl (And.intro rfl (trivial)))))
set_option maxHeartbeats 4000000 in
set_option maxRecDepth 100000 in
theorem ok_47 (L : Nat) (xs : Nat → Int32) : hAll (st_c ly (s0 L xs)) cl_47 := (hAll_app (And.intro rfl (trivial)) (And.intro rfl (And.intro rfl (And.intro rfl (And.intro rfl (trivial))))))
set_option maxHeartbeats 4000000 in
set_option maxRecDepth 100000 in
theorem ok_46 (L : Nat) (xs : Nat → Int32) : hAll (st_c ly (s0 L xs)) cl_46 := (hAll_app (And.intro rfl (trivial)) (ok_47 L xs))
set_option maxHeartbeats 4000000 in
set_option maxRecDepth 100000 in
theorem ok_52 (L : Nat) (xs : Nat → Int32) : hAll (st_c ly (s0 L xs)) cl_52 := (hAll_app (And.intro rfl (trivial)) (And.intro rfl (And.intro rfl (And.intro rfl (And.intro rfl (And.intro rfl (And.intro rfl (And.intro rfl (And.intro rfl (And.intro rfl (trivial)))))))))))
set_option maxHeartbeats 4000000 in
set_option maxRecDepth 100000 in
theorem ok_62 (L : Nat) (xs : Nat → Int32) : hAll (st_c ly (s0 L xs)) cl_62 := (hAll_app (And.intro rfl (trivial)) (And.intro rfl (And.intro rfl (And.intro rfl (trivial)))))
set_option maxHeartbeats 4000000 in
set_option maxRecDepth 100000 in
theorem ok_1 (L : Nat) (xs : Nat → Int32) : hAll (st_c ly (s0 L xs)) cl_1 := (hAll_app (hAll_app (hAll_app (hAll_app (hAll_app (hAll_app (hAll_app (hAll_app (And.intro rfl (trivial)) (ok_62 L xs)) (ok_52 L xs)) (ok_46 L xs)) (ok_42 L xs)) (ok_36 L xs)) (ok_20 L xs)) (ok_4 L xs)) (ok_2 L xs))
set_option maxHeartbeats 4000000 in
set_option maxRecDepth 100000 in
theorem ok_67 (L : Nat) (xs : Nat → Int32) : hAll (st_c ly (s0 L xs)) cl_67 := (hAll_app (And.intro rfl (trivial)) (And.intro rfl (trivial)))
set_option maxHeartbeats 4000000 in
set_option maxRecDepth 100000 in
theorem ok_69 (L : Nat) (xs : Nat → Int32) : hAll (st_c ly (s0 L xs)) cl_69 := (hAll_app (And.intro rfl (trivial)) (And.intro rfl (trivial)))
set_option maxHeartbeats 4000000 in
set_option maxRecDepth 100000 in
theorem ok_71 (L : Nat) (xs : Nat → Int32) : hAll (st_c ly (s0 L xs)) cl_71 := (hAll_app (And.intro rfl (trivial)) (And.intro rfl (trivial)))
set_option maxHeartbeats 4000000 in
set_option maxRecDepth 100000 in
theorem ok_73 (L : Nat) (xs : Nat → Int32) : hAll (st_c ly (s0 L xs)) cl_73 := (hAll_app (And.intro rfl (trivial)) (And.intro rfl (trivial)))
set_option maxHeartbeats 4000000 in
set_option maxRecDepth 100000 in
theorem ok_75 (L : Nat) (xs : Nat → Int32) : hAll (st_c ly (s0 L xs)) cl_75 := (hAll_app (And.intro rfl (trivial)) (And.intro rfl (trivial)))
set_option maxHeartbeats 4000000 in
set_option maxRecDepth 100000 in
theorem ok_77 (L : Nat) (xs : Nat → Int32) : hAll (st_c ly (s0 L xs)) cl_77 := (hAll_app (And.intro rfl (trivial)) (And.intro rfl (trivial)))
set_option maxHeartbeats 4000000 in
set_option maxRecDepth 100000 in
theorem ok_80 (L : Nat) (xs : Nat → Int32) : hAll (st_c ly (s0 L xs)) cl_80 := (hAll_app (And.intro rfl (trivial)) (And.intro rfl (trivial)))
set_option maxHeartbeats 4000000 in
set_option maxRecDepth 100000 in
theorem ok_82 (L : Nat) (xs : Nat → Int32) : hAll (st_c ly (s0 L xs)) cl_82 := (hAll_app (And.intro rfl (trivial)) (And.intro rfl (trivial)))
set_option maxHeartbeats 4000000 in
set_option maxRecDepth 100000 in
theorem ok_84 (L : Nat) (xs : Nat → Int32) : hAll (st_c ly (s0 L xs)) cl_84 := (hAll_app (And.intro rfl (trivial)) (And.intro rfl (trivial)))
set_option maxHeartbeats 4000000 in
set_option maxRecDepth 100000 in
theorem ok_86 (L : Nat) (xs : Nat → Int32) : hAll (st_c ly (s0 L xs)) cl_86 := (hAll_app (And.intro rfl (trivial)) (And.intro rfl (trivial)))
set_option maxHeartbeats 4000000 in
set_option maxRecDepth 100000 in
theorem ok_88 (L : Nat) (xs : Nat → Int32) : hAll (st_c ly (s0 L xs)) cl_88 := (hAll_app (And.intro rfl (trivial)) (And.intro rfl (trivial)))
set_option maxHeartbeats 4000000 in
set_option maxRecDepth 100000 in
theorem ok_90 (L : Nat) (xs : Nat → Int32) : hAll (st_c ly (s0 L xs)) cl_90 := (hAll_app (And.intro rfl (trivial)) (And.intro rfl (trivial)))
set_option maxHeartbeats 4000000 in
set_option maxRecDepth 100000 in
theorem ok_109 (L : Nat) (xs : Nat → Int32) : hAll (st_c ly (s0 L xs)) cl_109 := (hAll_app (And.intro rfl (trivial)) (And.intro rfl (trivial)))
set_option maxHeartbeats 4000000 in
set_option maxRecDepth 100000 in
theorem ok_111 (L : Nat) (xs : Nat → Int32) : hAll (st_c ly (s0 L xs)) cl_111 := (hAll_app (And.intro rfl (trivial)) (And.intro rfl (trivial)))
set_option maxHeartbeats 4000000 in
set_option maxRecDepth 100000 in
theorem ok_113 (L : Nat) (xs : Nat → Int32) : hAll (st_c ly (s0 L xs)) cl_113 := (hAll_app (And.intro rfl (trivial)) (And.intro rfl (trivial)))
set_option maxHeartbeats 4000000 in
set_option maxRecDepth 100000 in
theorem ok_79 (L : Nat) (xs : Nat → Int32) : hAll (st_c ly (s0 L xs)) cl_79 := (hAll_app (hAll_app (hAll_app (hAll_app (hAll_app (hAll_app (hAll_app (hAll_app (hAll_app (hAll_app (And.intro rfl (trivial)) (ok_113 L xs)) (ok_111 L xs)) (ok_109 L xs)) (And.intro rfl (And.intro rfl (And.intro rfl (And.intro rfl (And.intro rfl (And.intro rfl (And.intro rfl (And.intro rfl (And.intro rfl (And.intro rfl (And.intro rfl (And.intro rfl (And.intro rfl (And.intro rfl (And.intro rfl (And.intro rfl (And.intro rfl (trivial))))))))))))))))))) (ok_90 L xs)) (ok_88 L xs)) (ok_86 L xs)) (ok_84 L xs)) (ok_82 L xs)) (ok_80 L xs))
set_option maxHeartbeats 4000000 in
set_option maxRecDepth 100000 in
theorem ok_116 (L : Nat) (xs : Nat → Int32) : hAll (st_c ly (s0 L xs)) cl_116 := (hAll_app (And.intro rfl (trivial)) (And.intro rfl (trivial)))
set_option maxHeartbeats 4000000 in
set_option maxRecDepth 100000 in
theorem ok_118 (L : Nat) (xs : Nat → Int32) : hAll (st_c ly (s0 L xs)) cl_118 := (hAll_app (And.intro rfl (trivial)) (And.intro rfl (trivial)))
set_option maxHeartbeats 4000000 in
set_option maxRecDepth 100000 in
theorem ok_120 (L : Nat) (xs : Nat → Int32) : hAll (st_c ly (s0 L xs)) cl_120 := (hAll_app (And.intro rfl (trivial)) (And.intro rfl (trivial)))
set_option maxHeartbeats 4000000 in
set_option maxRecDepth 100000 in
theorem ok_122 (L : Nat) (xs : Nat → Int32) : hAll (st_c ly (s0 L xs)) cl_122 := (hAll_app (And.intro rfl (trivial)) (And.intro rfl (trivial)))
set_option maxHeartbeats 4000000 in
set_option maxRecDepth 100000 in
theorem ok_124 (L : Nat) (xs : Nat → Int32) : hAll (st_c ly (s0 L xs)) cl_124 := (hAll_app (And.intro rfl (trivial)) (And.intro rfl (trivial)))
set_option maxHeartbeats 4000000 in
set_option maxRecDepth 100000 in
theorem ok_126 (L : Nat) (xs : Nat → Int32) : hAll (st_c ly (s0 L xs)) cl_126 := (hAll_app (And.intro rfl (trivial)) (And.intro rfl (trivial)))
set_option maxHeartbeats 4000000 in
set_option maxRecDepth 100000 in
theorem ok_145 (L : Nat) (xs : Nat → Int32) : hAll (st_c ly (s0 L xs)) cl_145 := (hAll_app (And.intro rfl (trivial)) (And.intro rfl (trivial)))
set_option maxHeartbeats 4000000 in
set_option maxRecDepth 100000 in
theorem ok_147 (L : Nat) (xs : Nat → Int32) : hAll (st_c ly (s0 L xs)) cl_147 := (hAll_app (And.intro rfl (trivial)) (And.intro rfl (trivial)))
set_option maxHeartbeats 4000000 in
set_option maxRecDepth 100000 in
theorem ok_149 (L : Nat) (xs : Nat → Int32) : hAll (st_c ly (s0 L xs)) cl_149 := (hAll_app (And.intro rfl (trivial)) (And.intro rfl (trivial)))
set_option maxHeartbeats 4000000 in
set_option maxRecDepth 100000 in
theorem ok_115 (L : Nat) (xs : Nat → Int32) : hAll (st_c ly (s0 L xs)) cl_115 := (hAll_app (hAll_app (hAll_app (hAll_app (hAll_app (hAll_app (hAll_app (hAll_app (hAll_app (hAll_app (And.intro rfl (trivial)) (ok_149 L xs)) (ok_147 L xs)) (ok_145 L xs)) (And.intro rfl (And.intro rfl (And.intro rfl (And.intro rfl (And.intro rfl (And.intro rfl (And.intro rfl (And.intro rfl (And.intro rfl (And.intro rfl (And.intro rfl (And.intro rfl (And.intro rfl (And.intro rfl (And.intro rfl (And.intro rfl (And.intro rfl (trivial))))))))))))))))))) (ok_126 L xs)) (ok_124 L xs)) (ok_122 L xs)) (ok_120 L xs)) (ok_118 L xs)) (ok_116 L xs))
set_option maxHeartbeats 4000000 in
set_option maxRecDepth 100000 in
theorem ok_151 (L : Nat) (xs : Nat → Int32) : hAll (st_c ly (s0 L xs)) cl_151 := (hAll_app (And.intro rfl (trivial)) (And.intro rfl (trivial)))
set_option maxHeartbeats 4000000 in
set_option maxRecDepth 100000 in
theorem ok_153 (L : Nat) (xs : Nat → Int32) : hAll (st_c ly (s0 L xs)) cl_153 := (hAll_app (And.intro rfl (trivial)) (And.intro rfl (trivial)))
set_option maxHeartbeats 4000000 in
set_option maxRecDepth 100000 in
theorem ok_155 (L : Nat) (xs : Nat → Int32) : hAll (st_c ly (s0 L xs)) cl_155 := (hAll_app (And.intro rfl (trivial)) (And.intro rfl (trivial)))
set_option maxHeartbeats 4000000 in
set_option maxRecDepth 100000 in
theorem ok_157 (L : Nat) (xs : Nat → Int32) : hAll (st_c ly (s0 L xs)) cl_157 := (hAll_app (And.intro rfl (trivial)) (And.intro rfl (trivial)))
set_option maxHeartbeats 4000000 in
set_option maxRecDepth 100000 in
theorem ok_159 (L : Nat) (xs : Nat → Int32) : hAll (st_c ly (s0 L xs)) cl_159 := (hAll_app (And.intro rfl (trivial)) (And.intro rfl (trivial)))
set_option maxHeartbeats 4000000 in
set_option maxRecDepth 100000 in
theorem ok_161 (L : Nat) (xs : Nat → Int32) : hAll (st_c ly (s0 L xs)) cl_161 := (hAll_app (And.intro rfl (trivial)) (And.intro rfl (trivial)))
set_option maxHeartbeats 4000000 in
set_option maxRecDepth 100000 in
theorem ok_165 (L : Nat) (xs : Nat → Int32) : hAll (st_c ly (s0 L xs)) cl_165 := (hAll_app (And.intro rfl (trivial)) (And.intro rfl (trivial)))
set_option maxHeartbeats 4000000 in
set_option maxRecDepth 100000 in
theorem ok_175 (L : Nat) (xs : Nat → Int32) : hAll (st_c ly (s0 L xs)) cl_175 := (hAll_app (And.intro rfl (trivial)) (And.intro rfl (trivial)))
set_option maxHeartbeats 4000000 in
set_option maxRecDepth 100000 in
theorem ok_177 (L : Nat) (xs : Nat → Int32) : hAll (st_c ly (s0 L xs)) cl_177 := (hAll_app (And.intro rfl (trivial)) (And.intro rfl (trivial)))
set_option maxHeartbeats 4000000 in
set_option maxRecDepth 100000 in
theorem ok_179 (L : Nat) (xs : Nat → Int32) : hAll (st_c ly (s0 L xs)) cl_179 := (hAll_app (And.intro rfl (trivial)) (And.intro rfl (trivial)))
set_option maxHeartbeats 4000000 in
set_option maxRecDepth 100000 in
theorem ok_66 (L : Nat) (xs : Nat → Int32) : hAll (st_c ly (s0 L xs)) cl_66 := (hAll_app (hAll_app (hAll_app (hAll_app (hAll_app (hAll_app (hAll_app (hAll_app (hAll_app (hAll_app (hAll_app (hAll_app (hAll_app (hAll_app (hAll_app (hAll_app (hAll_app (hAll_app (hAll_app (hAll_app (hAll_app (And.intro rfl (trivial)) (And.intro rfl (And.intro rfl (And.intro rfl (And.intro rfl (And.intro rfl (And.intro rfl (trivial)))))))) (ok_179 L xs)) (ok_177 L xs)) (ok_175 L xs)) (And.intro rfl (And.intro rfl (And.intro rfl (And.intro rfl (And.intro rfl (And.intro rfl (And.intro rfl (And.intro rfl (trivial)))))))))) (ok_165 L xs)) (And.intro rfl (And.intro rfl (trivial)))) (ok_161 L xs)) (ok_159 L xs)) (ok_157 L xs)) (ok_155 L xs)) (ok_153 L xs)) (ok_151 L xs)) (ok_115 L xs)) (ok_79 L xs)) (ok_77 L xs)) (ok_75 L xs)) (ok_73 L xs)) (ok_71 L xs)) (ok_69 L xs)) (ok_67 L xs))
def cl_all : List (Nat × va_E) := [(187, .inl (1, 1, .inr (.inl fun _ => 0)))] ++ (cl_66 ++ cl_1)
theorem ok_all (L : Nat) (xs : Nat → Int32) : hAll (st_c ly (s0 L xs)) cl_all := hAll_app (And.intro rfl trivial) (hAll_app (ok_66 L xs) (ok_1 L xs))
theorem ly_in : (ly.all fun p => !(cl_all.all fun q => !(Nat.beq q.1 p.1))) = true := by decide +kernel
theorem s0_eq (L : Nat) (xs : Nat → Int32) : hA (s0f L xs) cl_all = st_c ly (s0 L xs) := by
  funext b
  rcases hA_or (f := s0f L xs) (ok_all L xs) b with h | h
  · exact h
  · rw [h.2]
    unfold st_c
    cases e : vz_lk ly b with
    | none => rfl
    | some x =>
      have h1 := List.all_eq_true.mp ly_in _ (vz_lk_mem e)
      rw [show (cl_all.all fun q => !(Nat.beq q.1 (b, x).1)) = true from h.1] at h1
      cases h1
theorem s0_up (L : Nat) (xs : Nat → Int32) : va_up (hA (hA (s0f L xs) cl_1) cl_66) 187 (.inl (1, 1, .inr (.inl fun _ => 0))) = st_c ly (s0 L xs) := by
  rw [← s0_eq]
  unfold cl_all
  rw [hA_app, hA_app]
  rfl
set_option maxHeartbeats 4000000 in
set_option maxRecDepth 100000 in
/-- the law up to its loop -/
theorem law_begin {d : Nat} {L : Nat} {xs : Nat → Int32} {q : vz_O × vz_H} (k : vz_ev P0 (d + 4) 0 23 [(4, .int 0), (3, .ref 187), (2, .ref 66), (1, .ref 1), (0, .ref 0)] [] (hp (s0 L xs)) q) : vz_ev P0 (d + 4) 0 0 [(0, .ref 0)] [] (vs_0 L xs) q := by
  refine ev_x (i := .new 8) (len := 3) (p' := 3) (s' := [.ref 1]) (μ' := (1, va_up (s0f L xs) 1 (.inr (0, [.null, .null, .null, .null, .null, .null, .null, .int 0, .int 0, .int 0])), 0 + 1, 0 + 10)) rfl rfl rfl ?_
  refine ev_x (i := .dup) (len := 1) (p' := 4) (s' := [.ref 1, .ref 1]) rfl rfl rfl ?_
  refine ev_callI (d := d + 3) (As := []) (a := 1) rfl rfl rfl rfl rfl rfl rfl rfl (ct_12 (d := d)) ?_
  refine ev_x (i := .astore_n 1) (len := 1) (p' := 8) (l' := [(1, .ref 1), (0, .ref 0)]) (s' := []) rfl rfl rfl ?_
  refine ev_x (i := .new 28) (len := 3) (p' := 11) (s' := [.ref 66]) (μ' := (66, va_up (hA (s0f L xs) cl_1) 66 (.inr (10, [.int 0, .null, .null, .null, .null, .null, .null, .int 0, .int 0, .null, .null, .int 0, .int 0, .null, .null, .null, .int 0, .int 0, .null, .null, .null, .null, .null, .int 0, .null, .null, .null, .null, .null, .int 0, .int 0, .null, .null, .null, .null, .null, .null, .null, .int 0, .null, .null, .null, .null, .null, .null])), 0 + 1 + 64 + 1, 0 + 10 + 4791 + 45)) rfl rfl rfl ?_
  refine ev_x (i := .dup) (len := 1) (p' := 12) (s' := [.ref 66, .ref 66]) rfl rfl rfl ?_
  refine ev_callI (d := d + 3) (As := []) (a := 66) rfl rfl rfl rfl rfl rfl rfl rfl (ct_49 (d := d)) ?_
  refine ev_x (i := .astore_n 2) (len := 1) (p' := 16) (l' := [(2, .ref 66), (1, .ref 1), (0, .ref 0)]) (s' := []) rfl rfl rfl ?_
  refine ev_x (i := .iconst 1) (len := 1) (p' := 17) (s' := [.int 1]) rfl rfl rfl ?_
  refine ev_x (i := .newarray .long) (len := 2) (p' := 19) (s' := [.ref 187]) (μ' := (187, va_up (hA (hA (s0f L xs) cl_1) cl_66) 187 (.inl (1, 1, .inr (.inl fun _ => 0))), 0 + 1 + 64 + 1 + 120 + 1, 0 + 10 + 4791 + 45 + 58676 + 1)) rfl rfl rfl ?_
  refine ev_hp (μ' := hp (s0 L xs)) (hp4 (n := 187) (F' := st_c ly (s0 L xs)) (A' := 187) (B' := 63523) (s0_up L xs) rfl rfl) ?_
  refine ev_x (i := .astore_n 3) (len := 1) (p' := 20) (l' := [(3, .ref 187), (2, .ref 66), (1, .ref 1), (0, .ref 0)]) (s' := []) rfl rfl rfl ?_
  refine ev_x (i := .iconst 0) (len := 1) (p' := 21) (s' := [.int 0]) rfl rfl rfl ?_
  refine ev_x (i := .istore 4) (len := 2) (p' := 23) (l' := [(4, .int 0), (3, .ref 187), (2, .ref 66), (1, .ref 1), (0, .ref 0)]) (s' := []) rfl rfl rfl ?_
  exact k
