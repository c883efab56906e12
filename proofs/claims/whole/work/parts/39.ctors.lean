/-! THE CONSTRUCTORS, run by rows: written by wip/prog/gen_ctor2.py -/
theorem ev_x {P : vz_P} {d y pc len p' : Nat} {i : Instr} {lv l' : vz_L} {st s' : List Value} {μ μ' : vz_H} {q : vz_O × vz_H} (hT : vz_Th P y pc = none) (hI : vz_I P y pc = some (i, len)) (hh : vz_h P y i len pc lv st μ = some (p', l', s', μ')) (k : vz_ev P d y p' l' s' μ' q) : vz_ev P d y pc lv st μ q := ev_h (z := (p', l', s', μ')) hT hI hh k
theorem vz_obj_f {n a nc ns : Nat} {F : Nat → va_E} {o : Nat × List Value} (h0 : 0 < a) (h1 : a ≤ n) (h : F a = .inr o) : vz_obj (n, F, nc, ns) a = some o := by
  unfold vz_obj
  rw [if_pos ⟨h0, h1⟩]
  dsimp only
  rw [h]
theorem ev_gf {P : vz_P} {d y pc ix a : Nat} {lv : vz_L} {r : List Value} {μ : vz_H} {q : vz_O × vz_H} {t : Nat × Nat × FieldType × Bool} {o : Nat × List Value} {v : Value} (hT : vz_Th P y pc = none) (hI : vz_I P y pc = some (.getfield ix, 3)) (hF : vz_F P y ix = some t) (ho : vz_obj μ a = some o) (hc : (o.1 == t.1) = true) (hv : o.2[t.2.1]? = some v) (k : vz_ev P d y (pc + 3) lv (v :: r) μ q) : vz_ev P d y pc lv (.ref a :: r) μ q := by
  refine ev_h (z := (pc + 3, lv, v :: r, μ)) hT hI ?_ k
  show vz_n 3 3 ((vz_F P y ix).bind fun t => (vz_obj μ a).bind fun o => vz_b (o.1 == t.1) ((o.2[t.2.1]?).bind fun v => some (pc + 3, lv, v :: r, μ))) = _
  rw [hF, ho]
  show vz_b (o.1 == t.1) ((o.2[t.2.1]?).bind fun v => some (pc + 3, lv, v :: r, μ)) = _
  rw [hc, hv]
  rfl
theorem hp1 {n A B : Nat} {F F' : Nat → va_E} (h : F = F') : ((n, F, A, B) : vz_H) = (n, F', A, B) := by rw [h]
theorem hp4 {n A B A' B' : Nat} {F F' : Nat → va_E} (h : F = F') (ha : A = A') (hb : B = B') : ((n, F, A, B) : vz_H) = (n, F', A', B') := by rw [h, ha, hb]
theorem va_up_up {α : Type} (f : Nat → α) (a : Nat) (x y : α) : va_up (va_up f a x) a y = va_up f a y := by
  funext b
  by_cases e : b = a
  · subst e; rw [va_up_self, va_up_self]
  · rw [va_up_ne _ _ e, va_up_ne _ _ e, va_up_ne _ _ e]
theorem va_cm {α : Type} {f : Nat → α} {a b : Nat} {x y : α} (h : a ≠ b) : va_up (va_up f a x) b y = va_up (va_up f b y) a x := by
  funext c
  by_cases e : c = a
  · subst e; rw [va_up_ne _ _ h, va_up_self, va_up_self]
  · by_cases e2 : c = b
    · subst e2; rw [va_up_self, va_up_ne _ _ e, va_up_self]
    · rw [va_up_ne _ _ e2, va_up_ne _ _ e, va_up_ne _ _ e, va_up_ne _ _ e2]
/-- a field of the object under construction -/
theorem ev_px {P : vz_P} {d y pc len p' n c A B : Nat} {i : Instr} {lv l' : vz_L} {st s' : List Value} {G : Nat → va_E} {o o' : va_E} {q : vz_O × vz_H} (hT : vz_Th P y pc = none) (hI : vz_I P y pc = some (i, len)) (hh : vz_h P y i len pc lv st (n, va_up G c o, A, B) = some (p', l', s', (n, va_up (va_up G c o) c o', A, B))) (k : vz_ev P d y p' l' s' (n, va_up G c o', A, B) q) : vz_ev P d y pc lv st (n, va_up G c o, A, B) q := by
  exact ev_x hT hI hh (ev_hp (hp1 (va_up_up _ _ _ _)) k)
/-- an array made while c is under construction -/
theorem ev_nx {P : vz_P} {d y pc len p' n n' c k A B A' B' : Nat} {i : Instr} {lv l' : vz_L} {st s' : List Value} {G : Nat → va_E} {o x : va_E} {q : vz_O × vz_H} (hT : vz_Th P y pc = none) (hI : vz_I P y pc = some (i, len)) (hh : vz_h P y i len pc lv st (n, va_up G c o, A, B) = some (p', l', s', (n', va_up (va_up G c o) k x, A', B'))) (hk : c ≠ k) (h : vz_ev P d y p' l' s' (n', va_up (va_up G k x) c o, A', B') q) : vz_ev P d y pc lv st (n, va_up G c o, A, B) q := by
  exact ev_x hT hI hh (ev_hp (hp1 (va_cm hk)) h)
/-- many cells at once -/
def hA {α : Type} (f : Nat → α) : List (Nat × α) → Nat → α
  | [] => f
  | q :: l => va_up (hA f l) q.1 q.2
theorem hA_0 {α : Type} (f : Nat → α) : hA f [] = f := rfl
theorem hA_1 {α : Type} (f : Nat → α) (a : Nat) (x : α) (l : List (Nat × α)) : hA f ((a, x) :: l) = va_up (hA f l) a x := rfl
theorem hA_app {α : Type} (f : Nat → α) (l1 l2 : List (Nat × α)) : hA f (l1 ++ l2) = hA (hA f l2) l1 := by
  induction l1 with
  | nil => rfl
  | cons q l ih => show va_up (hA f (l ++ l2)) q.1 q.2 = va_up (hA (hA f l2) l) q.1 q.2; rw [ih]
theorem hA_cm {α : Type} {f : Nat → α} {a : Nat} {x : α} {l : List (Nat × α)} (h : l.all (fun q => !(Nat.beq q.1 a)) = true) : hA (va_up f a x) l = va_up (hA f l) a x := by
  induction l with
  | nil => rfl
  | cons q l ih =>
    obtain ⟨h1, h2⟩ := Bool.and_eq_true_iff.mp (show (!(Nat.beq q.1 a) && l.all (fun q => !(Nat.beq q.1 a))) = true from h)
    show va_up (hA (va_up f a x) l) q.1 q.2 = va_up (va_up (hA f l) q.1 q.2) a x
    rw [ih h2]
    refine va_cm fun e => ?_
    rw [← e] at h1
    rw [show Nat.beq a a = true from Nat.beq_refl a] at h1
    cases h1
def cl_2 : List (Nat × va_E) := [(2, .inr (1, [.ref 3, .int 0, .int 0, .int 264, .int 0, .int 0, .int 0]))] ++ [(3, .inl (0, 256, .inl fun _ => 0))]
set_option maxHeartbeats 4000000 in
set_option maxRecDepth 100000 in
/-- GameText$Words.<init>()V, cell 2 -/
theorem ct_1 {d : Nat} {f : Nat → va_E} {nc ns : Nat}  : vz_ev P0 (d + 1) 2 0 (lv_args 0 [.ref 2]) [] (2, va_up f 2 (.inr (1, [.null, .int 0, .int 0, .int 0, .int 0, .int 0, .int 0])), nc, ns) (.inl none, (3, hA f cl_2, nc + 1, ns + 256)) := by
  refine ev_x (i := .aload_n 0) (len := 1) (p' := 1) (s' := [.ref 2]) rfl rfl rfl ?_
  refine ev_obj (d := d + 0) rfl rfl rfl rfl ?_
  refine ev_x (i := .aload_n 0) (len := 1) (p' := 5) (s' := [.ref 2]) rfl rfl rfl ?_
  refine ev_x (i := .sipush 256) (len := 3) (p' := 8) (s' := [.int 256, .ref 2]) rfl rfl rfl ?_
  refine ev_nx (i := .newarray .int) (len := 2) (p' := 10) (s' := [.ref 3, .ref 2]) (n' := 3) (k := 3) (x := .inl (0, 256, .inl fun _ => 0)) (A' := nc + 1) (B' := ns + 256) rfl rfl rfl (by decide) ?_
  refine ev_px (i := .putfield 9) (len := 3) (p' := 13) (s' := []) (o' := .inr (1, [.ref 3, .int 0, .int 0, .int 0, .int 0, .int 0, .int 0])) rfl rfl rfl ?_
  refine ev_x (i := .aload_n 0) (len := 1) (p' := 14) (s' := [.ref 2]) rfl rfl rfl ?_
  refine ev_x (i := .iconst 0) (len := 1) (p' := 15) (s' := [.int 0, .ref 2]) rfl rfl rfl ?_
  refine ev_px (i := .putfield 15) (len := 3) (p' := 18) (s' := []) (o' := .inr (1, [.ref 3, .int 0, .int 0, .int 0, .int 0, .int 0, .int 0])) rfl rfl rfl ?_
  refine ev_x (i := .aload_n 0) (len := 1) (p' := 19) (s' := [.ref 2]) rfl rfl rfl ?_
  refine ev_x (i := .iconst 0) (len := 1) (p' := 20) (s' := [.int 0, .ref 2]) rfl rfl rfl ?_
  refine ev_px (i := .putfield 19) (len := 3) (p' := 23) (s' := []) (o' := .inr (1, [.ref 3, .int 0, .int 0, .int 0, .int 0, .int 0, .int 0])) rfl rfl rfl ?_
  refine ev_x (i := .aload_n 0) (len := 1) (p' := 24) (s' := [.ref 2]) rfl rfl rfl ?_
  refine ev_x (i := .sipush 264) (len := 3) (p' := 27) (s' := [.int 264, .ref 2]) rfl rfl rfl ?_
  refine ev_px (i := .putfield 22) (len := 3) (p' := 30) (s' := []) (o' := .inr (1, [.ref 3, .int 0, .int 0, .int 264, .int 0, .int 0, .int 0])) rfl rfl rfl ?_
  refine ev_x (i := .aload_n 0) (len := 1) (p' := 31) (s' := [.ref 2]) rfl rfl rfl ?_
  refine ev_x (i := .iconst 0) (len := 1) (p' := 32) (s' := [.int 0, .ref 2]) rfl rfl rfl ?_
  refine ev_px (i := .putfield 25) (len := 3) (p' := 35) (s' := []) (o' := .inr (1, [.ref 3, .int 0, .int 0, .int 264, .int 0, .int 0, .int 0])) rfl rfl rfl ?_
  refine ev_x (i := .aload_n 0) (len := 1) (p' := 36) (s' := [.ref 2]) rfl rfl rfl ?_
  refine ev_x (i := .iconst 0) (len := 1) (p' := 37) (s' := [.int 0, .ref 2]) rfl rfl rfl ?_
  refine ev_px (i := .putfield 28) (len := 3) (p' := 40) (s' := []) (o' := .inr (1, [.ref 3, .int 0, .int 0, .int 264, .int 0, .int 0, .int 0])) rfl rfl rfl ?_
  refine ev_x (i := .aload_n 0) (len := 1) (p' := 41) (s' := [.ref 2]) rfl rfl rfl ?_
  refine ev_x (i := .iconst 0) (len := 1) (p' := 42) (s' := [.int 0, .ref 2]) rfl rfl rfl ?_
  refine ev_px (i := .putfield 31) (len := 3) (p' := 45) (s' := []) (o' := .inr (1, [.ref 3, .int 0, .int 0, .int 264, .int 0, .int 0, .int 0])) rfl rfl rfl ?_
  refine ev_hp (hp4 (F' := hA f cl_2) (A' := nc + 1) (B' := ns + 256) (by unfold cl_2; simp only [hA_app, hA_1, hA_0]) (by omega) (by omega)) ?_
  exact ev_vret rfl rfl rfl
def cl_5 : List (Nat × va_E) := [(5, .inr (3, [.ref 6, .ref 7, .ref 8, .ref 9, .ref 10, .ref 11, .ref 12, .ref 13, .int 0]))] ++ [(13, .inl (0, 64, .inl fun _ => 0)), (12, .inl (0, 64, .inl fun _ => 0)), (11, .inl (0, 64, .inl fun _ => 0)), (10, .inl (0, 64, .inl fun _ => 0)), (9, .inl (0, 64, .inl fun _ => 0)), (8, .inl (0, 64, .inl fun _ => 0)), (7, .inl (0, 64, .inl fun _ => 0)), (6, .inl (0, 64, .inl fun _ => 0))]
set_option maxHeartbeats 4000000 in
set_option maxRecDepth 100000 in
/-- GameText$Code.<init>()V, cell 5 -/
theorem ct_2 {d : Nat} {f : Nat → va_E} {nc ns : Nat}  : vz_ev P0 (d + 1) 4 0 (lv_args 0 [.ref 5]) [] (5, va_up f 5 (.inr (3, [.null, .null, .null, .null, .null, .null, .null, .null, .int 0])), nc, ns) (.inl none, (13, hA f cl_5, nc + 8, ns + 512)) := by
  refine ev_x (i := .aload_n 0) (len := 1) (p' := 1) (s' := [.ref 5]) rfl rfl rfl ?_
  refine ev_obj (d := d + 0) rfl rfl rfl rfl ?_
  refine ev_x (i := .aload_n 0) (len := 1) (p' := 5) (s' := [.ref 5]) rfl rfl rfl ?_
  refine ev_x (i := .bipush 64) (len := 2) (p' := 7) (s' := [.int 64, .ref 5]) rfl rfl rfl ?_
  refine ev_nx (i := .newarray .int) (len := 2) (p' := 9) (s' := [.ref 6, .ref 5]) (n' := 6) (k := 6) (x := .inl (0, 64, .inl fun _ => 0)) (A' := nc + 1) (B' := ns + 64) rfl rfl rfl (by decide) ?_
  refine ev_px (i := .putfield 9) (len := 3) (p' := 12) (s' := []) (o' := .inr (3, [.ref 6, .null, .null, .null, .null, .null, .null, .null, .int 0])) rfl rfl rfl ?_
  refine ev_x (i := .aload_n 0) (len := 1) (p' := 13) (s' := [.ref 5]) rfl rfl rfl ?_
  refine ev_x (i := .bipush 64) (len := 2) (p' := 15) (s' := [.int 64, .ref 5]) rfl rfl rfl ?_
  refine ev_nx (i := .newarray .int) (len := 2) (p' := 17) (s' := [.ref 7, .ref 5]) (n' := 7) (k := 7) (x := .inl (0, 64, .inl fun _ => 0)) (A' := nc + 1 + 1) (B' := ns + 64 + 64) rfl rfl rfl (by decide) ?_
  refine ev_px (i := .putfield 15) (len := 3) (p' := 20) (s' := []) (o' := .inr (3, [.ref 6, .ref 7, .null, .null, .null, .null, .null, .null, .int 0])) rfl rfl rfl ?_
  refine ev_x (i := .aload_n 0) (len := 1) (p' := 21) (s' := [.ref 5]) rfl rfl rfl ?_
  refine ev_x (i := .bipush 64) (len := 2) (p' := 23) (s' := [.int 64, .ref 5]) rfl rfl rfl ?_
  refine ev_nx (i := .newarray .int) (len := 2) (p' := 25) (s' := [.ref 8, .ref 5]) (n' := 8) (k := 8) (x := .inl (0, 64, .inl fun _ => 0)) (A' := nc + 1 + 1 + 1) (B' := ns + 64 + 64 + 64) rfl rfl rfl (by decide) ?_
  refine ev_px (i := .putfield 18) (len := 3) (p' := 28) (s' := []) (o' := .inr (3, [.ref 6, .ref 7, .ref 8, .null, .null, .null, .null, .null, .int 0])) rfl rfl rfl ?_
  refine ev_x (i := .aload_n 0) (len := 1) (p' := 29) (s' := [.ref 5]) rfl rfl rfl ?_
  refine ev_x (i := .bipush 64) (len := 2) (p' := 31) (s' := [.int 64, .ref 5]) rfl rfl rfl ?_
  refine ev_nx (i := .newarray .int) (len := 2) (p' := 33) (s' := [.ref 9, .ref 5]) (n' := 9) (k := 9) (x := .inl (0, 64, .inl fun _ => 0)) (A' := nc + 1 + 1 + 1 + 1) (B' := ns + 64 + 64 + 64 + 64) rfl rfl rfl (by decide) ?_
  refine ev_px (i := .putfield 21) (len := 3) (p' := 36) (s' := []) (o' := .inr (3, [.ref 6, .ref 7, .ref 8, .ref 9, .null, .null, .null, .null, .int 0])) rfl rfl rfl ?_
  refine ev_x (i := .aload_n 0) (len := 1) (p' := 37) (s' := [.ref 5]) rfl rfl rfl ?_
  refine ev_x (i := .bipush 64) (len := 2) (p' := 39) (s' := [.int 64, .ref 5]) rfl rfl rfl ?_
  refine ev_nx (i := .newarray .int) (len := 2) (p' := 41) (s' := [.ref 10, .ref 5]) (n' := 10) (k := 10) (x := .inl (0, 64, .inl fun _ => 0)) (A' := nc + 1 + 1 + 1 + 1 + 1) (B' := ns + 64 + 64 + 64 + 64 + 64) rfl rfl rfl (by decide) ?_
  refine ev_px (i := .putfield 24) (len := 3) (p' := 44) (s' := []) (o' := .inr (3, [.ref 6, .ref 7, .ref 8, .ref 9, .ref 10, .null, .null, .null, .int 0])) rfl rfl rfl ?_
  refine ev_x (i := .aload_n 0) (len := 1) (p' := 45) (s' := [.ref 5]) rfl rfl rfl ?_
  refine ev_x (i := .bipush 64) (len := 2) (p' := 47) (s' := [.int 64, .ref 5]) rfl rfl rfl ?_
  refine ev_nx (i := .newarray .int) (len := 2) (p' := 49) (s' := [.ref 11, .ref 5]) (n' := 11) (k := 11) (x := .inl (0, 64, .inl fun _ => 0)) (A' := nc + 1 + 1 + 1 + 1 + 1 + 1) (B' := ns + 64 + 64 + 64 + 64 + 64 + 64) rfl rfl rfl (by decide) ?_
  refine ev_px (i := .putfield 27) (len := 3) (p' := 52) (s' := []) (o' := .inr (3, [.ref 6, .ref 7, .ref 8, .ref 9, .ref 10, .ref 11, .null, .null, .int 0])) rfl rfl rfl ?_
  refine ev_x (i := .aload_n 0) (len := 1) (p' := 53) (s' := [.ref 5]) rfl rfl rfl ?_
  refine ev_x (i := .bipush 64) (len := 2) (p' := 55) (s' := [.int 64, .ref 5]) rfl rfl rfl ?_
  refine ev_nx (i := .newarray .int) (len := 2) (p' := 57) (s' := [.ref 12, .ref 5]) (n' := 12) (k := 12) (x := .inl (0, 64, .inl fun _ => 0)) (A' := nc + 1 + 1 + 1 + 1 + 1 + 1 + 1) (B' := ns + 64 + 64 + 64 + 64 + 64 + 64 + 64) rfl rfl rfl (by decide) ?_
  refine ev_px (i := .putfield 30) (len := 3) (p' := 60) (s' := []) (o' := .inr (3, [.ref 6, .ref 7, .ref 8, .ref 9, .ref 10, .ref 11, .ref 12, .null, .int 0])) rfl rfl rfl ?_
  refine ev_x (i := .aload_n 0) (len := 1) (p' := 61) (s' := [.ref 5]) rfl rfl rfl ?_
  refine ev_x (i := .bipush 64) (len := 2) (p' := 63) (s' := [.int 64, .ref 5]) rfl rfl rfl ?_
  refine ev_nx (i := .newarray .int) (len := 2) (p' := 65) (s' := [.ref 13, .ref 5]) (n' := 13) (k := 13) (x := .inl (0, 64, .inl fun _ => 0)) (A' := nc + 1 + 1 + 1 + 1 + 1 + 1 + 1 + 1) (B' := ns + 64 + 64 + 64 + 64 + 64 + 64 + 64 + 64) rfl rfl rfl (by decide) ?_
  refine ev_px (i := .putfield 33) (len := 3) (p' := 68) (s' := []) (o' := .inr (3, [.ref 6, .ref 7, .ref 8, .ref 9, .ref 10, .ref 11, .ref 12, .ref 13, .int 0])) rfl rfl rfl ?_
  refine ev_x (i := .aload_n 0) (len := 1) (p' := 69) (s' := [.ref 5]) rfl rfl rfl ?_
  refine ev_x (i := .iconst 0) (len := 1) (p' := 70) (s' := [.int 0, .ref 5]) rfl rfl rfl ?_
  refine ev_px (i := .putfield 36) (len := 3) (p' := 73) (s' := []) (o' := .inr (3, [.ref 6, .ref 7, .ref 8, .ref 9, .ref 10, .ref 11, .ref 12, .ref 13, .int 0])) rfl rfl rfl ?_
  refine ev_hp (hp4 (F' := hA f cl_5) (A' := nc + 8) (B' := ns + 512) (by unfold cl_5; simp only [hA_app, hA_1, hA_0]) (by omega) (by omega)) ?_
  exact ev_vret rfl rfl rfl
def cl_4 : List (Nat × va_E) := [(4, .inr (2, [.ref 5, .ref 14, .ref 15, .ref 16, .ref 17, .ref 18, .ref 19, .int 0, .int 0, .int 0, .int 0, .int (-1)]))] ++ [(19, .inl (0, 60, .inl fun _ => 0)), (18, .inl (0, 60, .inl fun _ => 0)), (17, .inl (0, 12, .inl fun _ => 0)), (16, .inl (0, 12, .inl fun _ => 0)), (15, .inl (0, 12, .inl fun _ => 0)), (14, .inl (0, 12, .inl fun _ => 0))] ++ cl_5
set_option maxHeartbeats 4000000 in
set_option maxRecDepth 100000 in
/-- GameText$Text.<init>()V, cell 4 -/
theorem ct_3 {d : Nat} {f : Nat → va_E} {nc ns : Nat}  : vz_ev P0 (d + 2) 3 0 (lv_args 0 [.ref 4]) [] (4, va_up f 4 (.inr (2, [.null, .null, .null, .null, .null, .null, .null, .int 0, .int 0, .int 0, .int 0, .int 0])), nc, ns) (.inl none, (19, hA f cl_4, nc + 15, ns + 689)) := by
  refine ev_x (i := .aload_n 0) (len := 1) (p' := 1) (s' := [.ref 4]) rfl rfl rfl ?_
  refine ev_obj (d := d + 1) rfl rfl rfl rfl ?_
  refine ev_x (i := .aload_n 0) (len := 1) (p' := 5) (s' := [.ref 4]) rfl rfl rfl ?_
  refine ev_x (i := .new 9) (len := 3) (p' := 8) (s' := [.ref 5, .ref 4]) (μ' := (5, va_up (va_up (f) 4 (.inr (2, [.null, .null, .null, .null, .null, .null, .null, .int 0, .int 0, .int 0, .int 0, .int 0]))) 5 (.inr (3, [.null, .null, .null, .null, .null, .null, .null, .null, .int 0])), nc + 1, ns + 9)) rfl rfl rfl ?_
  refine ev_x (i := .dup) (len := 1) (p' := 9) (s' := [.ref 5, .ref 5, .ref 4]) rfl rfl rfl ?_
  refine ev_callI (d := d + 1) (As := []) (a := 5) rfl rfl rfl rfl rfl rfl rfl rfl (ct_2 (d := d + 0) ) ?_
  refine ev_hp (hp1 (hA_cm rfl)) ?_
  refine ev_px (i := .putfield 12) (len := 3) (p' := 15) (s' := []) (o' := .inr (2, [.ref 5, .null, .null, .null, .null, .null, .null, .int 0, .int 0, .int 0, .int 0, .int 0])) rfl rfl rfl ?_
  refine ev_x (i := .aload_n 0) (len := 1) (p' := 16) (s' := [.ref 4]) rfl rfl rfl ?_
  refine ev_x (i := .bipush 12) (len := 2) (p' := 18) (s' := [.int 12, .ref 4]) rfl rfl rfl ?_
  refine ev_nx (i := .newarray .int) (len := 2) (p' := 20) (s' := [.ref 14, .ref 4]) (n' := 14) (k := 14) (x := .inl (0, 12, .inl fun _ => 0)) (A' := nc + 1 + 8 + 1) (B' := ns + 9 + 512 + 12) rfl rfl rfl (by decide) ?_
  refine ev_px (i := .putfield 18) (len := 3) (p' := 23) (s' := []) (o' := .inr (2, [.ref 5, .ref 14, .null, .null, .null, .null, .null, .int 0, .int 0, .int 0, .int 0, .int 0])) rfl rfl rfl ?_
  refine ev_x (i := .aload_n 0) (len := 1) (p' := 24) (s' := [.ref 4]) rfl rfl rfl ?_
  refine ev_x (i := .bipush 12) (len := 2) (p' := 26) (s' := [.int 12, .ref 4]) rfl rfl rfl ?_
  refine ev_nx (i := .newarray .int) (len := 2) (p' := 28) (s' := [.ref 15, .ref 4]) (n' := 15) (k := 15) (x := .inl (0, 12, .inl fun _ => 0)) (A' := nc + 1 + 8 + 1 + 1) (B' := ns + 9 + 512 + 12 + 12) rfl rfl rfl (by decide) ?_
  refine ev_px (i := .putfield 22) (len := 3) (p' := 31) (s' := []) (o' := .inr (2, [.ref 5, .ref 14, .ref 15, .null, .null, .null, .null, .int 0, .int 0, .int 0, .int 0, .int 0])) rfl rfl rfl ?_
  refine ev_x (i := .aload_n 0) (len := 1) (p' := 32) (s' := [.ref 4]) rfl rfl rfl ?_
  refine ev_x (i := .bipush 12) (len := 2) (p' := 34) (s' := [.int 12, .ref 4]) rfl rfl rfl ?_
  refine ev_nx (i := .newarray .int) (len := 2) (p' := 36) (s' := [.ref 16, .ref 4]) (n' := 16) (k := 16) (x := .inl (0, 12, .inl fun _ => 0)) (A' := nc + 1 + 8 + 1 + 1 + 1) (B' := ns + 9 + 512 + 12 + 12 + 12) rfl rfl rfl (by decide) ?_
  refine ev_px (i := .putfield 25) (len := 3) (p' := 39) (s' := []) (o' := .inr (2, [.ref 5, .ref 14, .ref 15, .ref 16, .null, .null, .null, .int 0, .int 0, .int 0, .int 0, .int 0])) rfl rfl rfl ?_
  refine ev_x (i := .aload_n 0) (len := 1) (p' := 40) (s' := [.ref 4]) rfl rfl rfl ?_
  refine ev_x (i := .bipush 12) (len := 2) (p' := 42) (s' := [.int 12, .ref 4]) rfl rfl rfl ?_
  refine ev_nx (i := .newarray .int) (len := 2) (p' := 44) (s' := [.ref 17, .ref 4]) (n' := 17) (k := 17) (x := .inl (0, 12, .inl fun _ => 0)) (A' := nc + 1 + 8 + 1 + 1 + 1 + 1) (B' := ns + 9 + 512 + 12 + 12 + 12 + 12) rfl rfl rfl (by decide) ?_
  refine ev_px (i := .putfield 28) (len := 3) (p' := 47) (s' := []) (o' := .inr (2, [.ref 5, .ref 14, .ref 15, .ref 16, .ref 17, .null, .null, .int 0, .int 0, .int 0, .int 0, .int 0])) rfl rfl rfl ?_
  refine ev_x (i := .aload_n 0) (len := 1) (p' := 48) (s' := [.ref 4]) rfl rfl rfl ?_
  refine ev_x (i := .bipush 60) (len := 2) (p' := 50) (s' := [.int 60, .ref 4]) rfl rfl rfl ?_
  refine ev_nx (i := .newarray .int) (len := 2) (p' := 52) (s' := [.ref 18, .ref 4]) (n' := 18) (k := 18) (x := .inl (0, 60, .inl fun _ => 0)) (A' := nc + 1 + 8 + 1 + 1 + 1 + 1 + 1) (B' := ns + 9 + 512 + 12 + 12 + 12 + 12 + 60) rfl rfl rfl (by decide) ?_
  refine ev_px (i := .putfield 31) (len := 3) (p' := 55) (s' := []) (o' := .inr (2, [.ref 5, .ref 14, .ref 15, .ref 16, .ref 17, .ref 18, .null, .int 0, .int 0, .int 0, .int 0, .int 0])) rfl rfl rfl ?_
  refine ev_x (i := .aload_n 0) (len := 1) (p' := 56) (s' := [.ref 4]) rfl rfl rfl ?_
  refine ev_x (i := .bipush 60) (len := 2) (p' := 58) (s' := [.int 60, .ref 4]) rfl rfl rfl ?_
  refine ev_nx (i := .newarray .int) (len := 2) (p' := 60) (s' := [.ref 19, .ref 4]) (n' := 19) (k := 19) (x := .inl (0, 60, .inl fun _ => 0)) (A' := nc + 1 + 8 + 1 + 1 + 1 + 1 + 1 + 1) (B' := ns + 9 + 512 + 12 + 12 + 12 + 12 + 60 + 60) rfl rfl rfl (by decide) ?_
  refine ev_px (i := .putfield 34) (len := 3) (p' := 63) (s' := []) (o' := .inr (2, [.ref 5, .ref 14, .ref 15, .ref 16, .ref 17, .ref 18, .ref 19, .int 0, .int 0, .int 0, .int 0, .int 0])) rfl rfl rfl ?_
  refine ev_x (i := .aload_n 0) (len := 1) (p' := 64) (s' := [.ref 4]) rfl rfl rfl ?_
  refine ev_x (i := .iconst 0) (len := 1) (p' := 65) (s' := [.int 0, .ref 4]) rfl rfl rfl ?_
  refine ev_px (i := .putfield 37) (len := 3) (p' := 68) (s' := []) (o' := .inr (2, [.ref 5, .ref 14, .ref 15, .ref 16, .ref 17, .ref 18, .ref 19, .int 0, .int 0, .int 0, .int 0, .int 0])) rfl rfl rfl ?_
  refine ev_x (i := .aload_n 0) (len := 1) (p' := 69) (s' := [.ref 4]) rfl rfl rfl ?_
  refine ev_x (i := .iconst 0) (len := 1) (p' := 70) (s' := [.int 0, .ref 4]) rfl rfl rfl ?_
  refine ev_px (i := .putfield 41) (len := 3) (p' := 73) (s' := []) (o' := .inr (2, [.ref 5, .ref 14, .ref 15, .ref 16, .ref 17, .ref 18, .ref 19, .int 0, .int 0, .int 0, .int 0, .int 0])) rfl rfl rfl ?_
  refine ev_x (i := .aload_n 0) (len := 1) (p' := 74) (s' := [.ref 4]) rfl rfl rfl ?_
  refine ev_x (i := .iconst 0) (len := 1) (p' := 75) (s' := [.int 0, .ref 4]) rfl rfl rfl ?_
  refine ev_px (i := .putfield 44) (len := 3) (p' := 78) (s' := []) (o' := .inr (2, [.ref 5, .ref 14, .ref 15, .ref 16, .ref 17, .ref 18, .ref 19, .int 0, .int 0, .int 0, .int 0, .int 0])) rfl rfl rfl ?_
  refine ev_x (i := .aload_n 0) (len := 1) (p' := 79) (s' := [.ref 4]) rfl rfl rfl ?_
  refine ev_x (i := .iconst 0) (len := 1) (p' := 80) (s' := [.int 0, .ref 4]) rfl rfl rfl ?_
  refine ev_px (i := .putfield 47) (len := 3) (p' := 83) (s' := []) (o' := .inr (2, [.ref 5, .ref 14, .ref 15, .ref 16, .ref 17, .ref 18, .ref 19, .int 0, .int 0, .int 0, .int 0, .int 0])) rfl rfl rfl ?_
  refine ev_x (i := .aload_n 0) (len := 1) (p' := 84) (s' := [.ref 4]) rfl rfl rfl ?_
  refine ev_x (i := .iconst (-1)) (len := 1) (p' := 85) (s' := [.int (-1), .ref 4]) rfl rfl rfl ?_
  refine ev_px (i := .putfield 50) (len := 3) (p' := 88) (s' := []) (o' := .inr (2, [.ref 5, .ref 14, .ref 15, .ref 16, .ref 17, .ref 18, .ref 19, .int 0, .int 0, .int 0, .int 0, .int (-1)])) rfl rfl rfl ?_
  refine ev_hp (hp4 (F' := hA f cl_4) (A' := nc + 15) (B' := ns + 689) (by unfold cl_4; simp only [hA_app, hA_1, hA_0]) (by omega) (by omega)) ?_
  exact ev_vret rfl rfl rfl
def cl_21 : List (Nat × va_E) := [(21, .inr (3, [.ref 22, .ref 23, .ref 24, .ref 25, .ref 26, .ref 27, .ref 28, .ref 29, .int 0]))] ++ [(29, .inl (0, 64, .inl fun _ => 0)), (28, .inl (0, 64, .inl fun _ => 0)), (27, .inl (0, 64, .inl fun _ => 0)), (26, .inl (0, 64, .inl fun _ => 0)), (25, .inl (0, 64, .inl fun _ => 0)), (24, .inl (0, 64, .inl fun _ => 0)), (23, .inl (0, 64, .inl fun _ => 0)), (22, .inl (0, 64, .inl fun _ => 0))]
set_option maxHeartbeats 4000000 in
set_option maxRecDepth 100000 in
/-- GameText$Code.<init>()V, cell 21 -/
theorem ct_4 {d : Nat} {f : Nat → va_E} {nc ns : Nat}  : vz_ev P0 (d + 1) 4 0 (lv_args 0 [.ref 21]) [] (21, va_up f 21 (.inr (3, [.null, .null, .null, .null, .null, .null, .null, .null, .int 0])), nc, ns) (.inl none, (29, hA f cl_21, nc + 8, ns + 512)) := by
  refine ev_x (i := .aload_n 0) (len := 1) (p' := 1) (s' := [.ref 21]) rfl rfl rfl ?_
  refine ev_obj (d := d + 0) rfl rfl rfl rfl ?_
  refine ev_x (i := .aload_n 0) (len := 1) (p' := 5) (s' := [.ref 21]) rfl rfl rfl ?_
  refine ev_x (i := .bipush 64) (len := 2) (p' := 7) (s' := [.int 64, .ref 21]) rfl rfl rfl ?_
  refine ev_nx (i := .newarray .int) (len := 2) (p' := 9) (s' := [.ref 22, .ref 21]) (n' := 22) (k := 22) (x := .inl (0, 64, .inl fun _ => 0)) (A' := nc + 1) (B' := ns + 64) rfl rfl rfl (by decide) ?_
  refine ev_px (i := .putfield 9) (len := 3) (p' := 12) (s' := []) (o' := .inr (3, [.ref 22, .null, .null, .null, .null, .null, .null, .null, .int 0])) rfl rfl rfl ?_
  refine ev_x (i := .aload_n 0) (len := 1) (p' := 13) (s' := [.ref 21]) rfl rfl rfl ?_
  refine ev_x (i := .bipush 64) (len := 2) (p' := 15) (s' := [.int 64, .ref 21]) rfl rfl rfl ?_
  refine ev_nx (i := .newarray .int) (len := 2) (p' := 17) (s' := [.ref 23, .ref 21]) (n' := 23) (k := 23) (x := .inl (0, 64, .inl fun _ => 0)) (A' := nc + 1 + 1) (B' := ns + 64 + 64) rfl rfl rfl (by decide) ?_
  refine ev_px (i := .putfield 15) (len := 3) (p' := 20) (s' := []) (o' := .inr (3, [.ref 22, .ref 23, .null, .null, .null, .null, .null, .null, .int 0])) rfl rfl rfl ?_
  refine ev_x (i := .aload_n 0) (len := 1) (p' := 21) (s' := [.ref 21]) rfl rfl rfl ?_
  refine ev_x (i := .bipush 64) (len := 2) (p' := 23) (s' := [.int 64, .ref 21]) rfl rfl rfl ?_
  refine ev_nx (i := .newarray .int) (len := 2) (p' := 25) (s' := [.ref 24, .ref 21]) (n' := 24) (k := 24) (x := .inl (0, 64, .inl fun _ => 0)) (A' := nc + 1 + 1 + 1) (B' := ns + 64 + 64 + 64) rfl rfl rfl (by decide) ?_
  refine ev_px (i := .putfield 18) (len := 3) (p' := 28) (s' := []) (o' := .inr (3, [.ref 22, .ref 23, .ref 24, .null, .null, .null, .null, .null, .int 0])) rfl rfl rfl ?_
  refine ev_x (i := .aload_n 0) (len := 1) (p' := 29) (s' := [.ref 21]) rfl rfl rfl ?_
  refine ev_x (i := .bipush 64) (len := 2) (p' := 31) (s' := [.int 64, .ref 21]) rfl rfl rfl ?_
  refine ev_nx (i := .newarray .int) (len := 2) (p' := 33) (s' := [.ref 25, .ref 21]) (n' := 25) (k := 25) (x := .inl (0, 64, .inl fun _ => 0)) (A' := nc + 1 + 1 + 1 + 1) (B' := ns + 64 + 64 + 64 + 64) rfl rfl rfl (by decide) ?_
  refine ev_px (i := .putfield 21) (len := 3) (p' := 36) (s' := []) (o' := .inr (3, [.ref 22, .ref 23, .ref 24, .ref 25, .null, .null, .null, .null, .int 0])) rfl rfl rfl ?_
  refine ev_x (i := .aload_n 0) (len := 1) (p' := 37) (s' := [.ref 21]) rfl rfl rfl ?_
  refine ev_x (i := .bipush 64) (len := 2) (p' := 39) (s' := [.int 64, .ref 21]) rfl rfl rfl ?_
  refine ev_nx (i := .newarray .int) (len := 2) (p' := 41) (s' := [.ref 26, .ref 21]) (n' := 26) (k := 26) (x := .inl (0, 64, .inl fun _ => 0)) (A' := nc + 1 + 1 + 1 + 1 + 1) (B' := ns + 64 + 64 + 64 + 64 + 64) rfl rfl rfl (by decide) ?_
  refine ev_px (i := .putfield 24) (len := 3) (p' := 44) (s' := []) (o' := .inr (3, [.ref 22, .ref 23, .ref 24, .ref 25, .ref 26, .null, .null, .null, .int 0])) rfl rfl rfl ?_
  refine ev_x (i := .aload_n 0) (len := 1) (p' := 45) (s' := [.ref 21]) rfl rfl rfl ?_
  refine ev_x (i := .bipush 64) (len := 2) (p' := 47) (s' := [.int 64, .ref 21]) rfl rfl rfl ?_
  refine ev_nx (i := .newarray .int) (len := 2) (p' := 49) (s' := [.ref 27, .ref 21]) (n' := 27) (k := 27) (x := .inl (0, 64, .inl fun _ => 0)) (A' := nc + 1 + 1 + 1 + 1 + 1 + 1) (B' := ns + 64 + 64 + 64 + 64 + 64 + 64) rfl rfl rfl (by decide) ?_
  refine ev_px (i := .putfield 27) (len := 3) (p' := 52) (s' := []) (o' := .inr (3, [.ref 22, .ref 23, .ref 24, .ref 25, .ref 26, .ref 27, .null, .null, .int 0])) rfl rfl rfl ?_
  refine ev_x (i := .aload_n 0) (len := 1) (p' := 53) (s' := [.ref 21]) rfl rfl rfl ?_
  refine ev_x (i := .bipush 64) (len := 2) (p' := 55) (s' := [.int 64, .ref 21]) rfl rfl rfl ?_
  refine ev_nx (i := .newarray .int) (len := 2) (p' := 57) (s' := [.ref 28, .ref 21]) (n' := 28) (k := 28) (x := .inl (0, 64, .inl fun _ => 0)) (A' := nc + 1 + 1 + 1 + 1 + 1 + 1 + 1) (B' := ns + 64 + 64 + 64 + 64 + 64 + 64 + 64) rfl rfl rfl (by decide) ?_
  refine ev_px (i := .putfield 30) (len := 3) (p' := 60) (s' := []) (o' := .inr (3, [.ref 22, .ref 23, .ref 24, .ref 25, .ref 26, .ref 27, .ref 28, .null, .int 0])) rfl rfl rfl ?_
  refine ev_x (i := .aload_n 0) (len := 1) (p' := 61) (s' := [.ref 21]) rfl rfl rfl ?_
  refine ev_x (i := .bipush 64) (len := 2) (p' := 63) (s' := [.int 64, .ref 21]) rfl rfl rfl ?_
  refine ev_nx (i := .newarray .int) (len := 2) (p' := 65) (s' := [.ref 29, .ref 21]) (n' := 29) (k := 29) (x := .inl (0, 64, .inl fun _ => 0)) (A' := nc + 1 + 1 + 1 + 1 + 1 + 1 + 1 + 1) (B' := ns + 64 + 64 + 64 + 64 + 64 + 64 + 64 + 64) rfl rfl rfl (by decide) ?_
  refine ev_px (i := .putfield 33) (len := 3) (p' := 68) (s' := []) (o' := .inr (3, [.ref 22, .ref 23, .ref 24, .ref 25, .ref 26, .ref 27, .ref 28, .ref 29, .int 0])) rfl rfl rfl ?_
  refine ev_x (i := .aload_n 0) (len := 1) (p' := 69) (s' := [.ref 21]) rfl rfl rfl ?_
  refine ev_x (i := .iconst 0) (len := 1) (p' := 70) (s' := [.int 0, .ref 21]) rfl rfl rfl ?_
  refine ev_px (i := .putfield 36) (len := 3) (p' := 73) (s' := []) (o' := .inr (3, [.ref 22, .ref 23, .ref 24, .ref 25, .ref 26, .ref 27, .ref 28, .ref 29, .int 0])) rfl rfl rfl ?_
  refine ev_hp (hp4 (F' := hA f cl_21) (A' := nc + 8) (B' := ns + 512) (by unfold cl_21; simp only [hA_app, hA_1, hA_0]) (by omega) (by omega)) ?_
  exact ev_vret rfl rfl rfl
def cl_20 : List (Nat × va_E) := [(20, .inr (2, [.ref 21, .ref 30, .ref 31, .ref 32, .ref 33, .ref 34, .ref 35, .int 0, .int 0, .int 0, .int 0, .int (-1)]))] ++ [(35, .inl (0, 60, .inl fun _ => 0)), (34, .inl (0, 60, .inl fun _ => 0)), (33, .inl (0, 12, .inl fun _ => 0)), (32, .inl (0, 12, .inl fun _ => 0)), (31, .inl (0, 12, .inl fun _ => 0)), (30, .inl (0, 12, .inl fun _ => 0))] ++ cl_21
set_option maxHeartbeats 4000000 in
set_option maxRecDepth 100000 in
/-- GameText$Text.<init>()V, cell 20 -/
theorem ct_5 {d : Nat} {f : Nat → va_E} {nc ns : Nat}  : vz_ev P0 (d + 2) 3 0 (lv_args 0 [.ref 20]) [] (20, va_up f 20 (.inr (2, [.null, .null, .null, .null, .null, .null, .null, .int 0, .int 0, .int 0, .int 0, .int 0])), nc, ns) (.inl none, (35, hA f cl_20, nc + 15, ns + 689)) := by
  refine ev_x (i := .aload_n 0) (len := 1) (p' := 1) (s' := [.ref 20]) rfl rfl rfl ?_
  refine ev_obj (d := d + 1) rfl rfl rfl rfl ?_
  refine ev_x (i := .aload_n 0) (len := 1) (p' := 5) (s' := [.ref 20]) rfl rfl rfl ?_
  refine ev_x (i := .new 9) (len := 3) (p' := 8) (s' := [.ref 21, .ref 20]) (μ' := (21, va_up (va_up (f) 20 (.inr (2, [.null, .null, .null, .null, .null, .null, .null, .int 0, .int 0, .int 0, .int 0, .int 0]))) 21 (.inr (3, [.null, .null, .null, .null, .null, .null, .null, .null, .int 0])), nc + 1, ns + 9)) rfl rfl rfl ?_
  refine ev_x (i := .dup) (len := 1) (p' := 9) (s' := [.ref 21, .ref 21, .ref 20]) rfl rfl rfl ?_
  refine ev_callI (d := d + 1) (As := []) (a := 21) rfl rfl rfl rfl rfl rfl rfl rfl (ct_4 (d := d + 0) ) ?_
  refine ev_hp (hp1 (hA_cm rfl)) ?_
  refine ev_px (i := .putfield 12) (len := 3) (p' := 15) (s' := []) (o' := .inr (2, [.ref 21, .null, .null, .null, .null, .null, .null, .int 0, .int 0, .int 0, .int 0, .int 0])) rfl rfl rfl ?_
  refine ev_x (i := .aload_n 0) (len := 1) (p' := 16) (s' := [.ref 20]) rfl rfl rfl ?_
  refine ev_x (i := .bipush 12) (len := 2) (p' := 18) (s' := [.int 12, .ref 20]) rfl rfl rfl ?_
  refine ev_nx (i := .newarray .int) (len := 2) (p' := 20) (s' := [.ref 30, .ref 20]) (n' := 30) (k := 30) (x := .inl (0, 12, .inl fun _ => 0)) (A' := nc + 1 + 8 + 1) (B' := ns + 9 + 512 + 12) rfl rfl rfl (by decide) ?_
  refine ev_px (i := .putfield 18) (len := 3) (p' := 23) (s' := []) (o' := .inr (2, [.ref 21, .ref 30, .null, .null, .null, .null, .null, .int 0, .int 0, .int 0, .int 0, .int 0])) rfl rfl rfl ?_
  refine ev_x (i := .aload_n 0) (len := 1) (p' := 24) (s' := [.ref 20]) rfl rfl rfl ?_
  refine ev_x (i := .bipush 12) (len := 2) (p' := 26) (s' := [.int 12, .ref 20]) rfl rfl rfl ?_
  refine ev_nx (i := .newarray .int) (len := 2) (p' := 28) (s' := [.ref 31, .ref 20]) (n' := 31) (k := 31) (x := .inl (0, 12, .inl fun _ => 0)) (A' := nc + 1 + 8 + 1 + 1) (B' := ns + 9 + 512 + 12 + 12) rfl rfl rfl (by decide) ?_
  refine ev_px (i := .putfield 22) (len := 3) (p' := 31) (s' := []) (o' := .inr (2, [.ref 21, .ref 30, .ref 31, .null, .null, .null, .null, .int 0, .int 0, .int 0, .int 0, .int 0])) rfl rfl rfl ?_
  refine ev_x (i := .aload_n 0) (len := 1) (p' := 32) (s' := [.ref 20]) rfl rfl rfl ?_
  refine ev_x (i := .bipush 12) (len := 2) (p' := 34) (s' := [.int 12, .ref 20]) rfl rfl rfl ?_
  refine ev_nx (i := .newarray .int) (len := 2) (p' := 36) (s' := [.ref 32, .ref 20]) (n' := 32) (k := 32) (x := .inl (0, 12, .inl fun _ => 0)) (A' := nc + 1 + 8 + 1 + 1 + 1) (B' := ns + 9 + 512 + 12 + 12 + 12) rfl rfl rfl (by decide) ?_
  refine ev_px (i := .putfield 25) (len := 3) (p' := 39) (s' := []) (o' := .inr (2, [.ref 21, .ref 30, .ref 31, .ref 32, .null, .null, .null, .int 0, .int 0, .int 0, .int 0, .int 0])) rfl rfl rfl ?_
  refine ev_x (i := .aload_n 0) (len := 1) (p' := 40) (s' := [.ref 20]) rfl rfl rfl ?_
  refine ev_x (i := .bipush 12) (len := 2) (p' := 42) (s' := [.int 12, .ref 20]) rfl rfl rfl ?_
  refine ev_nx (i := .newarray .int) (len := 2) (p' := 44) (s' := [.ref 33, .ref 20]) (n' := 33) (k := 33) (x := .inl (0, 12, .inl fun _ => 0)) (A' := nc + 1 + 8 + 1 + 1 + 1 + 1) (B' := ns + 9 + 512 + 12 + 12 + 12 + 12) rfl rfl rfl (by decide) ?_
  refine ev_px (i := .putfield 28) (len := 3) (p' := 47) (s' := []) (o' := .inr (2, [.ref 21, .ref 30, .ref 31, .ref 32, .ref 33, .null, .null, .int 0, .int 0, .int 0, .int 0, .int 0])) rfl rfl rfl ?_
  refine ev_x (i := .aload_n 0) (len := 1) (p' := 48) (s' := [.ref 20]) rfl rfl rfl ?_
  refine ev_x (i := .bipush 60) (len := 2) (p' := 50) (s' := [.int 60, .ref 20]) rfl rfl rfl ?_
  refine ev_nx (i := .newarray .int) (len := 2) (p' := 52) (s' := [.ref 34, .ref 20]) (n' := 34) (k := 34) (x := .inl (0, 60, .inl fun _ => 0)) (A' := nc + 1 + 8 + 1 + 1 + 1 + 1 + 1) (B' := ns + 9 + 512 + 12 + 12 + 12 + 12 + 60) rfl rfl rfl (by decide) ?_
  refine ev_px (i := .putfield 31) (len := 3) (p' := 55) (s' := []) (o' := .inr (2, [.ref 21, .ref 30, .ref 31, .ref 32, .ref 33, .ref 34, .null, .int 0, .int 0, .int 0, .int 0, .int 0])) rfl rfl rfl ?_
  refine ev_x (i := .aload_n 0) (len := 1) (p' := 56) (s' := [.ref 20]) rfl rfl rfl ?_
  refine ev_x (i := .bipush 60) (len := 2) (p' := 58) (s' := [.int 60, .ref 20]) rfl rfl rfl ?_
  refine ev_nx (i := .newarray .int) (len := 2) (p' := 60) (s' := [.ref 35, .ref 20]) (n' := 35) (k := 35) (x := .inl (0, 60, .inl fun _ => 0)) (A' := nc + 1 + 8 + 1 + 1 + 1 + 1 + 1 + 1) (B' := ns + 9 + 512 + 12 + 12 + 12 + 12 + 60 + 60) rfl rfl rfl (by decide) ?_
  refine ev_px (i := .putfield 34) (len := 3) (p' := 63) (s' := []) (o' := .inr (2, [.ref 21, .ref 30, .ref 31, .ref 32, .ref 33, .ref 34, .ref 35, .int 0, .int 0, .int 0, .int 0, .int 0])) rfl rfl rfl ?_
  refine ev_x (i := .aload_n 0) (len := 1) (p' := 64) (s' := [.ref 20]) rfl rfl rfl ?_
  refine ev_x (i := .iconst 0) (len := 1) (p' := 65) (s' := [.int 0, .ref 20]) rfl rfl rfl ?_
  refine ev_px (i := .putfield 37) (len := 3) (p' := 68) (s' := []) (o' := .inr (2, [.ref 21, .ref 30, .ref 31, .ref 32, .ref 33, .ref 34, .ref 35, .int 0, .int 0, .int 0, .int 0, .int 0])) rfl rfl rfl ?_
  refine ev_x (i := .aload_n 0) (len := 1) (p' := 69) (s' := [.ref 20]) rfl rfl rfl ?_
  refine ev_x (i := .iconst 0) (len := 1) (p' := 70) (s' := [.int 0, .ref 20]) rfl rfl rfl ?_
  refine ev_px (i := .putfield 41) (len := 3) (p' := 73) (s' := []) (o' := .inr (2, [.ref 21, .ref 30, .ref 31, .ref 32, .ref 33, .ref 34, .ref 35, .int 0, .int 0, .int 0, .int 0, .int 0])) rfl rfl rfl ?_
  refine ev_x (i := .aload_n 0) (len := 1) (p' := 74) (s' := [.ref 20]) rfl rfl rfl ?_
  refine ev_x (i := .iconst 0) (len := 1) (p' := 75) (s' := [.int 0, .ref 20]) rfl rfl rfl ?_
  refine ev_px (i := .putfield 44) (len := 3) (p' := 78) (s' := []) (o' := .inr (2, [.ref 21, .ref 30, .ref 31, .ref 32, .ref 33, .ref 34, .ref 35, .int 0, .int 0, .int 0, .int 0, .int 0])) rfl rfl rfl ?_
  refine ev_x (i := .aload_n 0) (len := 1) (p' := 79) (s' := [.ref 20]) rfl rfl rfl ?_
  refine ev_x (i := .iconst 0) (len := 1) (p' := 80) (s' := [.int 0, .ref 20]) rfl rfl rfl ?_
  refine ev_px (i := .putfield 47) (len := 3) (p' := 83) (s' := []) (o' := .inr (2, [.ref 21, .ref 30, .ref 31, .ref 32, .ref 33, .ref 34, .ref 35, .int 0, .int 0, .int 0, .int 0, .int 0])) rfl rfl rfl ?_
  refine ev_x (i := .aload_n 0) (len := 1) (p' := 84) (s' := [.ref 20]) rfl rfl rfl ?_
  refine ev_x (i := .iconst (-1)) (len := 1) (p' := 85) (s' := [.int (-1), .ref 20]) rfl rfl rfl ?_
  refine ev_px (i := .putfield 50) (len := 3) (p' := 88) (s' := []) (o' := .inr (2, [.ref 21, .ref 30, .ref 31, .ref 32, .ref 33, .ref 34, .ref 35, .int 0, .int 0, .int 0, .int 0, .int (-1)])) rfl rfl rfl ?_
  refine ev_hp (hp4 (F' := hA f cl_20) (A' := nc + 15) (B' := ns + 689) (by unfold cl_20; simp only [hA_app, hA_1, hA_0]) (by omega) (by omega)) ?_
  exact ev_vret rfl rfl rfl
def cl_36 : List (Nat × va_E) := [(36, .inr (4, [.ref 2, .ref 37, .ref 38, .ref 39, .ref 40, .ref 41, .int 0, .ref 21, .int 0, .int 0, .int (-1), .int 0, .int 0, .int 0, .int 0, .int 0, .int 0]))] ++ [(41, .inl (0, 256, .inl fun _ => 0)), (40, .inl (0, 256, .inl fun _ => 0)), (39, .inl (0, 256, .inl fun _ => 0)), (38, .inl (0, 256, .inl fun _ => 0)), (37, .inl (0, 256, .inl fun _ => 0))]
set_option maxHeartbeats 4000000 in
set_option maxRecDepth 100000 in
/-- GameText$Parser.<init>(LGameText$Words;LGameText$Code;)V, cell 36 -/
theorem ct_6 {d : Nat} {f : Nat → va_E} {nc ns : Nat}  : vz_ev P0 (d + 1) 5 0 (lv_args 0 [.ref 36, .ref 2, .ref 21]) [] (36, va_up f 36 (.inr (4, [.null, .null, .null, .null, .null, .null, .int 0, .null, .int 0, .int 0, .int 0, .int 0, .int 0, .int 0, .int 0, .int 0, .int 0])), nc, ns) (.inl none, (41, hA f cl_36, nc + 5, ns + 1280)) := by
  refine ev_x (i := .aload_n 0) (len := 1) (p' := 1) (s' := [.ref 36]) rfl rfl rfl ?_
  refine ev_obj (d := d + 0) rfl rfl rfl rfl ?_
  refine ev_x (i := .aload_n 0) (len := 1) (p' := 5) (s' := [.ref 36]) rfl rfl rfl ?_
  refine ev_x (i := .aload_n 1) (len := 1) (p' := 6) (s' := [.ref 2, .ref 36]) rfl rfl rfl ?_
  refine ev_px (i := .putfield 9) (len := 3) (p' := 9) (s' := []) (o' := .inr (4, [.ref 2, .null, .null, .null, .null, .null, .int 0, .null, .int 0, .int 0, .int 0, .int 0, .int 0, .int 0, .int 0, .int 0, .int 0])) rfl rfl rfl ?_
  refine ev_x (i := .aload_n 0) (len := 1) (p' := 10) (s' := [.ref 36]) rfl rfl rfl ?_
  refine ev_x (i := .sipush 256) (len := 3) (p' := 13) (s' := [.int 256, .ref 36]) rfl rfl rfl ?_
  refine ev_nx (i := .newarray .int) (len := 2) (p' := 15) (s' := [.ref 37, .ref 36]) (n' := 37) (k := 37) (x := .inl (0, 256, .inl fun _ => 0)) (A' := nc + 1) (B' := ns + 256) rfl rfl rfl (by decide) ?_
  refine ev_px (i := .putfield 15) (len := 3) (p' := 18) (s' := []) (o' := .inr (4, [.ref 2, .ref 37, .null, .null, .null, .null, .int 0, .null, .int 0, .int 0, .int 0, .int 0, .int 0, .int 0, .int 0, .int 0, .int 0])) rfl rfl rfl ?_
  refine ev_x (i := .aload_n 0) (len := 1) (p' := 19) (s' := [.ref 36]) rfl rfl rfl ?_
  refine ev_x (i := .sipush 256) (len := 3) (p' := 22) (s' := [.int 256, .ref 36]) rfl rfl rfl ?_
  refine ev_nx (i := .newarray .int) (len := 2) (p' := 24) (s' := [.ref 38, .ref 36]) (n' := 38) (k := 38) (x := .inl (0, 256, .inl fun _ => 0)) (A' := nc + 1 + 1) (B' := ns + 256 + 256) rfl rfl rfl (by decide) ?_
  refine ev_px (i := .putfield 19) (len := 3) (p' := 27) (s' := []) (o' := .inr (4, [.ref 2, .ref 37, .ref 38, .null, .null, .null, .int 0, .null, .int 0, .int 0, .int 0, .int 0, .int 0, .int 0, .int 0, .int 0, .int 0])) rfl rfl rfl ?_
  refine ev_x (i := .aload_n 0) (len := 1) (p' := 28) (s' := [.ref 36]) rfl rfl rfl ?_
  refine ev_x (i := .sipush 256) (len := 3) (p' := 31) (s' := [.int 256, .ref 36]) rfl rfl rfl ?_
  refine ev_nx (i := .newarray .int) (len := 2) (p' := 33) (s' := [.ref 39, .ref 36]) (n' := 39) (k := 39) (x := .inl (0, 256, .inl fun _ => 0)) (A' := nc + 1 + 1 + 1) (B' := ns + 256 + 256 + 256) rfl rfl rfl (by decide) ?_
  refine ev_px (i := .putfield 22) (len := 3) (p' := 36) (s' := []) (o' := .inr (4, [.ref 2, .ref 37, .ref 38, .ref 39, .null, .null, .int 0, .null, .int 0, .int 0, .int 0, .int 0, .int 0, .int 0, .int 0, .int 0, .int 0])) rfl rfl rfl ?_
  refine ev_x (i := .aload_n 0) (len := 1) (p' := 37) (s' := [.ref 36]) rfl rfl rfl ?_
  refine ev_x (i := .sipush 256) (len := 3) (p' := 40) (s' := [.int 256, .ref 36]) rfl rfl rfl ?_
  refine ev_nx (i := .newarray .int) (len := 2) (p' := 42) (s' := [.ref 40, .ref 36]) (n' := 40) (k := 40) (x := .inl (0, 256, .inl fun _ => 0)) (A' := nc + 1 + 1 + 1 + 1) (B' := ns + 256 + 256 + 256 + 256) rfl rfl rfl (by decide) ?_
  refine ev_px (i := .putfield 25) (len := 3) (p' := 45) (s' := []) (o' := .inr (4, [.ref 2, .ref 37, .ref 38, .ref 39, .ref 40, .null, .int 0, .null, .int 0, .int 0, .int 0, .int 0, .int 0, .int 0, .int 0, .int 0, .int 0])) rfl rfl rfl ?_
  refine ev_x (i := .aload_n 0) (len := 1) (p' := 46) (s' := [.ref 36]) rfl rfl rfl ?_
  refine ev_x (i := .sipush 256) (len := 3) (p' := 49) (s' := [.int 256, .ref 36]) rfl rfl rfl ?_
  refine ev_nx (i := .newarray .int) (len := 2) (p' := 51) (s' := [.ref 41, .ref 36]) (n' := 41) (k := 41) (x := .inl (0, 256, .inl fun _ => 0)) (A' := nc + 1 + 1 + 1 + 1 + 1) (B' := ns + 256 + 256 + 256 + 256 + 256) rfl rfl rfl (by decide) ?_
  refine ev_px (i := .putfield 28) (len := 3) (p' := 54) (s' := []) (o' := .inr (4, [.ref 2, .ref 37, .ref 38, .ref 39, .ref 40, .ref 41, .int 0, .null, .int 0, .int 0, .int 0, .int 0, .int 0, .int 0, .int 0, .int 0, .int 0])) rfl rfl rfl ?_
  refine ev_x (i := .aload_n 0) (len := 1) (p' := 55) (s' := [.ref 36]) rfl rfl rfl ?_
  refine ev_x (i := .iconst 0) (len := 1) (p' := 56) (s' := [.int 0, .ref 36]) rfl rfl rfl ?_
  refine ev_px (i := .putfield 31) (len := 3) (p' := 59) (s' := []) (o' := .inr (4, [.ref 2, .ref 37, .ref 38, .ref 39, .ref 40, .ref 41, .int 0, .null, .int 0, .int 0, .int 0, .int 0, .int 0, .int 0, .int 0, .int 0, .int 0])) rfl rfl rfl ?_
  refine ev_x (i := .aload_n 0) (len := 1) (p' := 60) (s' := [.ref 36]) rfl rfl rfl ?_
  refine ev_x (i := .aload_n 2) (len := 1) (p' := 61) (s' := [.ref 21, .ref 36]) rfl rfl rfl ?_
  refine ev_px (i := .putfield 35) (len := 3) (p' := 64) (s' := []) (o' := .inr (4, [.ref 2, .ref 37, .ref 38, .ref 39, .ref 40, .ref 41, .int 0, .ref 21, .int 0, .int 0, .int 0, .int 0, .int 0, .int 0, .int 0, .int 0, .int 0])) rfl rfl rfl ?_
  refine ev_x (i := .aload_n 0) (len := 1) (p' := 65) (s' := [.ref 36]) rfl rfl rfl ?_
  refine ev_x (i := .iconst 0) (len := 1) (p' := 66) (s' := [.int 0, .ref 36]) rfl rfl rfl ?_
  refine ev_px (i := .putfield 39) (len := 3) (p' := 69) (s' := []) (o' := .inr (4, [.ref 2, .ref 37, .ref 38, .ref 39, .ref 40, .ref 41, .int 0, .ref 21, .int 0, .int 0, .int 0, .int 0, .int 0, .int 0, .int 0, .int 0, .int 0])) rfl rfl rfl ?_
  refine ev_x (i := .aload_n 0) (len := 1) (p' := 70) (s' := [.ref 36]) rfl rfl rfl ?_
  refine ev_x (i := .iconst 0) (len := 1) (p' := 71) (s' := [.int 0, .ref 36]) rfl rfl rfl ?_
  refine ev_px (i := .putfield 42) (len := 3) (p' := 74) (s' := []) (o' := .inr (4, [.ref 2, .ref 37, .ref 38, .ref 39, .ref 40, .ref 41, .int 0, .ref 21, .int 0, .int 0, .int 0, .int 0, .int 0, .int 0, .int 0, .int 0, .int 0])) rfl rfl rfl ?_
  refine ev_x (i := .aload_n 0) (len := 1) (p' := 75) (s' := [.ref 36]) rfl rfl rfl ?_
  refine ev_x (i := .iconst (-1)) (len := 1) (p' := 76) (s' := [.int (-1), .ref 36]) rfl rfl rfl ?_
  refine ev_px (i := .putfield 45) (len := 3) (p' := 79) (s' := []) (o' := .inr (4, [.ref 2, .ref 37, .ref 38, .ref 39, .ref 40, .ref 41, .int 0, .ref 21, .int 0, .int 0, .int (-1), .int 0, .int 0, .int 0, .int 0, .int 0, .int 0])) rfl rfl rfl ?_
  refine ev_x (i := .aload_n 0) (len := 1) (p' := 80) (s' := [.ref 36]) rfl rfl rfl ?_
  refine ev_x (i := .iconst 0) (len := 1) (p' := 81) (s' := [.int 0, .ref 36]) rfl rfl rfl ?_
  refine ev_px (i := .putfield 48) (len := 3) (p' := 84) (s' := []) (o' := .inr (4, [.ref 2, .ref 37, .ref 38, .ref 39, .ref 40, .ref 41, .int 0, .ref 21, .int 0, .int 0, .int (-1), .int 0, .int 0, .int 0, .int 0, .int 0, .int 0])) rfl rfl rfl ?_
  refine ev_x (i := .aload_n 0) (len := 1) (p' := 85) (s' := [.ref 36]) rfl rfl rfl ?_
  refine ev_x (i := .iconst 0) (len := 1) (p' := 86) (s' := [.int 0, .ref 36]) rfl rfl rfl ?_
  refine ev_px (i := .putfield 51) (len := 3) (p' := 89) (s' := []) (o' := .inr (4, [.ref 2, .ref 37, .ref 38, .ref 39, .ref 40, .ref 41, .int 0, .ref 21, .int 0, .int 0, .int (-1), .int 0, .int 0, .int 0, .int 0, .int 0, .int 0])) rfl rfl rfl ?_
  refine ev_x (i := .aload_n 0) (len := 1) (p' := 90) (s' := [.ref 36]) rfl rfl rfl ?_
  refine ev_x (i := .iconst 0) (len := 1) (p' := 91) (s' := [.int 0, .ref 36]) rfl rfl rfl ?_
  refine ev_px (i := .putfield 54) (len := 3) (p' := 94) (s' := []) (o' := .inr (4, [.ref 2, .ref 37, .ref 38, .ref 39, .ref 40, .ref 41, .int 0, .ref 21, .int 0, .int 0, .int (-1), .int 0, .int 0, .int 0, .int 0, .int 0, .int 0])) rfl rfl rfl ?_
  refine ev_x (i := .aload_n 0) (len := 1) (p' := 95) (s' := [.ref 36]) rfl rfl rfl ?_
  refine ev_x (i := .iconst 0) (len := 1) (p' := 96) (s' := [.int 0, .ref 36]) rfl rfl rfl ?_
  refine ev_px (i := .putfield 57) (len := 3) (p' := 99) (s' := []) (o' := .inr (4, [.ref 2, .ref 37, .ref 38, .ref 39, .ref 40, .ref 41, .int 0, .ref 21, .int 0, .int 0, .int (-1), .int 0, .int 0, .int 0, .int 0, .int 0, .int 0])) rfl rfl rfl ?_
  refine ev_x (i := .aload_n 0) (len := 1) (p' := 100) (s' := [.ref 36]) rfl rfl rfl ?_
  refine ev_x (i := .iconst 0) (len := 1) (p' := 101) (s' := [.int 0, .ref 36]) rfl rfl rfl ?_
  refine ev_px (i := .putfield 60) (len := 3) (p' := 104) (s' := []) (o' := .inr (4, [.ref 2, .ref 37, .ref 38, .ref 39, .ref 40, .ref 41, .int 0, .ref 21, .int 0, .int 0, .int (-1), .int 0, .int 0, .int 0, .int 0, .int 0, .int 0])) rfl rfl rfl ?_
  refine ev_x (i := .aload_n 0) (len := 1) (p' := 105) (s' := [.ref 36]) rfl rfl rfl ?_
  refine ev_x (i := .iconst 0) (len := 1) (p' := 106) (s' := [.int 0, .ref 36]) rfl rfl rfl ?_
  refine ev_px (i := .putfield 63) (len := 3) (p' := 109) (s' := []) (o' := .inr (4, [.ref 2, .ref 37, .ref 38, .ref 39, .ref 40, .ref 41, .int 0, .ref 21, .int 0, .int 0, .int (-1), .int 0, .int 0, .int 0, .int 0, .int 0, .int 0])) rfl rfl rfl ?_
  refine ev_hp (hp4 (F' := hA f cl_36) (A' := nc + 5) (B' := ns + 1280) (by unfold cl_36; simp only [hA_app, hA_1, hA_0]) (by omega) (by omega)) ?_
  exact ev_vret rfl rfl rfl
def cl_42 : List (Nat × va_E) := [(42, .inr (5, [.ref 43, .ref 44, .ref 45, .ref 20, .ref 21, .int 1, .int (-1), .long 0, .long 1]))] ++ [(45, .inl (0, 60, .inl fun _ => 0)), (44, .inl (0, 60, .inl fun _ => 0)), (43, .inl (0, 12, .inl fun _ => 0))]
set_option maxHeartbeats 4000000 in
set_option maxRecDepth 100000 in
/-- GameText$Machine.<init>(LGameText$Text;)V, cell 42 -/
theorem ct_7 {d : Nat} {f : Nat → va_E} {nc ns : Nat} (h20 : f 20 = .inr (2, [.ref 21, .ref 30, .ref 31, .ref 32, .ref 33, .ref 34, .ref 35, .int 0, .int 0, .int 0, .int 0, .int (-1)])) : vz_ev P0 (d + 1) 6 0 (lv_args 0 [.ref 42, .ref 20]) [] (42, va_up f 42 (.inr (5, [.null, .null, .null, .null, .null, .int 0, .int 0, .long 0, .long 0])), nc, ns) (.inl none, (45, hA f cl_42, nc + 3, ns + 132)) := by
  refine ev_x (i := .aload_n 0) (len := 1) (p' := 1) (s' := [.ref 42]) rfl rfl rfl ?_
  refine ev_obj (d := d + 0) rfl rfl rfl rfl ?_
  refine ev_x (i := .aload_n 0) (len := 1) (p' := 5) (s' := [.ref 42]) rfl rfl rfl ?_
  refine ev_x (i := .bipush 12) (len := 2) (p' := 7) (s' := [.int 12, .ref 42]) rfl rfl rfl ?_
  refine ev_nx (i := .newarray .int) (len := 2) (p' := 9) (s' := [.ref 43, .ref 42]) (n' := 43) (k := 43) (x := .inl (0, 12, .inl fun _ => 0)) (A' := nc + 1) (B' := ns + 12) rfl rfl rfl (by decide) ?_
  refine ev_px (i := .putfield 9) (len := 3) (p' := 12) (s' := []) (o' := .inr (5, [.ref 43, .null, .null, .null, .null, .int 0, .int 0, .long 0, .long 0])) rfl rfl rfl ?_
  refine ev_x (i := .aload_n 0) (len := 1) (p' := 13) (s' := [.ref 42]) rfl rfl rfl ?_
  refine ev_x (i := .bipush 60) (len := 2) (p' := 15) (s' := [.int 60, .ref 42]) rfl rfl rfl ?_
  refine ev_nx (i := .newarray .int) (len := 2) (p' := 17) (s' := [.ref 44, .ref 42]) (n' := 44) (k := 44) (x := .inl (0, 60, .inl fun _ => 0)) (A' := nc + 1 + 1) (B' := ns + 12 + 60) rfl rfl rfl (by decide) ?_
  refine ev_px (i := .putfield 15) (len := 3) (p' := 20) (s' := []) (o' := .inr (5, [.ref 43, .ref 44, .null, .null, .null, .int 0, .int 0, .long 0, .long 0])) rfl rfl rfl ?_
  refine ev_x (i := .aload_n 0) (len := 1) (p' := 21) (s' := [.ref 42]) rfl rfl rfl ?_
  refine ev_x (i := .bipush 60) (len := 2) (p' := 23) (s' := [.int 60, .ref 42]) rfl rfl rfl ?_
  refine ev_nx (i := .newarray .int) (len := 2) (p' := 25) (s' := [.ref 45, .ref 42]) (n' := 45) (k := 45) (x := .inl (0, 60, .inl fun _ => 0)) (A' := nc + 1 + 1 + 1) (B' := ns + 12 + 60 + 60) rfl rfl rfl (by decide) ?_
  refine ev_px (i := .putfield 18) (len := 3) (p' := 28) (s' := []) (o' := .inr (5, [.ref 43, .ref 44, .ref 45, .null, .null, .int 0, .int 0, .long 0, .long 0])) rfl rfl rfl ?_
  refine ev_x (i := .aload_n 0) (len := 1) (p' := 29) (s' := [.ref 42]) rfl rfl rfl ?_
  refine ev_x (i := .aload_n 1) (len := 1) (p' := 30) (s' := [.ref 20, .ref 42]) rfl rfl rfl ?_
  refine ev_px (i := .putfield 21) (len := 3) (p' := 33) (s' := []) (o' := .inr (5, [.ref 43, .ref 44, .ref 45, .ref 20, .null, .int 0, .int 0, .long 0, .long 0])) rfl rfl rfl ?_
  refine ev_x (i := .aload_n 0) (len := 1) (p' := 34) (s' := [.ref 42]) rfl rfl rfl ?_
  refine ev_x (i := .aload_n 1) (len := 1) (p' := 35) (s' := [.ref 20, .ref 42]) rfl rfl rfl ?_
  refine ev_gf (o := (2, [.ref 21, .ref 30, .ref 31, .ref 32, .ref 33, .ref 34, .ref 35, .int 0, .int 0, .int 0, .int 0, .int (-1)])) (v := .ref 21) rfl rfl rfl (vz_obj_f (by decide) (by decide) (show f 20 = _ from h20)) rfl rfl ?_
  refine ev_px (i := .putfield 31) (len := 3) (p' := 41) (s' := []) (o' := .inr (5, [.ref 43, .ref 44, .ref 45, .ref 20, .ref 21, .int 0, .int 0, .long 0, .long 0])) rfl rfl rfl ?_
  refine ev_x (i := .aload_n 0) (len := 1) (p' := 42) (s' := [.ref 42]) rfl rfl rfl ?_
  refine ev_x (i := .iconst 1) (len := 1) (p' := 43) (s' := [.int 1, .ref 42]) rfl rfl rfl ?_
  refine ev_px (i := .putfield 32) (len := 3) (p' := 46) (s' := []) (o' := .inr (5, [.ref 43, .ref 44, .ref 45, .ref 20, .ref 21, .int 1, .int 0, .long 0, .long 0])) rfl rfl rfl ?_
  refine ev_x (i := .aload_n 0) (len := 1) (p' := 47) (s' := [.ref 42]) rfl rfl rfl ?_
  refine ev_x (i := .iconst (-1)) (len := 1) (p' := 48) (s' := [.int (-1), .ref 42]) rfl rfl rfl ?_
  refine ev_px (i := .putfield 36) (len := 3) (p' := 51) (s' := []) (o' := .inr (5, [.ref 43, .ref 44, .ref 45, .ref 20, .ref 21, .int 1, .int (-1), .long 0, .long 0])) rfl rfl rfl ?_
  refine ev_x (i := .aload_n 0) (len := 1) (p' := 52) (s' := [.ref 42]) rfl rfl rfl ?_
  refine ev_x (i := .lconst 0) (len := 1) (p' := 53) (s' := [.long 0, .ref 42]) rfl rfl rfl ?_
  refine ev_px (i := .putfield 39) (len := 3) (p' := 56) (s' := []) (o' := .inr (5, [.ref 43, .ref 44, .ref 45, .ref 20, .ref 21, .int 1, .int (-1), .long 0, .long 0])) rfl rfl rfl ?_
  refine ev_x (i := .aload_n 0) (len := 1) (p' := 57) (s' := [.ref 42]) rfl rfl rfl ?_
  refine ev_x (i := .lconst 1) (len := 1) (p' := 58) (s' := [.long 1, .ref 42]) rfl rfl rfl ?_
  refine ev_px (i := .putfield 43) (len := 3) (p' := 61) (s' := []) (o' := .inr (5, [.ref 43, .ref 44, .ref 45, .ref 20, .ref 21, .int 1, .int (-1), .long 0, .long 1])) rfl rfl rfl ?_
  refine ev_hp (hp4 (F' := hA f cl_42) (A' := nc + 3) (B' := ns + 132) (by unfold cl_42; simp only [hA_app, hA_1, hA_0]) (by omega) (by omega)) ?_
  exact ev_vret rfl rfl rfl
def cl_47 : List (Nat × va_E) := [(47, .inr (7, [.ref 2, .ref 48, .ref 49, .ref 50, .ref 51, .int 0]))] ++ [(51, .inl (0, 72, .inl fun _ => 0)), (50, .inl (0, 72, .inl fun _ => 0)), (49, .inl (0, 72, .inl fun _ => 0)), (48, .inl (0, 72, .inl fun _ => 0))]
set_option maxHeartbeats 4000000 in
set_option maxRecDepth 100000 in
/-- GameText$Names.<init>(LGameText$Words;)V, cell 47 -/
theorem ct_8 {d : Nat} {f : Nat → va_E} {nc ns : Nat}  : vz_ev P0 (d + 1) 8 0 (lv_args 0 [.ref 47, .ref 2]) [] (47, va_up f 47 (.inr (7, [.null, .null, .null, .null, .null, .int 0])), nc, ns) (.inl none, (51, hA f cl_47, nc + 4, ns + 288)) := by
  refine ev_x (i := .aload_n 0) (len := 1) (p' := 1) (s' := [.ref 47]) rfl rfl rfl ?_
  refine ev_obj (d := d + 0) rfl rfl rfl rfl ?_
  refine ev_x (i := .aload_n 0) (len := 1) (p' := 5) (s' := [.ref 47]) rfl rfl rfl ?_
  refine ev_x (i := .aload_n 1) (len := 1) (p' := 6) (s' := [.ref 2, .ref 47]) rfl rfl rfl ?_
  refine ev_px (i := .putfield 9) (len := 3) (p' := 9) (s' := []) (o' := .inr (7, [.ref 2, .null, .null, .null, .null, .int 0])) rfl rfl rfl ?_
  refine ev_x (i := .aload_n 0) (len := 1) (p' := 10) (s' := [.ref 47]) rfl rfl rfl ?_
  refine ev_x (i := .bipush 72) (len := 2) (p' := 12) (s' := [.int 72, .ref 47]) rfl rfl rfl ?_
  refine ev_nx (i := .newarray .int) (len := 2) (p' := 14) (s' := [.ref 48, .ref 47]) (n' := 48) (k := 48) (x := .inl (0, 72, .inl fun _ => 0)) (A' := nc + 1) (B' := ns + 72) rfl rfl rfl (by decide) ?_
  refine ev_px (i := .putfield 15) (len := 3) (p' := 17) (s' := []) (o' := .inr (7, [.ref 2, .ref 48, .null, .null, .null, .int 0])) rfl rfl rfl ?_
  refine ev_x (i := .aload_n 0) (len := 1) (p' := 18) (s' := [.ref 47]) rfl rfl rfl ?_
  refine ev_x (i := .bipush 72) (len := 2) (p' := 20) (s' := [.int 72, .ref 47]) rfl rfl rfl ?_
  refine ev_nx (i := .newarray .int) (len := 2) (p' := 22) (s' := [.ref 49, .ref 47]) (n' := 49) (k := 49) (x := .inl (0, 72, .inl fun _ => 0)) (A' := nc + 1 + 1) (B' := ns + 72 + 72) rfl rfl rfl (by decide) ?_
  refine ev_px (i := .putfield 19) (len := 3) (p' := 25) (s' := []) (o' := .inr (7, [.ref 2, .ref 48, .ref 49, .null, .null, .int 0])) rfl rfl rfl ?_
  refine ev_x (i := .aload_n 0) (len := 1) (p' := 26) (s' := [.ref 47]) rfl rfl rfl ?_
  refine ev_x (i := .bipush 72) (len := 2) (p' := 28) (s' := [.int 72, .ref 47]) rfl rfl rfl ?_
  refine ev_nx (i := .newarray .int) (len := 2) (p' := 30) (s' := [.ref 50, .ref 47]) (n' := 50) (k := 50) (x := .inl (0, 72, .inl fun _ => 0)) (A' := nc + 1 + 1 + 1) (B' := ns + 72 + 72 + 72) rfl rfl rfl (by decide) ?_
  refine ev_px (i := .putfield 22) (len := 3) (p' := 33) (s' := []) (o' := .inr (7, [.ref 2, .ref 48, .ref 49, .ref 50, .null, .int 0])) rfl rfl rfl ?_
  refine ev_x (i := .aload_n 0) (len := 1) (p' := 34) (s' := [.ref 47]) rfl rfl rfl ?_
  refine ev_x (i := .bipush 72) (len := 2) (p' := 36) (s' := [.int 72, .ref 47]) rfl rfl rfl ?_
  refine ev_nx (i := .newarray .int) (len := 2) (p' := 38) (s' := [.ref 51, .ref 47]) (n' := 51) (k := 51) (x := .inl (0, 72, .inl fun _ => 0)) (A' := nc + 1 + 1 + 1 + 1) (B' := ns + 72 + 72 + 72 + 72) rfl rfl rfl (by decide) ?_
  refine ev_px (i := .putfield 25) (len := 3) (p' := 41) (s' := []) (o' := .inr (7, [.ref 2, .ref 48, .ref 49, .ref 50, .ref 51, .int 0])) rfl rfl rfl ?_
  refine ev_x (i := .aload_n 0) (len := 1) (p' := 42) (s' := [.ref 47]) rfl rfl rfl ?_
  refine ev_x (i := .iconst 0) (len := 1) (p' := 43) (s' := [.int 0, .ref 47]) rfl rfl rfl ?_
  refine ev_px (i := .putfield 28) (len := 3) (p' := 46) (s' := []) (o' := .inr (7, [.ref 2, .ref 48, .ref 49, .ref 50, .ref 51, .int 0])) rfl rfl rfl ?_
  refine ev_hp (hp4 (F' := hA f cl_47) (A' := nc + 4) (B' := ns + 288) (by unfold cl_47; simp only [hA_app, hA_1, hA_0]) (by omega) (by omega)) ?_
  exact ev_vret rfl rfl rfl
def cl_46 : List (Nat × va_E) := [(46, .inr (6, [.ref 47, .ref 42, .ref 20, .ref 21, .int (-1), .int 0, .int 0, .int 0, .int 0, .int (-1), .int (-1), .int 0, .int (-1)]))] ++ cl_47
set_option maxHeartbeats 4000000 in
set_option maxRecDepth 100000 in
/-- GameText$Checker.<init>(LGameText$Words;LGameText$Machine;LGameText$Text;)V, cell 46 -/
theorem ct_9 {d : Nat} {f : Nat → va_E} {nc ns : Nat} (h20 : f 20 = .inr (2, [.ref 21, .ref 30, .ref 31, .ref 32, .ref 33, .ref 34, .ref 35, .int 0, .int 0, .int 0, .int 0, .int (-1)])) : vz_ev P0 (d + 2) 7 0 (lv_args 0 [.ref 46, .ref 2, .ref 42, .ref 20]) [] (46, va_up f 46 (.inr (6, [.null, .null, .null, .null, .int 0, .int 0, .int 0, .int 0, .int 0, .int 0, .int 0, .int 0, .int 0])), nc, ns) (.inl none, (51, hA f cl_46, nc + 5, ns + 294)) := by
  refine ev_x (i := .aload_n 0) (len := 1) (p' := 1) (s' := [.ref 46]) rfl rfl rfl ?_
  refine ev_obj (d := d + 1) rfl rfl rfl rfl ?_
  refine ev_x (i := .aload_n 0) (len := 1) (p' := 5) (s' := [.ref 46]) rfl rfl rfl ?_
  refine ev_x (i := .new 9) (len := 3) (p' := 8) (s' := [.ref 47, .ref 46]) (μ' := (47, va_up (va_up (f) 46 (.inr (6, [.null, .null, .null, .null, .int 0, .int 0, .int 0, .int 0, .int 0, .int 0, .int 0, .int 0, .int 0]))) 47 (.inr (7, [.null, .null, .null, .null, .null, .int 0])), nc + 1, ns + 6)) rfl rfl rfl ?_
  refine ev_x (i := .dup) (len := 1) (p' := 9) (s' := [.ref 47, .ref 47, .ref 46]) rfl rfl rfl ?_
  refine ev_x (i := .aload_n 1) (len := 1) (p' := 10) (s' := [.ref 2, .ref 47, .ref 47, .ref 46]) rfl rfl rfl ?_
  refine ev_callI (d := d + 1) (As := [.ref 2]) (a := 47) rfl rfl rfl rfl rfl rfl rfl rfl (ct_8 (d := d + 0) ) ?_
  refine ev_hp (hp1 (hA_cm rfl)) ?_
  refine ev_px (i := .putfield 14) (len := 3) (p' := 16) (s' := []) (o' := .inr (6, [.ref 47, .null, .null, .null, .int 0, .int 0, .int 0, .int 0, .int 0, .int 0, .int 0, .int 0, .int 0])) rfl rfl rfl ?_
  refine ev_x (i := .aload_n 0) (len := 1) (p' := 17) (s' := [.ref 46]) rfl rfl rfl ?_
  refine ev_x (i := .aload_n 2) (len := 1) (p' := 18) (s' := [.ref 42, .ref 46]) rfl rfl rfl ?_
  refine ev_px (i := .putfield 20) (len := 3) (p' := 21) (s' := []) (o' := .inr (6, [.ref 47, .ref 42, .null, .null, .int 0, .int 0, .int 0, .int 0, .int 0, .int 0, .int 0, .int 0, .int 0])) rfl rfl rfl ?_
  refine ev_x (i := .aload_n 0) (len := 1) (p' := 22) (s' := [.ref 46]) rfl rfl rfl ?_
  refine ev_x (i := .aload_n 3) (len := 1) (p' := 23) (s' := [.ref 20, .ref 46]) rfl rfl rfl ?_
  refine ev_px (i := .putfield 24) (len := 3) (p' := 26) (s' := []) (o' := .inr (6, [.ref 47, .ref 42, .ref 20, .null, .int 0, .int 0, .int 0, .int 0, .int 0, .int 0, .int 0, .int 0, .int 0])) rfl rfl rfl ?_
  refine ev_x (i := .aload_n 0) (len := 1) (p' := 27) (s' := [.ref 46]) rfl rfl rfl ?_
  refine ev_x (i := .aload_n 3) (len := 1) (p' := 28) (s' := [.ref 20, .ref 46]) rfl rfl rfl ?_
  refine ev_gf (o := (2, [.ref 21, .ref 30, .ref 31, .ref 32, .ref 33, .ref 34, .ref 35, .int 0, .int 0, .int 0, .int 0, .int (-1)])) (v := .ref 21) rfl rfl rfl (vz_obj_f (by decide) (by decide) (show f 20 = _ from h20)) rfl rfl ?_
  refine ev_px (i := .putfield 34) (len := 3) (p' := 34) (s' := []) (o' := .inr (6, [.ref 47, .ref 42, .ref 20, .ref 21, .int 0, .int 0, .int 0, .int 0, .int 0, .int 0, .int 0, .int 0, .int 0])) rfl rfl rfl ?_
  refine ev_x (i := .aload_n 0) (len := 1) (p' := 35) (s' := [.ref 46]) rfl rfl rfl ?_
  refine ev_x (i := .iconst (-1)) (len := 1) (p' := 36) (s' := [.int (-1), .ref 46]) rfl rfl rfl ?_
  refine ev_px (i := .putfield 35) (len := 3) (p' := 39) (s' := []) (o' := .inr (6, [.ref 47, .ref 42, .ref 20, .ref 21, .int (-1), .int 0, .int 0, .int 0, .int 0, .int 0, .int 0, .int 0, .int 0])) rfl rfl rfl ?_
  refine ev_x (i := .aload_n 0) (len := 1) (p' := 40) (s' := [.ref 46]) rfl rfl rfl ?_
  refine ev_x (i := .iconst 0) (len := 1) (p' := 41) (s' := [.int 0, .ref 46]) rfl rfl rfl ?_
  refine ev_px (i := .putfield 39) (len := 3) (p' := 44) (s' := []) (o' := .inr (6, [.ref 47, .ref 42, .ref 20, .ref 21, .int (-1), .int 0, .int 0, .int 0, .int 0, .int 0, .int 0, .int 0, .int 0])) rfl rfl rfl ?_
  refine ev_x (i := .aload_n 0) (len := 1) (p' := 45) (s' := [.ref 46]) rfl rfl rfl ?_
  refine ev_x (i := .iconst 0) (len := 1) (p' := 46) (s' := [.int 0, .ref 46]) rfl rfl rfl ?_
  refine ev_px (i := .putfield 42) (len := 3) (p' := 49) (s' := []) (o' := .inr (6, [.ref 47, .ref 42, .ref 20, .ref 21, .int (-1), .int 0, .int 0, .int 0, .int 0, .int 0, .int 0, .int 0, .int 0])) rfl rfl rfl ?_
  refine ev_x (i := .aload_n 0) (len := 1) (p' := 50) (s' := [.ref 46]) rfl rfl rfl ?_
  refine ev_x (i := .iconst 0) (len := 1) (p' := 51) (s' := [.int 0, .ref 46]) rfl rfl rfl ?_
  refine ev_px (i := .putfield 45) (len := 3) (p' := 54) (s' := []) (o' := .inr (6, [.ref 47, .ref 42, .ref 20, .ref 21, .int (-1), .int 0, .int 0, .int 0, .int 0, .int 0, .int 0, .int 0, .int 0])) rfl rfl rfl ?_
  refine ev_x (i := .aload_n 0) (len := 1) (p' := 55) (s' := [.ref 46]) rfl rfl rfl ?_
  refine ev_x (i := .iconst 0) (len := 1) (p' := 56) (s' := [.int 0, .ref 46]) rfl rfl rfl ?_
  refine ev_px (i := .putfield 48) (len := 3) (p' := 59) (s' := []) (o' := .inr (6, [.ref 47, .ref 42, .ref 20, .ref 21, .int (-1), .int 0, .int 0, .int 0, .int 0, .int 0, .int 0, .int 0, .int 0])) rfl rfl rfl ?_
  refine ev_x (i := .aload_n 0) (len := 1) (p' := 60) (s' := [.ref 46]) rfl rfl rfl ?_
  refine ev_x (i := .iconst (-1)) (len := 1) (p' := 61) (s' := [.int (-1), .ref 46]) rfl rfl rfl ?_
  refine ev_px (i := .putfield 51) (len := 3) (p' := 64) (s' := []) (o' := .inr (6, [.ref 47, .ref 42, .ref 20, .ref 21, .int (-1), .int 0, .int 0, .int 0, .int 0, .int (-1), .int 0, .int 0, .int 0])) rfl rfl rfl ?_
  refine ev_x (i := .aload_n 0) (len := 1) (p' := 65) (s' := [.ref 46]) rfl rfl rfl ?_
  refine ev_x (i := .iconst (-1)) (len := 1) (p' := 66) (s' := [.int (-1), .ref 46]) rfl rfl rfl ?_
  refine ev_px (i := .putfield 54) (len := 3) (p' := 69) (s' := []) (o' := .inr (6, [.ref 47, .ref 42, .ref 20, .ref 21, .int (-1), .int 0, .int 0, .int 0, .int 0, .int (-1), .int (-1), .int 0, .int 0])) rfl rfl rfl ?_
  refine ev_x (i := .aload_n 0) (len := 1) (p' := 70) (s' := [.ref 46]) rfl rfl rfl ?_
  refine ev_x (i := .iconst 0) (len := 1) (p' := 71) (s' := [.int 0, .ref 46]) rfl rfl rfl ?_
  refine ev_px (i := .putfield 57) (len := 3) (p' := 74) (s' := []) (o' := .inr (6, [.ref 47, .ref 42, .ref 20, .ref 21, .int (-1), .int 0, .int 0, .int 0, .int 0, .int (-1), .int (-1), .int 0, .int 0])) rfl rfl rfl ?_
  refine ev_x (i := .aload_n 0) (len := 1) (p' := 75) (s' := [.ref 46]) rfl rfl rfl ?_
  refine ev_x (i := .iconst (-1)) (len := 1) (p' := 76) (s' := [.int (-1), .ref 46]) rfl rfl rfl ?_
  refine ev_px (i := .putfield 60) (len := 3) (p' := 79) (s' := []) (o' := .inr (6, [.ref 47, .ref 42, .ref 20, .ref 21, .int (-1), .int 0, .int 0, .int 0, .int 0, .int (-1), .int (-1), .int 0, .int (-1)])) rfl rfl rfl ?_
  refine ev_hp (hp4 (F' := hA f cl_46) (A' := nc + 5) (B' := ns + 294) (by unfold cl_46; simp only [hA_app, hA_1, hA_0]) (by omega) (by omega)) ?_
  exact ev_vret rfl rfl rfl
def cl_52 : List (Nat × va_E) := [(52, .inr (8, [.ref 53, .ref 54, .ref 55, .ref 56, .ref 57, .ref 58, .ref 59, .ref 60, .ref 61, .int 0, .int 0, .int 0, .int 0]))] ++ [(61, .inl (0, 16, .inl fun _ => 0)), (60, .inl (0, 16, .inl fun _ => 0)), (59, .inl (0, 16, .inl fun _ => 0)), (58, .inl (0, 17, .inl fun _ => 0)), (57, .inl (0, 16, .inl fun _ => 0)), (56, .inl (0, 17, .inl fun _ => 0)), (55, .inl (0, 16, .inl fun _ => 0)), (54, .inl (0, 192, .inl fun _ => 0)), (53, .inl (0, 1024, .inl fun _ => 0))]
set_option maxHeartbeats 4000000 in
set_option maxRecDepth 100000 in
/-- GameText$Graph.<init>()V, cell 52 -/
theorem ct_10 {d : Nat} {f : Nat → va_E} {nc ns : Nat}  : vz_ev P0 (d + 1) 9 0 (lv_args 0 [.ref 52]) [] (52, va_up f 52 (.inr (8, [.null, .null, .null, .null, .null, .null, .null, .null, .null, .int 0, .int 0, .int 0, .int 0])), nc, ns) (.inl none, (61, hA f cl_52, nc + 9, ns + 1330)) := by
  refine ev_x (i := .aload_n 0) (len := 1) (p' := 1) (s' := [.ref 52]) rfl rfl rfl ?_
  refine ev_obj (d := d + 0) rfl rfl rfl rfl ?_
  refine ev_x (i := .aload_n 0) (len := 1) (p' := 5) (s' := [.ref 52]) rfl rfl rfl ?_
  refine ev_x (i := .sipush 1024) (len := 3) (p' := 8) (s' := [.int 1024, .ref 52]) rfl rfl rfl ?_
  refine ev_nx (i := .newarray .int) (len := 2) (p' := 10) (s' := [.ref 53, .ref 52]) (n' := 53) (k := 53) (x := .inl (0, 1024, .inl fun _ => 0)) (A' := nc + 1) (B' := ns + 1024) rfl rfl rfl (by decide) ?_
  refine ev_px (i := .putfield 11) (len := 3) (p' := 13) (s' := []) (o' := .inr (8, [.ref 53, .null, .null, .null, .null, .null, .null, .null, .null, .int 0, .int 0, .int 0, .int 0])) rfl rfl rfl ?_
  refine ev_x (i := .aload_n 0) (len := 1) (p' := 14) (s' := [.ref 52]) rfl rfl rfl ?_
  refine ev_x (i := .sipush 192) (len := 3) (p' := 17) (s' := [.int 192, .ref 52]) rfl rfl rfl ?_
  refine ev_nx (i := .newarray .int) (len := 2) (p' := 19) (s' := [.ref 54, .ref 52]) (n' := 54) (k := 54) (x := .inl (0, 192, .inl fun _ => 0)) (A' := nc + 1 + 1) (B' := ns + 1024 + 192) rfl rfl rfl (by decide) ?_
  refine ev_px (i := .putfield 15) (len := 3) (p' := 22) (s' := []) (o' := .inr (8, [.ref 53, .ref 54, .null, .null, .null, .null, .null, .null, .null, .int 0, .int 0, .int 0, .int 0])) rfl rfl rfl ?_
  refine ev_x (i := .aload_n 0) (len := 1) (p' := 23) (s' := [.ref 52]) rfl rfl rfl ?_
  refine ev_x (i := .bipush 16) (len := 2) (p' := 25) (s' := [.int 16, .ref 52]) rfl rfl rfl ?_
  refine ev_nx (i := .newarray .int) (len := 2) (p' := 27) (s' := [.ref 55, .ref 52]) (n' := 55) (k := 55) (x := .inl (0, 16, .inl fun _ => 0)) (A' := nc + 1 + 1 + 1) (B' := ns + 1024 + 192 + 16) rfl rfl rfl (by decide) ?_
  refine ev_px (i := .putfield 18) (len := 3) (p' := 30) (s' := []) (o' := .inr (8, [.ref 53, .ref 54, .ref 55, .null, .null, .null, .null, .null, .null, .int 0, .int 0, .int 0, .int 0])) rfl rfl rfl ?_
  refine ev_x (i := .aload_n 0) (len := 1) (p' := 31) (s' := [.ref 52]) rfl rfl rfl ?_
  refine ev_x (i := .bipush 17) (len := 2) (p' := 33) (s' := [.int 17, .ref 52]) rfl rfl rfl ?_
  refine ev_nx (i := .newarray .int) (len := 2) (p' := 35) (s' := [.ref 56, .ref 52]) (n' := 56) (k := 56) (x := .inl (0, 17, .inl fun _ => 0)) (A' := nc + 1 + 1 + 1 + 1) (B' := ns + 1024 + 192 + 16 + 17) rfl rfl rfl (by decide) ?_
  refine ev_px (i := .putfield 21) (len := 3) (p' := 38) (s' := []) (o' := .inr (8, [.ref 53, .ref 54, .ref 55, .ref 56, .null, .null, .null, .null, .null, .int 0, .int 0, .int 0, .int 0])) rfl rfl rfl ?_
  refine ev_x (i := .aload_n 0) (len := 1) (p' := 39) (s' := [.ref 52]) rfl rfl rfl ?_
  refine ev_x (i := .bipush 16) (len := 2) (p' := 41) (s' := [.int 16, .ref 52]) rfl rfl rfl ?_
  refine ev_nx (i := .newarray .int) (len := 2) (p' := 43) (s' := [.ref 57, .ref 52]) (n' := 57) (k := 57) (x := .inl (0, 16, .inl fun _ => 0)) (A' := nc + 1 + 1 + 1 + 1 + 1) (B' := ns + 1024 + 192 + 16 + 17 + 16) rfl rfl rfl (by decide) ?_
  refine ev_px (i := .putfield 24) (len := 3) (p' := 46) (s' := []) (o' := .inr (8, [.ref 53, .ref 54, .ref 55, .ref 56, .ref 57, .null, .null, .null, .null, .int 0, .int 0, .int 0, .int 0])) rfl rfl rfl ?_
  refine ev_x (i := .aload_n 0) (len := 1) (p' := 47) (s' := [.ref 52]) rfl rfl rfl ?_
  refine ev_x (i := .bipush 17) (len := 2) (p' := 49) (s' := [.int 17, .ref 52]) rfl rfl rfl ?_
  refine ev_nx (i := .newarray .int) (len := 2) (p' := 51) (s' := [.ref 58, .ref 52]) (n' := 58) (k := 58) (x := .inl (0, 17, .inl fun _ => 0)) (A' := nc + 1 + 1 + 1 + 1 + 1 + 1) (B' := ns + 1024 + 192 + 16 + 17 + 16 + 17) rfl rfl rfl (by decide) ?_
  refine ev_px (i := .putfield 27) (len := 3) (p' := 54) (s' := []) (o' := .inr (8, [.ref 53, .ref 54, .ref 55, .ref 56, .ref 57, .ref 58, .null, .null, .null, .int 0, .int 0, .int 0, .int 0])) rfl rfl rfl ?_
  refine ev_x (i := .aload_n 0) (len := 1) (p' := 55) (s' := [.ref 52]) rfl rfl rfl ?_
  refine ev_x (i := .bipush 16) (len := 2) (p' := 57) (s' := [.int 16, .ref 52]) rfl rfl rfl ?_
  refine ev_nx (i := .newarray .int) (len := 2) (p' := 59) (s' := [.ref 59, .ref 52]) (n' := 59) (k := 59) (x := .inl (0, 16, .inl fun _ => 0)) (A' := nc + 1 + 1 + 1 + 1 + 1 + 1 + 1) (B' := ns + 1024 + 192 + 16 + 17 + 16 + 17 + 16) rfl rfl rfl (by decide) ?_
  refine ev_px (i := .putfield 30) (len := 3) (p' := 62) (s' := []) (o' := .inr (8, [.ref 53, .ref 54, .ref 55, .ref 56, .ref 57, .ref 58, .ref 59, .null, .null, .int 0, .int 0, .int 0, .int 0])) rfl rfl rfl ?_
  refine ev_x (i := .aload_n 0) (len := 1) (p' := 63) (s' := [.ref 52]) rfl rfl rfl ?_
  refine ev_x (i := .bipush 16) (len := 2) (p' := 65) (s' := [.int 16, .ref 52]) rfl rfl rfl ?_
  refine ev_nx (i := .newarray .int) (len := 2) (p' := 67) (s' := [.ref 60, .ref 52]) (n' := 60) (k := 60) (x := .inl (0, 16, .inl fun _ => 0)) (A' := nc + 1 + 1 + 1 + 1 + 1 + 1 + 1 + 1) (B' := ns + 1024 + 192 + 16 + 17 + 16 + 17 + 16 + 16) rfl rfl rfl (by decide) ?_
  refine ev_px (i := .putfield 33) (len := 3) (p' := 70) (s' := []) (o' := .inr (8, [.ref 53, .ref 54, .ref 55, .ref 56, .ref 57, .ref 58, .ref 59, .ref 60, .null, .int 0, .int 0, .int 0, .int 0])) rfl rfl rfl ?_
  refine ev_x (i := .aload_n 0) (len := 1) (p' := 71) (s' := [.ref 52]) rfl rfl rfl ?_
  refine ev_x (i := .bipush 16) (len := 2) (p' := 73) (s' := [.int 16, .ref 52]) rfl rfl rfl ?_
  refine ev_nx (i := .newarray .int) (len := 2) (p' := 75) (s' := [.ref 61, .ref 52]) (n' := 61) (k := 61) (x := .inl (0, 16, .inl fun _ => 0)) (A' := nc + 1 + 1 + 1 + 1 + 1 + 1 + 1 + 1 + 1) (B' := ns + 1024 + 192 + 16 + 17 + 16 + 17 + 16 + 16 + 16) rfl rfl rfl (by decide) ?_
  refine ev_px (i := .putfield 36) (len := 3) (p' := 78) (s' := []) (o' := .inr (8, [.ref 53, .ref 54, .ref 55, .ref 56, .ref 57, .ref 58, .ref 59, .ref 60, .ref 61, .int 0, .int 0, .int 0, .int 0])) rfl rfl rfl ?_
  refine ev_x (i := .aload_n 0) (len := 1) (p' := 79) (s' := [.ref 52]) rfl rfl rfl ?_
  refine ev_x (i := .iconst 0) (len := 1) (p' := 80) (s' := [.int 0, .ref 52]) rfl rfl rfl ?_
  refine ev_px (i := .putfield 39) (len := 3) (p' := 83) (s' := []) (o' := .inr (8, [.ref 53, .ref 54, .ref 55, .ref 56, .ref 57, .ref 58, .ref 59, .ref 60, .ref 61, .int 0, .int 0, .int 0, .int 0])) rfl rfl rfl ?_
  refine ev_x (i := .aload_n 0) (len := 1) (p' := 84) (s' := [.ref 52]) rfl rfl rfl ?_
  refine ev_x (i := .iconst 0) (len := 1) (p' := 85) (s' := [.int 0, .ref 52]) rfl rfl rfl ?_
  refine ev_px (i := .putfield 43) (len := 3) (p' := 88) (s' := []) (o' := .inr (8, [.ref 53, .ref 54, .ref 55, .ref 56, .ref 57, .ref 58, .ref 59, .ref 60, .ref 61, .int 0, .int 0, .int 0, .int 0])) rfl rfl rfl ?_
  refine ev_x (i := .aload_n 0) (len := 1) (p' := 89) (s' := [.ref 52]) rfl rfl rfl ?_
  refine ev_x (i := .iconst 0) (len := 1) (p' := 90) (s' := [.int 0, .ref 52]) rfl rfl rfl ?_
  refine ev_px (i := .putfield 46) (len := 3) (p' := 93) (s' := []) (o' := .inr (8, [.ref 53, .ref 54, .ref 55, .ref 56, .ref 57, .ref 58, .ref 59, .ref 60, .ref 61, .int 0, .int 0, .int 0, .int 0])) rfl rfl rfl ?_
  refine ev_x (i := .aload_n 0) (len := 1) (p' := 94) (s' := [.ref 52]) rfl rfl rfl ?_
  refine ev_x (i := .iconst 0) (len := 1) (p' := 95) (s' := [.int 0, .ref 52]) rfl rfl rfl ?_
  refine ev_px (i := .putfield 49) (len := 3) (p' := 98) (s' := []) (o' := .inr (8, [.ref 53, .ref 54, .ref 55, .ref 56, .ref 57, .ref 58, .ref 59, .ref 60, .ref 61, .int 0, .int 0, .int 0, .int 0])) rfl rfl rfl ?_
  refine ev_hp (hp4 (F' := hA f cl_52) (A' := nc + 9) (B' := ns + 1330) (by unfold cl_52; simp only [hA_app, hA_1, hA_0]) (by omega) (by omega)) ?_
  exact ev_vret rfl rfl rfl
def cl_62 : List (Nat × va_E) := [(62, .inr (9, [.ref 42, .ref 52, .ref 63, .ref 64, .ref 65, .ref 4, .ref 5, .int 0, .int (-1), .int (-1)]))] ++ [(65, .inl (0, 12, .inl fun _ => 0)), (64, .inl (0, 8, .inl fun _ => 0)), (63, .inl (0, 8, .inl fun _ => 0))]
set_option maxHeartbeats 4000000 in
set_option maxRecDepth 100000 in
/-- GameText$Explorer.<init>(LGameText$Machine;LGameText$Graph;LGameText$Text;)V, cell 62 -/
theorem ct_11 {d : Nat} {f : Nat → va_E} {nc ns : Nat} (h4 : f 4 = .inr (2, [.ref 5, .ref 14, .ref 15, .ref 16, .ref 17, .ref 18, .ref 19, .int 0, .int 0, .int 0, .int 0, .int (-1)])) : vz_ev P0 (d + 1) 10 0 (lv_args 0 [.ref 62, .ref 42, .ref 52, .ref 4]) [] (62, va_up f 62 (.inr (9, [.null, .null, .null, .null, .null, .null, .null, .int 0, .int 0, .int 0])), nc, ns) (.inl none, (65, hA f cl_62, nc + 3, ns + 28)) := by
  refine ev_x (i := .aload_n 0) (len := 1) (p' := 1) (s' := [.ref 62]) rfl rfl rfl ?_
  refine ev_obj (d := d + 0) rfl rfl rfl rfl ?_
  refine ev_x (i := .aload_n 0) (len := 1) (p' := 5) (s' := [.ref 62]) rfl rfl rfl ?_
  refine ev_x (i := .aload_n 1) (len := 1) (p' := 6) (s' := [.ref 42, .ref 62]) rfl rfl rfl ?_
  refine ev_px (i := .putfield 9) (len := 3) (p' := 9) (s' := []) (o' := .inr (9, [.ref 42, .null, .null, .null, .null, .null, .null, .int 0, .int 0, .int 0])) rfl rfl rfl ?_
  refine ev_x (i := .aload_n 0) (len := 1) (p' := 10) (s' := [.ref 62]) rfl rfl rfl ?_
  refine ev_x (i := .aload_n 2) (len := 1) (p' := 11) (s' := [.ref 52, .ref 62]) rfl rfl rfl ?_
  refine ev_px (i := .putfield 15) (len := 3) (p' := 14) (s' := []) (o' := .inr (9, [.ref 42, .ref 52, .null, .null, .null, .null, .null, .int 0, .int 0, .int 0])) rfl rfl rfl ?_
  refine ev_x (i := .aload_n 0) (len := 1) (p' := 15) (s' := [.ref 62]) rfl rfl rfl ?_
  refine ev_x (i := .bipush 8) (len := 2) (p' := 17) (s' := [.int 8, .ref 62]) rfl rfl rfl ?_
  refine ev_nx (i := .newarray .int) (len := 2) (p' := 19) (s' := [.ref 63, .ref 62]) (n' := 63) (k := 63) (x := .inl (0, 8, .inl fun _ => 0)) (A' := nc + 1) (B' := ns + 8) rfl rfl rfl (by decide) ?_
  refine ev_px (i := .putfield 19) (len := 3) (p' := 22) (s' := []) (o' := .inr (9, [.ref 42, .ref 52, .ref 63, .null, .null, .null, .null, .int 0, .int 0, .int 0])) rfl rfl rfl ?_
  refine ev_x (i := .aload_n 0) (len := 1) (p' := 23) (s' := [.ref 62]) rfl rfl rfl ?_
  refine ev_x (i := .bipush 8) (len := 2) (p' := 25) (s' := [.int 8, .ref 62]) rfl rfl rfl ?_
  refine ev_nx (i := .newarray .int) (len := 2) (p' := 27) (s' := [.ref 64, .ref 62]) (n' := 64) (k := 64) (x := .inl (0, 8, .inl fun _ => 0)) (A' := nc + 1 + 1) (B' := ns + 8 + 8) rfl rfl rfl (by decide) ?_
  refine ev_px (i := .putfield 23) (len := 3) (p' := 30) (s' := []) (o' := .inr (9, [.ref 42, .ref 52, .ref 63, .ref 64, .null, .null, .null, .int 0, .int 0, .int 0])) rfl rfl rfl ?_
  refine ev_x (i := .aload_n 0) (len := 1) (p' := 31) (s' := [.ref 62]) rfl rfl rfl ?_
  refine ev_x (i := .bipush 12) (len := 2) (p' := 33) (s' := [.int 12, .ref 62]) rfl rfl rfl ?_
  refine ev_nx (i := .newarray .int) (len := 2) (p' := 35) (s' := [.ref 65, .ref 62]) (n' := 65) (k := 65) (x := .inl (0, 12, .inl fun _ => 0)) (A' := nc + 1 + 1 + 1) (B' := ns + 8 + 8 + 12) rfl rfl rfl (by decide) ?_
  refine ev_px (i := .putfield 26) (len := 3) (p' := 38) (s' := []) (o' := .inr (9, [.ref 42, .ref 52, .ref 63, .ref 64, .ref 65, .null, .null, .int 0, .int 0, .int 0])) rfl rfl rfl ?_
  refine ev_x (i := .aload_n 0) (len := 1) (p' := 39) (s' := [.ref 62]) rfl rfl rfl ?_
  refine ev_x (i := .aload_n 3) (len := 1) (p' := 40) (s' := [.ref 4, .ref 62]) rfl rfl rfl ?_
  refine ev_px (i := .putfield 29) (len := 3) (p' := 43) (s' := []) (o' := .inr (9, [.ref 42, .ref 52, .ref 63, .ref 64, .ref 65, .ref 4, .null, .int 0, .int 0, .int 0])) rfl rfl rfl ?_
  refine ev_x (i := .aload_n 0) (len := 1) (p' := 44) (s' := [.ref 62]) rfl rfl rfl ?_
  refine ev_x (i := .aload_n 3) (len := 1) (p' := 45) (s' := [.ref 4, .ref 62]) rfl rfl rfl ?_
  refine ev_gf (o := (2, [.ref 5, .ref 14, .ref 15, .ref 16, .ref 17, .ref 18, .ref 19, .int 0, .int 0, .int 0, .int 0, .int (-1)])) (v := .ref 5) rfl rfl rfl (vz_obj_f (by decide) (by decide) (show f 4 = _ from h4)) rfl rfl ?_
  refine ev_px (i := .putfield 39) (len := 3) (p' := 51) (s' := []) (o' := .inr (9, [.ref 42, .ref 52, .ref 63, .ref 64, .ref 65, .ref 4, .ref 5, .int 0, .int 0, .int 0])) rfl rfl rfl ?_
  refine ev_x (i := .aload_n 0) (len := 1) (p' := 52) (s' := [.ref 62]) rfl rfl rfl ?_
  refine ev_x (i := .iconst 0) (len := 1) (p' := 53) (s' := [.int 0, .ref 62]) rfl rfl rfl ?_
  refine ev_px (i := .putfield 40) (len := 3) (p' := 56) (s' := []) (o' := .inr (9, [.ref 42, .ref 52, .ref 63, .ref 64, .ref 65, .ref 4, .ref 5, .int 0, .int 0, .int 0])) rfl rfl rfl ?_
  refine ev_x (i := .aload_n 0) (len := 1) (p' := 57) (s' := [.ref 62]) rfl rfl rfl ?_
  refine ev_x (i := .iconst (-1)) (len := 1) (p' := 58) (s' := [.int (-1), .ref 62]) rfl rfl rfl ?_
  refine ev_px (i := .putfield 44) (len := 3) (p' := 61) (s' := []) (o' := .inr (9, [.ref 42, .ref 52, .ref 63, .ref 64, .ref 65, .ref 4, .ref 5, .int 0, .int (-1), .int 0])) rfl rfl rfl ?_
  refine ev_x (i := .aload_n 0) (len := 1) (p' := 62) (s' := [.ref 62]) rfl rfl rfl ?_
  refine ev_x (i := .iconst (-1)) (len := 1) (p' := 63) (s' := [.int (-1), .ref 62]) rfl rfl rfl ?_
  refine ev_px (i := .putfield 47) (len := 3) (p' := 66) (s' := []) (o' := .inr (9, [.ref 42, .ref 52, .ref 63, .ref 64, .ref 65, .ref 4, .ref 5, .int 0, .int (-1), .int (-1)])) rfl rfl rfl ?_
  refine ev_hp (hp4 (F' := hA f cl_62) (A' := nc + 3) (B' := ns + 28) (by unfold cl_62; simp only [hA_app, hA_1, hA_0]) (by omega) (by omega)) ?_
  exact ev_vret rfl rfl rfl
def cl_1 : List (Nat × va_E) := [(1, .inr (0, [.ref 2, .ref 36, .ref 46, .ref 52, .ref 62, .ref 4, .ref 20, .int 0, .int 0, .int (-1)]))] ++ cl_62 ++ cl_52 ++ cl_46 ++ cl_42 ++ cl_36 ++ cl_20 ++ cl_4 ++ cl_2
set_option maxHeartbeats 4000000 in
set_option maxRecDepth 100000 in
/-- GameText.<init>()V, cell 1 -/
theorem ct_12 {d : Nat} {f : Nat → va_E} {nc ns : Nat}  : vz_ev P0 (d + 3) 1 0 (lv_args 0 [.ref 1]) [] (1, va_up f 1 (.inr (0, [.null, .null, .null, .null, .null, .null, .null, .int 0, .int 0, .int 0])), nc, ns) (.inl none, (65, hA f cl_1, nc + 64, ns + 4791)) := by
  refine ev_x (i := .aload_n 0) (len := 1) (p' := 1) (s' := [.ref 1]) rfl rfl rfl ?_
  refine ev_obj (d := d + 2) rfl rfl rfl rfl ?_
  refine ev_x (i := .aload_n 0) (len := 1) (p' := 5) (s' := [.ref 1]) rfl rfl rfl ?_
  refine ev_x (i := .new 7) (len := 3) (p' := 8) (s' := [.ref 2, .ref 1]) (μ' := (2, va_up (va_up (f) 1 (.inr (0, [.null, .null, .null, .null, .null, .null, .null, .int 0, .int 0, .int 0]))) 2 (.inr (1, [.null, .int 0, .int 0, .int 0, .int 0, .int 0, .int 0])), nc + 1, ns + 7)) rfl rfl rfl ?_
  refine ev_x (i := .dup) (len := 1) (p' := 9) (s' := [.ref 2, .ref 2, .ref 1]) rfl rfl rfl ?_
  refine ev_callI (d := d + 2) (As := []) (a := 2) rfl rfl rfl rfl rfl rfl rfl rfl (ct_1 (d := d + 1) ) ?_
  refine ev_hp (hp1 (hA_cm rfl)) ?_
  refine ev_px (i := .putfield 10) (len := 3) (p' := 15) (s' := []) (o' := .inr (0, [.ref 2, .null, .null, .null, .null, .null, .null, .int 0, .int 0, .int 0])) rfl rfl rfl ?_
  refine ev_x (i := .aload_n 0) (len := 1) (p' := 16) (s' := [.ref 1]) rfl rfl rfl ?_
  refine ev_x (i := .new 16) (len := 3) (p' := 19) (s' := [.ref 4, .ref 1]) (μ' := (4, va_up (va_up (hA f cl_2) 1 (.inr (0, [.ref 2, .null, .null, .null, .null, .null, .null, .int 0, .int 0, .int 0]))) 4 (.inr (2, [.null, .null, .null, .null, .null, .null, .null, .int 0, .int 0, .int 0, .int 0, .int 0])), nc + 1 + 1 + 1, ns + 7 + 256 + 12)) rfl rfl rfl ?_
  refine ev_x (i := .dup) (len := 1) (p' := 20) (s' := [.ref 4, .ref 4, .ref 1]) rfl rfl rfl ?_
  refine ev_callI (d := d + 2) (As := []) (a := 4) rfl rfl rfl rfl rfl rfl rfl rfl (ct_3 (d := d + 0) ) ?_
  refine ev_hp (hp1 (hA_cm rfl)) ?_
  refine ev_px (i := .putfield 19) (len := 3) (p' := 26) (s' := []) (o' := .inr (0, [.ref 2, .null, .null, .null, .null, .ref 4, .null, .int 0, .int 0, .int 0])) rfl rfl rfl ?_
  refine ev_x (i := .aload_n 0) (len := 1) (p' := 27) (s' := [.ref 1]) rfl rfl rfl ?_
  refine ev_x (i := .new 16) (len := 3) (p' := 30) (s' := [.ref 20, .ref 1]) (μ' := (20, va_up (va_up (hA (hA f cl_2) cl_4) 1 (.inr (0, [.ref 2, .null, .null, .null, .null, .ref 4, .null, .int 0, .int 0, .int 0]))) 20 (.inr (2, [.null, .null, .null, .null, .null, .null, .null, .int 0, .int 0, .int 0, .int 0, .int 0])), nc + 1 + 1 + 1 + 15 + 1, ns + 7 + 256 + 12 + 689 + 12)) rfl rfl rfl ?_
  refine ev_x (i := .dup) (len := 1) (p' := 31) (s' := [.ref 20, .ref 20, .ref 1]) rfl rfl rfl ?_
  refine ev_callI (d := d + 2) (As := []) (a := 20) rfl rfl rfl rfl rfl rfl rfl rfl (ct_5 (d := d + 0) ) ?_
  refine ev_hp (hp1 (hA_cm rfl)) ?_
  refine ev_px (i := .putfield 23) (len := 3) (p' := 37) (s' := []) (o' := .inr (0, [.ref 2, .null, .null, .null, .null, .ref 4, .ref 20, .int 0, .int 0, .int 0])) rfl rfl rfl ?_
  refine ev_x (i := .aload_n 0) (len := 1) (p' := 38) (s' := [.ref 1]) rfl rfl rfl ?_
  refine ev_x (i := .new 26) (len := 3) (p' := 41) (s' := [.ref 36, .ref 1]) (μ' := (36, va_up (va_up (hA (hA (hA f cl_2) cl_4) cl_20) 1 (.inr (0, [.ref 2, .null, .null, .null, .null, .ref 4, .ref 20, .int 0, .int 0, .int 0]))) 36 (.inr (4, [.null, .null, .null, .null, .null, .null, .int 0, .null, .int 0, .int 0, .int 0, .int 0, .int 0, .int 0, .int 0, .int 0, .int 0])), nc + 1 + 1 + 1 + 15 + 1 + 15 + 1, ns + 7 + 256 + 12 + 689 + 12 + 689 + 17)) rfl rfl rfl ?_
  refine ev_x (i := .dup) (len := 1) (p' := 42) (s' := [.ref 36, .ref 36, .ref 1]) rfl rfl rfl ?_
  refine ev_x (i := .aload_n 0) (len := 1) (p' := 43) (s' := [.ref 1, .ref 36, .ref 36, .ref 1]) rfl rfl rfl ?_
  refine ev_x (i := .getfield 10) (len := 3) (p' := 46) (s' := [.ref 2, .ref 36, .ref 36, .ref 1]) rfl rfl rfl ?_
  refine ev_x (i := .aload_n 0) (len := 1) (p' := 47) (s' := [.ref 1, .ref 2, .ref 36, .ref 36, .ref 1]) rfl rfl rfl ?_
  refine ev_x (i := .getfield 23) (len := 3) (p' := 50) (s' := [.ref 20, .ref 2, .ref 36, .ref 36, .ref 1]) rfl rfl rfl ?_
  refine ev_x (i := .getfield 28) (len := 3) (p' := 53) (s' := [.ref 21, .ref 2, .ref 36, .ref 36, .ref 1]) rfl rfl rfl ?_
  refine ev_callI (d := d + 2) (As := [.ref 2, .ref 21]) (a := 36) rfl rfl rfl rfl rfl rfl rfl rfl (ct_6 (d := d + 1) ) ?_
  refine ev_hp (hp1 (hA_cm rfl)) ?_
  refine ev_px (i := .putfield 35) (len := 3) (p' := 59) (s' := []) (o' := .inr (0, [.ref 2, .ref 36, .null, .null, .null, .ref 4, .ref 20, .int 0, .int 0, .int 0])) rfl rfl rfl ?_
  refine ev_x (i := .new 39) (len := 3) (p' := 62) (s' := [.ref 42]) (μ' := (42, va_up (va_up (hA (hA (hA (hA f cl_2) cl_4) cl_20) cl_36) 1 (.inr (0, [.ref 2, .ref 36, .null, .null, .null, .ref 4, .ref 20, .int 0, .int 0, .int 0]))) 42 (.inr (5, [.null, .null, .null, .null, .null, .int 0, .int 0, .long 0, .long 0])), nc + 1 + 1 + 1 + 15 + 1 + 15 + 1 + 5 + 1, ns + 7 + 256 + 12 + 689 + 12 + 689 + 17 + 1280 + 9)) rfl rfl rfl ?_
  refine ev_x (i := .dup) (len := 1) (p' := 63) (s' := [.ref 42, .ref 42]) rfl rfl rfl ?_
  refine ev_x (i := .aload_n 0) (len := 1) (p' := 64) (s' := [.ref 1, .ref 42, .ref 42]) rfl rfl rfl ?_
  refine ev_x (i := .getfield 23) (len := 3) (p' := 67) (s' := [.ref 20, .ref 42, .ref 42]) rfl rfl rfl ?_
  refine ev_callI (d := d + 2) (As := [.ref 20]) (a := 42) rfl rfl rfl rfl rfl rfl rfl rfl (ct_7 (d := d + 1) rfl) ?_
  refine ev_hp (hp1 (hA_cm rfl)) ?_
  refine ev_x (i := .astore_n 1) (len := 1) (p' := 71) (s' := []) (l' := [(1, .ref 42), (0, .ref 1)]) rfl rfl rfl ?_
  refine ev_x (i := .aload_n 0) (len := 1) (p' := 72) (s' := [.ref 1]) rfl rfl rfl ?_
  refine ev_x (i := .new 44) (len := 3) (p' := 75) (s' := [.ref 46, .ref 1]) (μ' := (46, va_up (va_up (hA (hA (hA (hA (hA f cl_2) cl_4) cl_20) cl_36) cl_42) 1 (.inr (0, [.ref 2, .ref 36, .null, .null, .null, .ref 4, .ref 20, .int 0, .int 0, .int 0]))) 46 (.inr (6, [.null, .null, .null, .null, .int 0, .int 0, .int 0, .int 0, .int 0, .int 0, .int 0, .int 0, .int 0])), nc + 1 + 1 + 1 + 15 + 1 + 15 + 1 + 5 + 1 + 3 + 1, ns + 7 + 256 + 12 + 689 + 12 + 689 + 17 + 1280 + 9 + 132 + 13)) rfl rfl rfl ?_
  refine ev_x (i := .dup) (len := 1) (p' := 76) (s' := [.ref 46, .ref 46, .ref 1]) rfl rfl rfl ?_
  refine ev_x (i := .aload_n 0) (len := 1) (p' := 77) (s' := [.ref 1, .ref 46, .ref 46, .ref 1]) rfl rfl rfl ?_
  refine ev_x (i := .getfield 10) (len := 3) (p' := 80) (s' := [.ref 2, .ref 46, .ref 46, .ref 1]) rfl rfl rfl ?_
  refine ev_x (i := .aload_n 1) (len := 1) (p' := 81) (s' := [.ref 42, .ref 2, .ref 46, .ref 46, .ref 1]) rfl rfl rfl ?_
  refine ev_x (i := .aload_n 0) (len := 1) (p' := 82) (s' := [.ref 1, .ref 42, .ref 2, .ref 46, .ref 46, .ref 1]) rfl rfl rfl ?_
  refine ev_x (i := .getfield 23) (len := 3) (p' := 85) (s' := [.ref 20, .ref 42, .ref 2, .ref 46, .ref 46, .ref 1]) rfl rfl rfl ?_
  refine ev_callI (d := d + 2) (As := [.ref 2, .ref 42, .ref 20]) (a := 46) rfl rfl rfl rfl rfl rfl rfl rfl (ct_9 (d := d + 0) rfl) ?_
  refine ev_hp (hp1 (hA_cm rfl)) ?_
  refine ev_px (i := .putfield 49) (len := 3) (p' := 91) (s' := []) (o' := .inr (0, [.ref 2, .ref 36, .ref 46, .null, .null, .ref 4, .ref 20, .int 0, .int 0, .int 0])) rfl rfl rfl ?_
  refine ev_x (i := .aload_n 0) (len := 1) (p' := 92) (s' := [.ref 1]) rfl rfl rfl ?_
  refine ev_x (i := .new 53) (len := 3) (p' := 95) (s' := [.ref 52, .ref 1]) (μ' := (52, va_up (va_up (hA (hA (hA (hA (hA (hA f cl_2) cl_4) cl_20) cl_36) cl_42) cl_46) 1 (.inr (0, [.ref 2, .ref 36, .ref 46, .null, .null, .ref 4, .ref 20, .int 0, .int 0, .int 0]))) 52 (.inr (8, [.null, .null, .null, .null, .null, .null, .null, .null, .null, .int 0, .int 0, .int 0, .int 0])), nc + 1 + 1 + 1 + 15 + 1 + 15 + 1 + 5 + 1 + 3 + 1 + 5 + 1, ns + 7 + 256 + 12 + 689 + 12 + 689 + 17 + 1280 + 9 + 132 + 13 + 294 + 13)) rfl rfl rfl ?_
  refine ev_x (i := .dup) (len := 1) (p' := 96) (s' := [.ref 52, .ref 52, .ref 1]) rfl rfl rfl ?_
  refine ev_callI (d := d + 2) (As := []) (a := 52) rfl rfl rfl rfl rfl rfl rfl rfl (ct_10 (d := d + 1) ) ?_
  refine ev_hp (hp1 (hA_cm rfl)) ?_
  refine ev_px (i := .putfield 56) (len := 3) (p' := 102) (s' := []) (o' := .inr (0, [.ref 2, .ref 36, .ref 46, .ref 52, .null, .ref 4, .ref 20, .int 0, .int 0, .int 0])) rfl rfl rfl ?_
  refine ev_x (i := .aload_n 0) (len := 1) (p' := 103) (s' := [.ref 1]) rfl rfl rfl ?_
  refine ev_x (i := .new 60) (len := 3) (p' := 106) (s' := [.ref 62, .ref 1]) (μ' := (62, va_up (va_up (hA (hA (hA (hA (hA (hA (hA f cl_2) cl_4) cl_20) cl_36) cl_42) cl_46) cl_52) 1 (.inr (0, [.ref 2, .ref 36, .ref 46, .ref 52, .null, .ref 4, .ref 20, .int 0, .int 0, .int 0]))) 62 (.inr (9, [.null, .null, .null, .null, .null, .null, .null, .int 0, .int 0, .int 0])), nc + 1 + 1 + 1 + 15 + 1 + 15 + 1 + 5 + 1 + 3 + 1 + 5 + 1 + 9 + 1, ns + 7 + 256 + 12 + 689 + 12 + 689 + 17 + 1280 + 9 + 132 + 13 + 294 + 13 + 1330 + 10)) rfl rfl rfl ?_
  refine ev_x (i := .dup) (len := 1) (p' := 107) (s' := [.ref 62, .ref 62, .ref 1]) rfl rfl rfl ?_
  refine ev_x (i := .aload_n 1) (len := 1) (p' := 108) (s' := [.ref 42, .ref 62, .ref 62, .ref 1]) rfl rfl rfl ?_
  refine ev_x (i := .aload_n 0) (len := 1) (p' := 109) (s' := [.ref 1, .ref 42, .ref 62, .ref 62, .ref 1]) rfl rfl rfl ?_
  refine ev_x (i := .getfield 56) (len := 3) (p' := 112) (s' := [.ref 52, .ref 42, .ref 62, .ref 62, .ref 1]) rfl rfl rfl ?_
  refine ev_x (i := .aload_n 0) (len := 1) (p' := 113) (s' := [.ref 1, .ref 52, .ref 42, .ref 62, .ref 62, .ref 1]) rfl rfl rfl ?_
  refine ev_x (i := .getfield 19) (len := 3) (p' := 116) (s' := [.ref 4, .ref 52, .ref 42, .ref 62, .ref 62, .ref 1]) rfl rfl rfl ?_
  refine ev_callI (d := d + 2) (As := [.ref 42, .ref 52, .ref 4]) (a := 62) rfl rfl rfl rfl rfl rfl rfl rfl (ct_11 (d := d + 1) rfl) ?_
  refine ev_hp (hp1 (hA_cm rfl)) ?_
  refine ev_px (i := .putfield 65) (len := 3) (p' := 122) (s' := []) (o' := .inr (0, [.ref 2, .ref 36, .ref 46, .ref 52, .ref 62, .ref 4, .ref 20, .int 0, .int 0, .int 0])) rfl rfl rfl ?_
  refine ev_x (i := .aload_n 0) (len := 1) (p' := 123) (s' := [.ref 1]) rfl rfl rfl ?_
  refine ev_x (i := .iconst 0) (len := 1) (p' := 124) (s' := [.int 0, .ref 1]) rfl rfl rfl ?_
  refine ev_px (i := .putfield 69) (len := 3) (p' := 127) (s' := []) (o' := .inr (0, [.ref 2, .ref 36, .ref 46, .ref 52, .ref 62, .ref 4, .ref 20, .int 0, .int 0, .int 0])) rfl rfl rfl ?_
  refine ev_x (i := .aload_n 0) (len := 1) (p' := 128) (s' := [.ref 1]) rfl rfl rfl ?_
  refine ev_x (i := .iconst 0) (len := 1) (p' := 129) (s' := [.int 0, .ref 1]) rfl rfl rfl ?_
  refine ev_px (i := .putfield 73) (len := 3) (p' := 132) (s' := []) (o' := .inr (0, [.ref 2, .ref 36, .ref 46, .ref 52, .ref 62, .ref 4, .ref 20, .int 0, .int 0, .int 0])) rfl rfl rfl ?_
  refine ev_x (i := .aload_n 0) (len := 1) (p' := 133) (s' := [.ref 1]) rfl rfl rfl ?_
  refine ev_x (i := .iconst (-1)) (len := 1) (p' := 134) (s' := [.int (-1), .ref 1]) rfl rfl rfl ?_
  refine ev_px (i := .putfield 76) (len := 3) (p' := 137) (s' := []) (o' := .inr (0, [.ref 2, .ref 36, .ref 46, .ref 52, .ref 62, .ref 4, .ref 20, .int 0, .int 0, .int (-1)])) rfl rfl rfl ?_
  refine ev_hp (hp4 (F' := hA f cl_1) (A' := nc + 64) (B' := ns + 4791) (by unfold cl_1; simp only [hA_app, hA_1, hA_0]) (by omega) (by omega)) ?_
  exact ev_vret rfl rfl rfl
