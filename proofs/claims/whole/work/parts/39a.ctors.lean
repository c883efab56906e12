/-! the reference's constructors -/
def cl_67 : List (Nat × va_E) := [(67, .inr (11, [.ref 68, .int 0]))] ++ [(68, .inl (0, 16, .inl fun _ => 0))]
set_option maxHeartbeats 4000000 in
set_option maxRecDepth 100000 in
/-- GameTextModel$Numbers.<init>()V, cell 67 -/
theorem ct_13 {d : Nat} {f : Nat → va_E} {nc ns : Nat}  : vz_ev P0 (d + 1) 128 0 (lv_args 0 [.ref 67]) [] (67, va_up f 67 (.inr (11, [.null, .int 0])), nc, ns) (.inl none, (68, hA f cl_67, nc + 1, ns + 16)) := by
  refine ev_x (i := .aload_n 0) (len := 1) (p' := 1) (s' := [.ref 67]) rfl rfl rfl ?_
  refine ev_obj (d := d + 0) rfl rfl rfl rfl ?_
  refine ev_x (i := .aload_n 0) (len := 1) (p' := 5) (s' := [.ref 67]) rfl rfl rfl ?_
  refine ev_x (i := .bipush 16) (len := 2) (p' := 7) (s' := [.int 16, .ref 67]) rfl rfl rfl ?_
  refine ev_nx (i := .newarray .int) (len := 2) (p' := 9) (s' := [.ref 68, .ref 67]) (n' := 68) (k := 68) (x := .inl (0, 16, .inl fun _ => 0)) (A' := nc + 1) (B' := ns + 16) rfl rfl rfl (by decide) ?_
  refine ev_px (i := .putfield 7) (len := 3) (p' := 12) (s' := []) (o' := .inr (11, [.ref 68, .int 0])) rfl rfl rfl ?_
  refine ev_hp (hp4 (F' := hA f cl_67) (A' := nc + 1) (B' := ns + 16) (by unfold cl_67; simp only [hA_app, hA_1, hA_0]) (by omega) (by omega)) ?_
  exact ev_vret rfl rfl rfl
def cl_69 : List (Nat × va_E) := [(69, .inr (11, [.ref 70, .int 0]))] ++ [(70, .inl (0, 16, .inl fun _ => 0))]
set_option maxHeartbeats 4000000 in
set_option maxRecDepth 100000 in
/-- GameTextModel$Numbers.<init>()V, cell 69 -/
theorem ct_14 {d : Nat} {f : Nat → va_E} {nc ns : Nat}  : vz_ev P0 (d + 1) 128 0 (lv_args 0 [.ref 69]) [] (69, va_up f 69 (.inr (11, [.null, .int 0])), nc, ns) (.inl none, (70, hA f cl_69, nc + 1, ns + 16)) := by
  refine ev_x (i := .aload_n 0) (len := 1) (p' := 1) (s' := [.ref 69]) rfl rfl rfl ?_
  refine ev_obj (d := d + 0) rfl rfl rfl rfl ?_
  refine ev_x (i := .aload_n 0) (len := 1) (p' := 5) (s' := [.ref 69]) rfl rfl rfl ?_
  refine ev_x (i := .bipush 16) (len := 2) (p' := 7) (s' := [.int 16, .ref 69]) rfl rfl rfl ?_
  refine ev_nx (i := .newarray .int) (len := 2) (p' := 9) (s' := [.ref 70, .ref 69]) (n' := 70) (k := 70) (x := .inl (0, 16, .inl fun _ => 0)) (A' := nc + 1) (B' := ns + 16) rfl rfl rfl (by decide) ?_
  refine ev_px (i := .putfield 7) (len := 3) (p' := 12) (s' := []) (o' := .inr (11, [.ref 70, .int 0])) rfl rfl rfl ?_
  refine ev_hp (hp4 (F' := hA f cl_69) (A' := nc + 1) (B' := ns + 16) (by unfold cl_69; simp only [hA_app, hA_1, hA_0]) (by omega) (by omega)) ?_
  exact ev_vret rfl rfl rfl
def cl_71 : List (Nat × va_E) := [(71, .inr (11, [.ref 72, .int 0]))] ++ [(72, .inl (0, 16, .inl fun _ => 0))]
set_option maxHeartbeats 4000000 in
set_option maxRecDepth 100000 in
/-- GameTextModel$Numbers.<init>()V, cell 71 -/
theorem ct_15 {d : Nat} {f : Nat → va_E} {nc ns : Nat}  : vz_ev P0 (d + 1) 128 0 (lv_args 0 [.ref 71]) [] (71, va_up f 71 (.inr (11, [.null, .int 0])), nc, ns) (.inl none, (72, hA f cl_71, nc + 1, ns + 16)) := by
  refine ev_x (i := .aload_n 0) (len := 1) (p' := 1) (s' := [.ref 71]) rfl rfl rfl ?_
  refine ev_obj (d := d + 0) rfl rfl rfl rfl ?_
  refine ev_x (i := .aload_n 0) (len := 1) (p' := 5) (s' := [.ref 71]) rfl rfl rfl ?_
  refine ev_x (i := .bipush 16) (len := 2) (p' := 7) (s' := [.int 16, .ref 71]) rfl rfl rfl ?_
  refine ev_nx (i := .newarray .int) (len := 2) (p' := 9) (s' := [.ref 72, .ref 71]) (n' := 72) (k := 72) (x := .inl (0, 16, .inl fun _ => 0)) (A' := nc + 1) (B' := ns + 16) rfl rfl rfl (by decide) ?_
  refine ev_px (i := .putfield 7) (len := 3) (p' := 12) (s' := []) (o' := .inr (11, [.ref 72, .int 0])) rfl rfl rfl ?_
  refine ev_hp (hp4 (F' := hA f cl_71) (A' := nc + 1) (B' := ns + 16) (by unfold cl_71; simp only [hA_app, hA_1, hA_0]) (by omega) (by omega)) ?_
  exact ev_vret rfl rfl rfl
def cl_73 : List (Nat × va_E) := [(73, .inr (11, [.ref 74, .int 0]))] ++ [(74, .inl (0, 16, .inl fun _ => 0))]
set_option maxHeartbeats 4000000 in
set_option maxRecDepth 100000 in
/-- GameTextModel$Numbers.<init>()V, cell 73 -/
theorem ct_16 {d : Nat} {f : Nat → va_E} {nc ns : Nat}  : vz_ev P0 (d + 1) 128 0 (lv_args 0 [.ref 73]) [] (73, va_up f 73 (.inr (11, [.null, .int 0])), nc, ns) (.inl none, (74, hA f cl_73, nc + 1, ns + 16)) := by
  refine ev_x (i := .aload_n 0) (len := 1) (p' := 1) (s' := [.ref 73]) rfl rfl rfl ?_
  refine ev_obj (d := d + 0) rfl rfl rfl rfl ?_
  refine ev_x (i := .aload_n 0) (len := 1) (p' := 5) (s' := [.ref 73]) rfl rfl rfl ?_
  refine ev_x (i := .bipush 16) (len := 2) (p' := 7) (s' := [.int 16, .ref 73]) rfl rfl rfl ?_
  refine ev_nx (i := .newarray .int) (len := 2) (p' := 9) (s' := [.ref 74, .ref 73]) (n' := 74) (k := 74) (x := .inl (0, 16, .inl fun _ => 0)) (A' := nc + 1) (B' := ns + 16) rfl rfl rfl (by decide) ?_
  refine ev_px (i := .putfield 7) (len := 3) (p' := 12) (s' := []) (o' := .inr (11, [.ref 74, .int 0])) rfl rfl rfl ?_
  refine ev_hp (hp4 (F' := hA f cl_73) (A' := nc + 1) (B' := ns + 16) (by unfold cl_73; simp only [hA_app, hA_1, hA_0]) (by omega) (by omega)) ?_
  exact ev_vret rfl rfl rfl
def cl_75 : List (Nat × va_E) := [(75, .inr (11, [.ref 76, .int 0]))] ++ [(76, .inl (0, 16, .inl fun _ => 0))]
set_option maxHeartbeats 4000000 in
set_option maxRecDepth 100000 in
/-- GameTextModel$Numbers.<init>()V, cell 75 -/
theorem ct_17 {d : Nat} {f : Nat → va_E} {nc ns : Nat}  : vz_ev P0 (d + 1) 128 0 (lv_args 0 [.ref 75]) [] (75, va_up f 75 (.inr (11, [.null, .int 0])), nc, ns) (.inl none, (76, hA f cl_75, nc + 1, ns + 16)) := by
  refine ev_x (i := .aload_n 0) (len := 1) (p' := 1) (s' := [.ref 75]) rfl rfl rfl ?_
  refine ev_obj (d := d + 0) rfl rfl rfl rfl ?_
  refine ev_x (i := .aload_n 0) (len := 1) (p' := 5) (s' := [.ref 75]) rfl rfl rfl ?_
  refine ev_x (i := .bipush 16) (len := 2) (p' := 7) (s' := [.int 16, .ref 75]) rfl rfl rfl ?_
  refine ev_nx (i := .newarray .int) (len := 2) (p' := 9) (s' := [.ref 76, .ref 75]) (n' := 76) (k := 76) (x := .inl (0, 16, .inl fun _ => 0)) (A' := nc + 1) (B' := ns + 16) rfl rfl rfl (by decide) ?_
  refine ev_px (i := .putfield 7) (len := 3) (p' := 12) (s' := []) (o' := .inr (11, [.ref 76, .int 0])) rfl rfl rfl ?_
  refine ev_hp (hp4 (F' := hA f cl_75) (A' := nc + 1) (B' := ns + 16) (by unfold cl_75; simp only [hA_app, hA_1, hA_0]) (by omega) (by omega)) ?_
  exact ev_vret rfl rfl rfl
def cl_77 : List (Nat × va_E) := [(77, .inr (11, [.ref 78, .int 0]))] ++ [(78, .inl (0, 16, .inl fun _ => 0))]
set_option maxHeartbeats 4000000 in
set_option maxRecDepth 100000 in
/-- GameTextModel$Numbers.<init>()V, cell 77 -/
theorem ct_18 {d : Nat} {f : Nat → va_E} {nc ns : Nat}  : vz_ev P0 (d + 1) 128 0 (lv_args 0 [.ref 77]) [] (77, va_up f 77 (.inr (11, [.null, .int 0])), nc, ns) (.inl none, (78, hA f cl_77, nc + 1, ns + 16)) := by
  refine ev_x (i := .aload_n 0) (len := 1) (p' := 1) (s' := [.ref 77]) rfl rfl rfl ?_
  refine ev_obj (d := d + 0) rfl rfl rfl rfl ?_
  refine ev_x (i := .aload_n 0) (len := 1) (p' := 5) (s' := [.ref 77]) rfl rfl rfl ?_
  refine ev_x (i := .bipush 16) (len := 2) (p' := 7) (s' := [.int 16, .ref 77]) rfl rfl rfl ?_
  refine ev_nx (i := .newarray .int) (len := 2) (p' := 9) (s' := [.ref 78, .ref 77]) (n' := 78) (k := 78) (x := .inl (0, 16, .inl fun _ => 0)) (A' := nc + 1) (B' := ns + 16) rfl rfl rfl (by decide) ?_
  refine ev_px (i := .putfield 7) (len := 3) (p' := 12) (s' := []) (o' := .inr (11, [.ref 78, .int 0])) rfl rfl rfl ?_
  refine ev_hp (hp4 (F' := hA f cl_77) (A' := nc + 1) (B' := ns + 16) (by unfold cl_77; simp only [hA_app, hA_1, hA_0]) (by omega) (by omega)) ?_
  exact ev_vret rfl rfl rfl
def cl_80 : List (Nat × va_E) := [(80, .inr (11, [.ref 81, .int 0]))] ++ [(81, .inl (0, 16, .inl fun _ => 0))]
set_option maxHeartbeats 4000000 in
set_option maxRecDepth 100000 in
/-- GameTextModel$Numbers.<init>()V, cell 80 -/
theorem ct_19 {d : Nat} {f : Nat → va_E} {nc ns : Nat}  : vz_ev P0 (d + 1) 128 0 (lv_args 0 [.ref 80]) [] (80, va_up f 80 (.inr (11, [.null, .int 0])), nc, ns) (.inl none, (81, hA f cl_80, nc + 1, ns + 16)) := by
  refine ev_x (i := .aload_n 0) (len := 1) (p' := 1) (s' := [.ref 80]) rfl rfl rfl ?_
  refine ev_obj (d := d + 0) rfl rfl rfl rfl ?_
  refine ev_x (i := .aload_n 0) (len := 1) (p' := 5) (s' := [.ref 80]) rfl rfl rfl ?_
  refine ev_x (i := .bipush 16) (len := 2) (p' := 7) (s' := [.int 16, .ref 80]) rfl rfl rfl ?_
  refine ev_nx (i := .newarray .int) (len := 2) (p' := 9) (s' := [.ref 81, .ref 80]) (n' := 81) (k := 81) (x := .inl (0, 16, .inl fun _ => 0)) (A' := nc + 1) (B' := ns + 16) rfl rfl rfl (by decide) ?_
  refine ev_px (i := .putfield 7) (len := 3) (p' := 12) (s' := []) (o' := .inr (11, [.ref 81, .int 0])) rfl rfl rfl ?_
  refine ev_hp (hp4 (F' := hA f cl_80) (A' := nc + 1) (B' := ns + 16) (by unfold cl_80; simp only [hA_app, hA_1, hA_0]) (by omega) (by omega)) ?_
  exact ev_vret rfl rfl rfl
def cl_82 : List (Nat × va_E) := [(82, .inr (11, [.ref 83, .int 0]))] ++ [(83, .inl (0, 16, .inl fun _ => 0))]
set_option maxHeartbeats 4000000 in
set_option maxRecDepth 100000 in
/-- GameTextModel$Numbers.<init>()V, cell 82 -/
theorem ct_20 {d : Nat} {f : Nat → va_E} {nc ns : Nat}  : vz_ev P0 (d + 1) 128 0 (lv_args 0 [.ref 82]) [] (82, va_up f 82 (.inr (11, [.null, .int 0])), nc, ns) (.inl none, (83, hA f cl_82, nc + 1, ns + 16)) := by
  refine ev_x (i := .aload_n 0) (len := 1) (p' := 1) (s' := [.ref 82]) rfl rfl rfl ?_
  refine ev_obj (d := d + 0) rfl rfl rfl rfl ?_
  refine ev_x (i := .aload_n 0) (len := 1) (p' := 5) (s' := [.ref 82]) rfl rfl rfl ?_
  refine ev_x (i := .bipush 16) (len := 2) (p' := 7) (s' := [.int 16, .ref 82]) rfl rfl rfl ?_
  refine ev_nx (i := .newarray .int) (len := 2) (p' := 9) (s' := [.ref 83, .ref 82]) (n' := 83) (k := 83) (x := .inl (0, 16, .inl fun _ => 0)) (A' := nc + 1) (B' := ns + 16) rfl rfl rfl (by decide) ?_
  refine ev_px (i := .putfield 7) (len := 3) (p' := 12) (s' := []) (o' := .inr (11, [.ref 83, .int 0])) rfl rfl rfl ?_
  refine ev_hp (hp4 (F' := hA f cl_82) (A' := nc + 1) (B' := ns + 16) (by unfold cl_82; simp only [hA_app, hA_1, hA_0]) (by omega) (by omega)) ?_
  exact ev_vret rfl rfl rfl
def cl_84 : List (Nat × va_E) := [(84, .inr (11, [.ref 85, .int 0]))] ++ [(85, .inl (0, 16, .inl fun _ => 0))]
set_option maxHeartbeats 4000000 in
set_option maxRecDepth 100000 in
/-- GameTextModel$Numbers.<init>()V, cell 84 -/
theorem ct_21 {d : Nat} {f : Nat → va_E} {nc ns : Nat}  : vz_ev P0 (d + 1) 128 0 (lv_args 0 [.ref 84]) [] (84, va_up f 84 (.inr (11, [.null, .int 0])), nc, ns) (.inl none, (85, hA f cl_84, nc + 1, ns + 16)) := by
  refine ev_x (i := .aload_n 0) (len := 1) (p' := 1) (s' := [.ref 84]) rfl rfl rfl ?_
  refine ev_obj (d := d + 0) rfl rfl rfl rfl ?_
  refine ev_x (i := .aload_n 0) (len := 1) (p' := 5) (s' := [.ref 84]) rfl rfl rfl ?_
  refine ev_x (i := .bipush 16) (len := 2) (p' := 7) (s' := [.int 16, .ref 84]) rfl rfl rfl ?_
  refine ev_nx (i := .newarray .int) (len := 2) (p' := 9) (s' := [.ref 85, .ref 84]) (n' := 85) (k := 85) (x := .inl (0, 16, .inl fun _ => 0)) (A' := nc + 1) (B' := ns + 16) rfl rfl rfl (by decide) ?_
  refine ev_px (i := .putfield 7) (len := 3) (p' := 12) (s' := []) (o' := .inr (11, [.ref 85, .int 0])) rfl rfl rfl ?_
  refine ev_hp (hp4 (F' := hA f cl_84) (A' := nc + 1) (B' := ns + 16) (by unfold cl_84; simp only [hA_app, hA_1, hA_0]) (by omega) (by omega)) ?_
  exact ev_vret rfl rfl rfl
def cl_86 : List (Nat × va_E) := [(86, .inr (11, [.ref 87, .int 0]))] ++ [(87, .inl (0, 16, .inl fun _ => 0))]
set_option maxHeartbeats 4000000 in
set_option maxRecDepth 100000 in
/-- GameTextModel$Numbers.<init>()V, cell 86 -/
theorem ct_22 {d : Nat} {f : Nat → va_E} {nc ns : Nat}  : vz_ev P0 (d + 1) 128 0 (lv_args 0 [.ref 86]) [] (86, va_up f 86 (.inr (11, [.null, .int 0])), nc, ns) (.inl none, (87, hA f cl_86, nc + 1, ns + 16)) := by
  refine ev_x (i := .aload_n 0) (len := 1) (p' := 1) (s' := [.ref 86]) rfl rfl rfl ?_
  refine ev_obj (d := d + 0) rfl rfl rfl rfl ?_
  refine ev_x (i := .aload_n 0) (len := 1) (p' := 5) (s' := [.ref 86]) rfl rfl rfl ?_
  refine ev_x (i := .bipush 16) (len := 2) (p' := 7) (s' := [.int 16, .ref 86]) rfl rfl rfl ?_
  refine ev_nx (i := .newarray .int) (len := 2) (p' := 9) (s' := [.ref 87, .ref 86]) (n' := 87) (k := 87) (x := .inl (0, 16, .inl fun _ => 0)) (A' := nc + 1) (B' := ns + 16) rfl rfl rfl (by decide) ?_
  refine ev_px (i := .putfield 7) (len := 3) (p' := 12) (s' := []) (o' := .inr (11, [.ref 87, .int 0])) rfl rfl rfl ?_
  refine ev_hp (hp4 (F' := hA f cl_86) (A' := nc + 1) (B' := ns + 16) (by unfold cl_86; simp only [hA_app, hA_1, hA_0]) (by omega) (by omega)) ?_
  exact ev_vret rfl rfl rfl
def cl_88 : List (Nat × va_E) := [(88, .inr (11, [.ref 89, .int 0]))] ++ [(89, .inl (0, 16, .inl fun _ => 0))]
set_option maxHeartbeats 4000000 in
set_option maxRecDepth 100000 in
/-- GameTextModel$Numbers.<init>()V, cell 88 -/
theorem ct_23 {d : Nat} {f : Nat → va_E} {nc ns : Nat}  : vz_ev P0 (d + 1) 128 0 (lv_args 0 [.ref 88]) [] (88, va_up f 88 (.inr (11, [.null, .int 0])), nc, ns) (.inl none, (89, hA f cl_88, nc + 1, ns + 16)) := by
  refine ev_x (i := .aload_n 0) (len := 1) (p' := 1) (s' := [.ref 88]) rfl rfl rfl ?_
  refine ev_obj (d := d + 0) rfl rfl rfl rfl ?_
  refine ev_x (i := .aload_n 0) (len := 1) (p' := 5) (s' := [.ref 88]) rfl rfl rfl ?_
  refine ev_x (i := .bipush 16) (len := 2) (p' := 7) (s' := [.int 16, .ref 88]) rfl rfl rfl ?_
  refine ev_nx (i := .newarray .int) (len := 2) (p' := 9) (s' := [.ref 89, .ref 88]) (n' := 89) (k := 89) (x := .inl (0, 16, .inl fun _ => 0)) (A' := nc + 1) (B' := ns + 16) rfl rfl rfl (by decide) ?_
  refine ev_px (i := .putfield 7) (len := 3) (p' := 12) (s' := []) (o' := .inr (11, [.ref 89, .int 0])) rfl rfl rfl ?_
  refine ev_hp (hp4 (F' := hA f cl_88) (A' := nc + 1) (B' := ns + 16) (by unfold cl_88; simp only [hA_app, hA_1, hA_0]) (by omega) (by omega)) ?_
  exact ev_vret rfl rfl rfl
def cl_90 : List (Nat × va_E) := [(90, .inr (11, [.ref 91, .int 0]))] ++ [(91, .inl (0, 16, .inl fun _ => 0))]
set_option maxHeartbeats 4000000 in
set_option maxRecDepth 100000 in
/-- GameTextModel$Numbers.<init>()V, cell 90 -/
theorem ct_24 {d : Nat} {f : Nat → va_E} {nc ns : Nat}  : vz_ev P0 (d + 1) 128 0 (lv_args 0 [.ref 90]) [] (90, va_up f 90 (.inr (11, [.null, .int 0])), nc, ns) (.inl none, (91, hA f cl_90, nc + 1, ns + 16)) := by
  refine ev_x (i := .aload_n 0) (len := 1) (p' := 1) (s' := [.ref 90]) rfl rfl rfl ?_
  refine ev_obj (d := d + 0) rfl rfl rfl rfl ?_
  refine ev_x (i := .aload_n 0) (len := 1) (p' := 5) (s' := [.ref 90]) rfl rfl rfl ?_
  refine ev_x (i := .bipush 16) (len := 2) (p' := 7) (s' := [.int 16, .ref 90]) rfl rfl rfl ?_
  refine ev_nx (i := .newarray .int) (len := 2) (p' := 9) (s' := [.ref 91, .ref 90]) (n' := 91) (k := 91) (x := .inl (0, 16, .inl fun _ => 0)) (A' := nc + 1) (B' := ns + 16) rfl rfl rfl (by decide) ?_
  refine ev_px (i := .putfield 7) (len := 3) (p' := 12) (s' := []) (o' := .inr (11, [.ref 91, .int 0])) rfl rfl rfl ?_
  refine ev_hp (hp4 (F' := hA f cl_90) (A' := nc + 1) (B' := ns + 16) (by unfold cl_90; simp only [hA_app, hA_1, hA_0]) (by omega) (by omega)) ?_
  exact ev_vret rfl rfl rfl
def cl_109 : List (Nat × va_E) := [(109, .inr (11, [.ref 110, .int 0]))] ++ [(110, .inl (0, 16, .inl fun _ => 0))]
set_option maxHeartbeats 4000000 in
set_option maxRecDepth 100000 in
/-- GameTextModel$Numbers.<init>()V, cell 109 -/
theorem ct_25 {d : Nat} {f : Nat → va_E} {nc ns : Nat}  : vz_ev P0 (d + 1) 128 0 (lv_args 0 [.ref 109]) [] (109, va_up f 109 (.inr (11, [.null, .int 0])), nc, ns) (.inl none, (110, hA f cl_109, nc + 1, ns + 16)) := by
  refine ev_x (i := .aload_n 0) (len := 1) (p' := 1) (s' := [.ref 109]) rfl rfl rfl ?_
  refine ev_obj (d := d + 0) rfl rfl rfl rfl ?_
  refine ev_x (i := .aload_n 0) (len := 1) (p' := 5) (s' := [.ref 109]) rfl rfl rfl ?_
  refine ev_x (i := .bipush 16) (len := 2) (p' := 7) (s' := [.int 16, .ref 109]) rfl rfl rfl ?_
  refine ev_nx (i := .newarray .int) (len := 2) (p' := 9) (s' := [.ref 110, .ref 109]) (n' := 110) (k := 110) (x := .inl (0, 16, .inl fun _ => 0)) (A' := nc + 1) (B' := ns + 16) rfl rfl rfl (by decide) ?_
  refine ev_px (i := .putfield 7) (len := 3) (p' := 12) (s' := []) (o' := .inr (11, [.ref 110, .int 0])) rfl rfl rfl ?_
  refine ev_hp (hp4 (F' := hA f cl_109) (A' := nc + 1) (B' := ns + 16) (by unfold cl_109; simp only [hA_app, hA_1, hA_0]) (by omega) (by omega)) ?_
  exact ev_vret rfl rfl rfl
def cl_111 : List (Nat × va_E) := [(111, .inr (11, [.ref 112, .int 0]))] ++ [(112, .inl (0, 16, .inl fun _ => 0))]
set_option maxHeartbeats 4000000 in
set_option maxRecDepth 100000 in
/-- GameTextModel$Numbers.<init>()V, cell 111 -/
theorem ct_26 {d : Nat} {f : Nat → va_E} {nc ns : Nat}  : vz_ev P0 (d + 1) 128 0 (lv_args 0 [.ref 111]) [] (111, va_up f 111 (.inr (11, [.null, .int 0])), nc, ns) (.inl none, (112, hA f cl_111, nc + 1, ns + 16)) := by
  refine ev_x (i := .aload_n 0) (len := 1) (p' := 1) (s' := [.ref 111]) rfl rfl rfl ?_
  refine ev_obj (d := d + 0) rfl rfl rfl rfl ?_
  refine ev_x (i := .aload_n 0) (len := 1) (p' := 5) (s' := [.ref 111]) rfl rfl rfl ?_
  refine ev_x (i := .bipush 16) (len := 2) (p' := 7) (s' := [.int 16, .ref 111]) rfl rfl rfl ?_
  refine ev_nx (i := .newarray .int) (len := 2) (p' := 9) (s' := [.ref 112, .ref 111]) (n' := 112) (k := 112) (x := .inl (0, 16, .inl fun _ => 0)) (A' := nc + 1) (B' := ns + 16) rfl rfl rfl (by decide) ?_
  refine ev_px (i := .putfield 7) (len := 3) (p' := 12) (s' := []) (o' := .inr (11, [.ref 112, .int 0])) rfl rfl rfl ?_
  refine ev_hp (hp4 (F' := hA f cl_111) (A' := nc + 1) (B' := ns + 16) (by unfold cl_111; simp only [hA_app, hA_1, hA_0]) (by omega) (by omega)) ?_
  exact ev_vret rfl rfl rfl
def cl_113 : List (Nat × va_E) := [(113, .inr (11, [.ref 114, .int 0]))] ++ [(114, .inl (0, 16, .inl fun _ => 0))]
set_option maxHeartbeats 4000000 in
set_option maxRecDepth 100000 in
/-- GameTextModel$Numbers.<init>()V, cell 113 -/
theorem ct_27 {d : Nat} {f : Nat → va_E} {nc ns : Nat}  : vz_ev P0 (d + 1) 128 0 (lv_args 0 [.ref 113]) [] (113, va_up f 113 (.inr (11, [.null, .int 0])), nc, ns) (.inl none, (114, hA f cl_113, nc + 1, ns + 16)) := by
  refine ev_x (i := .aload_n 0) (len := 1) (p' := 1) (s' := [.ref 113]) rfl rfl rfl ?_
  refine ev_obj (d := d + 0) rfl rfl rfl rfl ?_
  refine ev_x (i := .aload_n 0) (len := 1) (p' := 5) (s' := [.ref 113]) rfl rfl rfl ?_
  refine ev_x (i := .bipush 16) (len := 2) (p' := 7) (s' := [.int 16, .ref 113]) rfl rfl rfl ?_
  refine ev_nx (i := .newarray .int) (len := 2) (p' := 9) (s' := [.ref 114, .ref 113]) (n' := 114) (k := 114) (x := .inl (0, 16, .inl fun _ => 0)) (A' := nc + 1) (B' := ns + 16) rfl rfl rfl (by decide) ?_
  refine ev_px (i := .putfield 7) (len := 3) (p' := 12) (s' := []) (o' := .inr (11, [.ref 114, .int 0])) rfl rfl rfl ?_
  refine ev_hp (hp4 (F' := hA f cl_113) (A' := nc + 1) (B' := ns + 16) (by unfold cl_113; simp only [hA_app, hA_1, hA_0]) (by omega) (by omega)) ?_
  exact ev_vret rfl rfl rfl
def cl_79 : List (Nat × va_E) := [(79, .inr (12, [.ref 80, .ref 82, .ref 84, .ref 86, .ref 88, .ref 90, .int 0, .ref 92, .ref 93, .ref 94, .ref 95, .ref 96, .int 0, .ref 97, .ref 98, .ref 99, .ref 100, .int 0, .int 0, .ref 101, .ref 102, .ref 103, .ref 104, .ref 105, .ref 106, .ref 107, .ref 108, .ref 109, .ref 111, .ref 113]))] ++ cl_113 ++ cl_111 ++ cl_109 ++ [(108, .inl (0, 480, .inl fun _ => 0)), (107, .inl (0, 480, .inl fun _ => 0)), (106, .inl (0, 480, .inl fun _ => 0)), (105, .inl (0, 480, .inl fun _ => 0)), (104, .inl (0, 60, .inl fun _ => 0)), (103, .inl (0, 60, .inl fun _ => 0)), (102, .inl (0, 60, .inl fun _ => 0)), (101, .inl (2, 60, .inl fun _ => 0)), (100, .inl (0, 12, .inl fun _ => 0)), (99, .inl (0, 12, .inl fun _ => 0)), (98, .inl (0, 12, .inl fun _ => 0)), (97, .inl (2, 12, .inl fun _ => 0)), (96, .inl (1, 60, .inr (.inl fun _ => 0))), (95, .inl (1, 60, .inr (.inl fun _ => 0))), (94, .inl (0, 60, .inl fun _ => 0)), (93, .inl (2, 60, .inl fun _ => 0)), (92, .inl (2, 60, .inl fun _ => 0))] ++ cl_90 ++ cl_88 ++ cl_86 ++ cl_84 ++ cl_82 ++ cl_80
set_option maxHeartbeats 4000000 in
set_option maxRecDepth 100000 in
/-- GameTextModel$Game.<init>()V, cell 79 -/
theorem ct_28 {d : Nat} {f : Nat → va_E} {nc ns : Nat}  : vz_ev P0 (d + 2) 129 0 (lv_args 0 [.ref 79]) [] (79, va_up f 79 (.inr (12, [.null, .null, .null, .null, .null, .null, .int 0, .null, .null, .null, .null, .null, .int 0, .null, .null, .null, .null, .int 0, .int 0, .null, .null, .null, .null, .null, .null, .null, .null, .null, .null, .null])), nc, ns) (.inl none, (114, hA f cl_79, nc + 35, ns + 2670)) := by
  refine ev_x (i := .aload_n 0) (len := 1) (p' := 1) (s' := [.ref 79]) rfl rfl rfl ?_
  refine ev_obj (d := d + 1) rfl rfl rfl rfl ?_
  refine ev_x (i := .aload_n 0) (len := 1) (p' := 5) (s' := [.ref 79]) rfl rfl rfl ?_
  refine ev_x (i := .new 9) (len := 3) (p' := 8) (s' := [.ref 80, .ref 79]) (μ' := (80, va_up (va_up (f) 79 (.inr (12, [.null, .null, .null, .null, .null, .null, .int 0, .null, .null, .null, .null, .null, .int 0, .null, .null, .null, .null, .int 0, .int 0, .null, .null, .null, .null, .null, .null, .null, .null, .null, .null, .null]))) 80 (.inr (11, [.null, .int 0])), nc + 1, ns + 2)) rfl rfl rfl ?_
  refine ev_x (i := .dup) (len := 1) (p' := 9) (s' := [.ref 80, .ref 80, .ref 79]) rfl rfl rfl ?_
  refine ev_callI (d := d + 1) (As := []) (a := 80) rfl rfl rfl rfl rfl rfl rfl rfl (ct_19 (d := d + 0) ) ?_
  refine ev_hp (hp1 (hA_cm rfl)) ?_
  refine ev_px (i := .putfield 12) (len := 3) (p' := 15) (s' := []) (o' := .inr (12, [.ref 80, .null, .null, .null, .null, .null, .int 0, .null, .null, .null, .null, .null, .int 0, .null, .null, .null, .null, .int 0, .int 0, .null, .null, .null, .null, .null, .null, .null, .null, .null, .null, .null])) rfl rfl rfl ?_
  refine ev_x (i := .aload_n 0) (len := 1) (p' := 16) (s' := [.ref 79]) rfl rfl rfl ?_
  refine ev_x (i := .new 9) (len := 3) (p' := 19) (s' := [.ref 82, .ref 79]) (μ' := (82, va_up (va_up (hA f cl_80) 79 (.inr (12, [.ref 80, .null, .null, .null, .null, .null, .int 0, .null, .null, .null, .null, .null, .int 0, .null, .null, .null, .null, .int 0, .int 0, .null, .null, .null, .null, .null, .null, .null, .null, .null, .null, .null]))) 82 (.inr (11, [.null, .int 0])), nc + 1 + 1 + 1, ns + 2 + 16 + 2)) rfl rfl rfl ?_
  refine ev_x (i := .dup) (len := 1) (p' := 20) (s' := [.ref 82, .ref 82, .ref 79]) rfl rfl rfl ?_
  refine ev_callI (d := d + 1) (As := []) (a := 82) rfl rfl rfl rfl rfl rfl rfl rfl (ct_20 (d := d + 0) ) ?_
  refine ev_hp (hp1 (hA_cm rfl)) ?_
  refine ev_px (i := .putfield 18) (len := 3) (p' := 26) (s' := []) (o' := .inr (12, [.ref 80, .ref 82, .null, .null, .null, .null, .int 0, .null, .null, .null, .null, .null, .int 0, .null, .null, .null, .null, .int 0, .int 0, .null, .null, .null, .null, .null, .null, .null, .null, .null, .null, .null])) rfl rfl rfl ?_
  refine ev_x (i := .aload_n 0) (len := 1) (p' := 27) (s' := [.ref 79]) rfl rfl rfl ?_
  refine ev_x (i := .new 9) (len := 3) (p' := 30) (s' := [.ref 84, .ref 79]) (μ' := (84, va_up (va_up (hA (hA f cl_80) cl_82) 79 (.inr (12, [.ref 80, .ref 82, .null, .null, .null, .null, .int 0, .null, .null, .null, .null, .null, .int 0, .null, .null, .null, .null, .int 0, .int 0, .null, .null, .null, .null, .null, .null, .null, .null, .null, .null, .null]))) 84 (.inr (11, [.null, .int 0])), nc + 1 + 1 + 1 + 1 + 1, ns + 2 + 16 + 2 + 16 + 2)) rfl rfl rfl ?_
  refine ev_x (i := .dup) (len := 1) (p' := 31) (s' := [.ref 84, .ref 84, .ref 79]) rfl rfl rfl ?_
  refine ev_callI (d := d + 1) (As := []) (a := 84) rfl rfl rfl rfl rfl rfl rfl rfl (ct_21 (d := d + 0) ) ?_
  refine ev_hp (hp1 (hA_cm rfl)) ?_
  refine ev_px (i := .putfield 21) (len := 3) (p' := 37) (s' := []) (o' := .inr (12, [.ref 80, .ref 82, .ref 84, .null, .null, .null, .int 0, .null, .null, .null, .null, .null, .int 0, .null, .null, .null, .null, .int 0, .int 0, .null, .null, .null, .null, .null, .null, .null, .null, .null, .null, .null])) rfl rfl rfl ?_
  refine ev_x (i := .aload_n 0) (len := 1) (p' := 38) (s' := [.ref 79]) rfl rfl rfl ?_
  refine ev_x (i := .new 9) (len := 3) (p' := 41) (s' := [.ref 86, .ref 79]) (μ' := (86, va_up (va_up (hA (hA (hA f cl_80) cl_82) cl_84) 79 (.inr (12, [.ref 80, .ref 82, .ref 84, .null, .null, .null, .int 0, .null, .null, .null, .null, .null, .int 0, .null, .null, .null, .null, .int 0, .int 0, .null, .null, .null, .null, .null, .null, .null, .null, .null, .null, .null]))) 86 (.inr (11, [.null, .int 0])), nc + 1 + 1 + 1 + 1 + 1 + 1 + 1, ns + 2 + 16 + 2 + 16 + 2 + 16 + 2)) rfl rfl rfl ?_
  refine ev_x (i := .dup) (len := 1) (p' := 42) (s' := [.ref 86, .ref 86, .ref 79]) rfl rfl rfl ?_
  refine ev_callI (d := d + 1) (As := []) (a := 86) rfl rfl rfl rfl rfl rfl rfl rfl (ct_22 (d := d + 0) ) ?_
  refine ev_hp (hp1 (hA_cm rfl)) ?_
  refine ev_px (i := .putfield 24) (len := 3) (p' := 48) (s' := []) (o' := .inr (12, [.ref 80, .ref 82, .ref 84, .ref 86, .null, .null, .int 0, .null, .null, .null, .null, .null, .int 0, .null, .null, .null, .null, .int 0, .int 0, .null, .null, .null, .null, .null, .null, .null, .null, .null, .null, .null])) rfl rfl rfl ?_
  refine ev_x (i := .aload_n 0) (len := 1) (p' := 49) (s' := [.ref 79]) rfl rfl rfl ?_
  refine ev_x (i := .new 9) (len := 3) (p' := 52) (s' := [.ref 88, .ref 79]) (μ' := (88, va_up (va_up (hA (hA (hA (hA f cl_80) cl_82) cl_84) cl_86) 79 (.inr (12, [.ref 80, .ref 82, .ref 84, .ref 86, .null, .null, .int 0, .null, .null, .null, .null, .null, .int 0, .null, .null, .null, .null, .int 0, .int 0, .null, .null, .null, .null, .null, .null, .null, .null, .null, .null, .null]))) 88 (.inr (11, [.null, .int 0])), nc + 1 + 1 + 1 + 1 + 1 + 1 + 1 + 1 + 1, ns + 2 + 16 + 2 + 16 + 2 + 16 + 2 + 16 + 2)) rfl rfl rfl ?_
  refine ev_x (i := .dup) (len := 1) (p' := 53) (s' := [.ref 88, .ref 88, .ref 79]) rfl rfl rfl ?_
  refine ev_callI (d := d + 1) (As := []) (a := 88) rfl rfl rfl rfl rfl rfl rfl rfl (ct_23 (d := d + 0) ) ?_
  refine ev_hp (hp1 (hA_cm rfl)) ?_
  refine ev_px (i := .putfield 27) (len := 3) (p' := 59) (s' := []) (o' := .inr (12, [.ref 80, .ref 82, .ref 84, .ref 86, .ref 88, .null, .int 0, .null, .null, .null, .null, .null, .int 0, .null, .null, .null, .null, .int 0, .int 0, .null, .null, .null, .null, .null, .null, .null, .null, .null, .null, .null])) rfl rfl rfl ?_
  refine ev_x (i := .aload_n 0) (len := 1) (p' := 60) (s' := [.ref 79]) rfl rfl rfl ?_
  refine ev_x (i := .new 9) (len := 3) (p' := 63) (s' := [.ref 90, .ref 79]) (μ' := (90, va_up (va_up (hA (hA (hA (hA (hA f cl_80) cl_82) cl_84) cl_86) cl_88) 79 (.inr (12, [.ref 80, .ref 82, .ref 84, .ref 86, .ref 88, .null, .int 0, .null, .null, .null, .null, .null, .int 0, .null, .null, .null, .null, .int 0, .int 0, .null, .null, .null, .null, .null, .null, .null, .null, .null, .null, .null]))) 90 (.inr (11, [.null, .int 0])), nc + 1 + 1 + 1 + 1 + 1 + 1 + 1 + 1 + 1 + 1 + 1, ns + 2 + 16 + 2 + 16 + 2 + 16 + 2 + 16 + 2 + 16 + 2)) rfl rfl rfl ?_
  refine ev_x (i := .dup) (len := 1) (p' := 64) (s' := [.ref 90, .ref 90, .ref 79]) rfl rfl rfl ?_
  refine ev_callI (d := d + 1) (As := []) (a := 90) rfl rfl rfl rfl rfl rfl rfl rfl (ct_24 (d := d + 0) ) ?_
  refine ev_hp (hp1 (hA_cm rfl)) ?_
  refine ev_px (i := .putfield 30) (len := 3) (p' := 70) (s' := []) (o' := .inr (12, [.ref 80, .ref 82, .ref 84, .ref 86, .ref 88, .ref 90, .int 0, .null, .null, .null, .null, .null, .int 0, .null, .null, .null, .null, .int 0, .int 0, .null, .null, .null, .null, .null, .null, .null, .null, .null, .null, .null])) rfl rfl rfl ?_
  refine ev_x (i := .aload_n 0) (len := 1) (p' := 71) (s' := [.ref 79]) rfl rfl rfl ?_
  refine ev_x (i := .bipush 60) (len := 2) (p' := 73) (s' := [.int 60, .ref 79]) rfl rfl rfl ?_
  refine ev_nx (i := .newarray .boolean) (len := 2) (p' := 75) (s' := [.ref 92, .ref 79]) (n' := 92) (k := 92) (x := .inl (2, 60, .inl fun _ => 0)) (A' := nc + 1 + 1 + 1 + 1 + 1 + 1 + 1 + 1 + 1 + 1 + 1 + 1 + 1) (B' := ns + 2 + 16 + 2 + 16 + 2 + 16 + 2 + 16 + 2 + 16 + 2 + 16 + 60) rfl rfl rfl (by decide) ?_
  refine ev_px (i := .putfield 33) (len := 3) (p' := 78) (s' := []) (o' := .inr (12, [.ref 80, .ref 82, .ref 84, .ref 86, .ref 88, .ref 90, .int 0, .ref 92, .null, .null, .null, .null, .int 0, .null, .null, .null, .null, .int 0, .int 0, .null, .null, .null, .null, .null, .null, .null, .null, .null, .null, .null])) rfl rfl rfl ?_
  refine ev_x (i := .aload_n 0) (len := 1) (p' := 79) (s' := [.ref 79]) rfl rfl rfl ?_
  refine ev_x (i := .bipush 60) (len := 2) (p' := 81) (s' := [.int 60, .ref 79]) rfl rfl rfl ?_
  refine ev_nx (i := .newarray .boolean) (len := 2) (p' := 83) (s' := [.ref 93, .ref 79]) (n' := 93) (k := 93) (x := .inl (2, 60, .inl fun _ => 0)) (A' := nc + 1 + 1 + 1 + 1 + 1 + 1 + 1 + 1 + 1 + 1 + 1 + 1 + 1 + 1) (B' := ns + 2 + 16 + 2 + 16 + 2 + 16 + 2 + 16 + 2 + 16 + 2 + 16 + 60 + 60) rfl rfl rfl (by decide) ?_
  refine ev_px (i := .putfield 37) (len := 3) (p' := 86) (s' := []) (o' := .inr (12, [.ref 80, .ref 82, .ref 84, .ref 86, .ref 88, .ref 90, .int 0, .ref 92, .ref 93, .null, .null, .null, .int 0, .null, .null, .null, .null, .int 0, .int 0, .null, .null, .null, .null, .null, .null, .null, .null, .null, .null, .null])) rfl rfl rfl ?_
  refine ev_x (i := .aload_n 0) (len := 1) (p' := 87) (s' := [.ref 79]) rfl rfl rfl ?_
  refine ev_x (i := .bipush 60) (len := 2) (p' := 89) (s' := [.int 60, .ref 79]) rfl rfl rfl ?_
  refine ev_nx (i := .newarray .int) (len := 2) (p' := 91) (s' := [.ref 94, .ref 79]) (n' := 94) (k := 94) (x := .inl (0, 60, .inl fun _ => 0)) (A' := nc + 1 + 1 + 1 + 1 + 1 + 1 + 1 + 1 + 1 + 1 + 1 + 1 + 1 + 1 + 1) (B' := ns + 2 + 16 + 2 + 16 + 2 + 16 + 2 + 16 + 2 + 16 + 2 + 16 + 60 + 60 + 60) rfl rfl rfl (by decide) ?_
  refine ev_px (i := .putfield 40) (len := 3) (p' := 94) (s' := []) (o' := .inr (12, [.ref 80, .ref 82, .ref 84, .ref 86, .ref 88, .ref 90, .int 0, .ref 92, .ref 93, .ref 94, .null, .null, .int 0, .null, .null, .null, .null, .int 0, .int 0, .null, .null, .null, .null, .null, .null, .null, .null, .null, .null, .null])) rfl rfl rfl ?_
  refine ev_x (i := .aload_n 0) (len := 1) (p' := 95) (s' := [.ref 79]) rfl rfl rfl ?_
  refine ev_x (i := .bipush 60) (len := 2) (p' := 97) (s' := [.int 60, .ref 79]) rfl rfl rfl ?_
  refine ev_nx (i := .newarray .long) (len := 2) (p' := 99) (s' := [.ref 95, .ref 79]) (n' := 95) (k := 95) (x := .inl (1, 60, .inr (.inl fun _ => 0))) (A' := nc + 1 + 1 + 1 + 1 + 1 + 1 + 1 + 1 + 1 + 1 + 1 + 1 + 1 + 1 + 1 + 1) (B' := ns + 2 + 16 + 2 + 16 + 2 + 16 + 2 + 16 + 2 + 16 + 2 + 16 + 60 + 60 + 60 + 60) rfl rfl rfl (by decide) ?_
  refine ev_px (i := .putfield 44) (len := 3) (p' := 102) (s' := []) (o' := .inr (12, [.ref 80, .ref 82, .ref 84, .ref 86, .ref 88, .ref 90, .int 0, .ref 92, .ref 93, .ref 94, .ref 95, .null, .int 0, .null, .null, .null, .null, .int 0, .int 0, .null, .null, .null, .null, .null, .null, .null, .null, .null, .null, .null])) rfl rfl rfl ?_
  refine ev_x (i := .aload_n 0) (len := 1) (p' := 103) (s' := [.ref 79]) rfl rfl rfl ?_
  refine ev_x (i := .bipush 60) (len := 2) (p' := 105) (s' := [.int 60, .ref 79]) rfl rfl rfl ?_
  refine ev_nx (i := .newarray .long) (len := 2) (p' := 107) (s' := [.ref 96, .ref 79]) (n' := 96) (k := 96) (x := .inl (1, 60, .inr (.inl fun _ => 0))) (A' := nc + 1 + 1 + 1 + 1 + 1 + 1 + 1 + 1 + 1 + 1 + 1 + 1 + 1 + 1 + 1 + 1 + 1) (B' := ns + 2 + 16 + 2 + 16 + 2 + 16 + 2 + 16 + 2 + 16 + 2 + 16 + 60 + 60 + 60 + 60 + 60) rfl rfl rfl (by decide) ?_
  refine ev_px (i := .putfield 48) (len := 3) (p' := 110) (s' := []) (o' := .inr (12, [.ref 80, .ref 82, .ref 84, .ref 86, .ref 88, .ref 90, .int 0, .ref 92, .ref 93, .ref 94, .ref 95, .ref 96, .int 0, .null, .null, .null, .null, .int 0, .int 0, .null, .null, .null, .null, .null, .null, .null, .null, .null, .null, .null])) rfl rfl rfl ?_
  refine ev_x (i := .aload_n 0) (len := 1) (p' := 111) (s' := [.ref 79]) rfl rfl rfl ?_
  refine ev_x (i := .bipush 12) (len := 2) (p' := 113) (s' := [.int 12, .ref 79]) rfl rfl rfl ?_
  refine ev_nx (i := .newarray .boolean) (len := 2) (p' := 115) (s' := [.ref 97, .ref 79]) (n' := 97) (k := 97) (x := .inl (2, 12, .inl fun _ => 0)) (A' := nc + 1 + 1 + 1 + 1 + 1 + 1 + 1 + 1 + 1 + 1 + 1 + 1 + 1 + 1 + 1 + 1 + 1 + 1) (B' := ns + 2 + 16 + 2 + 16 + 2 + 16 + 2 + 16 + 2 + 16 + 2 + 16 + 60 + 60 + 60 + 60 + 60 + 12) rfl rfl rfl (by decide) ?_
  refine ev_px (i := .putfield 51) (len := 3) (p' := 118) (s' := []) (o' := .inr (12, [.ref 80, .ref 82, .ref 84, .ref 86, .ref 88, .ref 90, .int 0, .ref 92, .ref 93, .ref 94, .ref 95, .ref 96, .int 0, .ref 97, .null, .null, .null, .int 0, .int 0, .null, .null, .null, .null, .null, .null, .null, .null, .null, .null, .null])) rfl rfl rfl ?_
  refine ev_x (i := .aload_n 0) (len := 1) (p' := 119) (s' := [.ref 79]) rfl rfl rfl ?_
  refine ev_x (i := .bipush 12) (len := 2) (p' := 121) (s' := [.int 12, .ref 79]) rfl rfl rfl ?_
  refine ev_nx (i := .newarray .int) (len := 2) (p' := 123) (s' := [.ref 98, .ref 79]) (n' := 98) (k := 98) (x := .inl (0, 12, .inl fun _ => 0)) (A' := nc + 1 + 1 + 1 + 1 + 1 + 1 + 1 + 1 + 1 + 1 + 1 + 1 + 1 + 1 + 1 + 1 + 1 + 1 + 1) (B' := ns + 2 + 16 + 2 + 16 + 2 + 16 + 2 + 16 + 2 + 16 + 2 + 16 + 60 + 60 + 60 + 60 + 60 + 12 + 12) rfl rfl rfl (by decide) ?_
  refine ev_px (i := .putfield 54) (len := 3) (p' := 126) (s' := []) (o' := .inr (12, [.ref 80, .ref 82, .ref 84, .ref 86, .ref 88, .ref 90, .int 0, .ref 92, .ref 93, .ref 94, .ref 95, .ref 96, .int 0, .ref 97, .ref 98, .null, .null, .int 0, .int 0, .null, .null, .null, .null, .null, .null, .null, .null, .null, .null, .null])) rfl rfl rfl ?_
  refine ev_x (i := .aload_n 0) (len := 1) (p' := 127) (s' := [.ref 79]) rfl rfl rfl ?_
  refine ev_x (i := .bipush 12) (len := 2) (p' := 129) (s' := [.int 12, .ref 79]) rfl rfl rfl ?_
  refine ev_nx (i := .newarray .int) (len := 2) (p' := 131) (s' := [.ref 99, .ref 79]) (n' := 99) (k := 99) (x := .inl (0, 12, .inl fun _ => 0)) (A' := nc + 1 + 1 + 1 + 1 + 1 + 1 + 1 + 1 + 1 + 1 + 1 + 1 + 1 + 1 + 1 + 1 + 1 + 1 + 1 + 1) (B' := ns + 2 + 16 + 2 + 16 + 2 + 16 + 2 + 16 + 2 + 16 + 2 + 16 + 60 + 60 + 60 + 60 + 60 + 12 + 12 + 12) rfl rfl rfl (by decide) ?_
  refine ev_px (i := .putfield 57) (len := 3) (p' := 134) (s' := []) (o' := .inr (12, [.ref 80, .ref 82, .ref 84, .ref 86, .ref 88, .ref 90, .int 0, .ref 92, .ref 93, .ref 94, .ref 95, .ref 96, .int 0, .ref 97, .ref 98, .ref 99, .null, .int 0, .int 0, .null, .null, .null, .null, .null, .null, .null, .null, .null, .null, .null])) rfl rfl rfl ?_
  refine ev_x (i := .aload_n 0) (len := 1) (p' := 135) (s' := [.ref 79]) rfl rfl rfl ?_
  refine ev_x (i := .bipush 12) (len := 2) (p' := 137) (s' := [.int 12, .ref 79]) rfl rfl rfl ?_
  refine ev_nx (i := .newarray .int) (len := 2) (p' := 139) (s' := [.ref 100, .ref 79]) (n' := 100) (k := 100) (x := .inl (0, 12, .inl fun _ => 0)) (A' := nc + 1 + 1 + 1 + 1 + 1 + 1 + 1 + 1 + 1 + 1 + 1 + 1 + 1 + 1 + 1 + 1 + 1 + 1 + 1 + 1 + 1) (B' := ns + 2 + 16 + 2 + 16 + 2 + 16 + 2 + 16 + 2 + 16 + 2 + 16 + 60 + 60 + 60 + 60 + 60 + 12 + 12 + 12 + 12) rfl rfl rfl (by decide) ?_
  refine ev_px (i := .putfield 60) (len := 3) (p' := 142) (s' := []) (o' := .inr (12, [.ref 80, .ref 82, .ref 84, .ref 86, .ref 88, .ref 90, .int 0, .ref 92, .ref 93, .ref 94, .ref 95, .ref 96, .int 0, .ref 97, .ref 98, .ref 99, .ref 100, .int 0, .int 0, .null, .null, .null, .null, .null, .null, .null, .null, .null, .null, .null])) rfl rfl rfl ?_
  refine ev_x (i := .aload_n 0) (len := 1) (p' := 143) (s' := [.ref 79]) rfl rfl rfl ?_
  refine ev_x (i := .bipush 60) (len := 2) (p' := 145) (s' := [.int 60, .ref 79]) rfl rfl rfl ?_
  refine ev_nx (i := .newarray .boolean) (len := 2) (p' := 147) (s' := [.ref 101, .ref 79]) (n' := 101) (k := 101) (x := .inl (2, 60, .inl fun _ => 0)) (A' := nc + 1 + 1 + 1 + 1 + 1 + 1 + 1 + 1 + 1 + 1 + 1 + 1 + 1 + 1 + 1 + 1 + 1 + 1 + 1 + 1 + 1 + 1) (B' := ns + 2 + 16 + 2 + 16 + 2 + 16 + 2 + 16 + 2 + 16 + 2 + 16 + 60 + 60 + 60 + 60 + 60 + 12 + 12 + 12 + 12 + 60) rfl rfl rfl (by decide) ?_
  refine ev_px (i := .putfield 63) (len := 3) (p' := 150) (s' := []) (o' := .inr (12, [.ref 80, .ref 82, .ref 84, .ref 86, .ref 88, .ref 90, .int 0, .ref 92, .ref 93, .ref 94, .ref 95, .ref 96, .int 0, .ref 97, .ref 98, .ref 99, .ref 100, .int 0, .int 0, .ref 101, .null, .null, .null, .null, .null, .null, .null, .null, .null, .null])) rfl rfl rfl ?_
  refine ev_x (i := .aload_n 0) (len := 1) (p' := 151) (s' := [.ref 79]) rfl rfl rfl ?_
  refine ev_x (i := .bipush 60) (len := 2) (p' := 153) (s' := [.int 60, .ref 79]) rfl rfl rfl ?_
  refine ev_nx (i := .newarray .int) (len := 2) (p' := 155) (s' := [.ref 102, .ref 79]) (n' := 102) (k := 102) (x := .inl (0, 60, .inl fun _ => 0)) (A' := nc + 1 + 1 + 1 + 1 + 1 + 1 + 1 + 1 + 1 + 1 + 1 + 1 + 1 + 1 + 1 + 1 + 1 + 1 + 1 + 1 + 1 + 1 + 1) (B' := ns + 2 + 16 + 2 + 16 + 2 + 16 + 2 + 16 + 2 + 16 + 2 + 16 + 60 + 60 + 60 + 60 + 60 + 12 + 12 + 12 + 12 + 60 + 60) rfl rfl rfl (by decide) ?_
  refine ev_px (i := .putfield 66) (len := 3) (p' := 158) (s' := []) (o' := .inr (12, [.ref 80, .ref 82, .ref 84, .ref 86, .ref 88, .ref 90, .int 0, .ref 92, .ref 93, .ref 94, .ref 95, .ref 96, .int 0, .ref 97, .ref 98, .ref 99, .ref 100, .int 0, .int 0, .ref 101, .ref 102, .null, .null, .null, .null, .null, .null, .null, .null, .null])) rfl rfl rfl ?_
  refine ev_x (i := .aload_n 0) (len := 1) (p' := 159) (s' := [.ref 79]) rfl rfl rfl ?_
  refine ev_x (i := .bipush 60) (len := 2) (p' := 161) (s' := [.int 60, .ref 79]) rfl rfl rfl ?_
  refine ev_nx (i := .newarray .int) (len := 2) (p' := 163) (s' := [.ref 103, .ref 79]) (n' := 103) (k := 103) (x := .inl (0, 60, .inl fun _ => 0)) (A' := nc + 1 + 1 + 1 + 1 + 1 + 1 + 1 + 1 + 1 + 1 + 1 + 1 + 1 + 1 + 1 + 1 + 1 + 1 + 1 + 1 + 1 + 1 + 1 + 1) (B' := ns + 2 + 16 + 2 + 16 + 2 + 16 + 2 + 16 + 2 + 16 + 2 + 16 + 60 + 60 + 60 + 60 + 60 + 12 + 12 + 12 + 12 + 60 + 60 + 60) rfl rfl rfl (by decide) ?_
  refine ev_px (i := .putfield 69) (len := 3) (p' := 166) (s' := []) (o' := .inr (12, [.ref 80, .ref 82, .ref 84, .ref 86, .ref 88, .ref 90, .int 0, .ref 92, .ref 93, .ref 94, .ref 95, .ref 96, .int 0, .ref 97, .ref 98, .ref 99, .ref 100, .int 0, .int 0, .ref 101, .ref 102, .ref 103, .null, .null, .null, .null, .null, .null, .null, .null])) rfl rfl rfl ?_
  refine ev_x (i := .aload_n 0) (len := 1) (p' := 167) (s' := [.ref 79]) rfl rfl rfl ?_
  refine ev_x (i := .bipush 60) (len := 2) (p' := 169) (s' := [.int 60, .ref 79]) rfl rfl rfl ?_
  refine ev_nx (i := .newarray .int) (len := 2) (p' := 171) (s' := [.ref 104, .ref 79]) (n' := 104) (k := 104) (x := .inl (0, 60, .inl fun _ => 0)) (A' := nc + 1 + 1 + 1 + 1 + 1 + 1 + 1 + 1 + 1 + 1 + 1 + 1 + 1 + 1 + 1 + 1 + 1 + 1 + 1 + 1 + 1 + 1 + 1 + 1 + 1) (B' := ns + 2 + 16 + 2 + 16 + 2 + 16 + 2 + 16 + 2 + 16 + 2 + 16 + 60 + 60 + 60 + 60 + 60 + 12 + 12 + 12 + 12 + 60 + 60 + 60 + 60) rfl rfl rfl (by decide) ?_
  refine ev_px (i := .putfield 72) (len := 3) (p' := 174) (s' := []) (o' := .inr (12, [.ref 80, .ref 82, .ref 84, .ref 86, .ref 88, .ref 90, .int 0, .ref 92, .ref 93, .ref 94, .ref 95, .ref 96, .int 0, .ref 97, .ref 98, .ref 99, .ref 100, .int 0, .int 0, .ref 101, .ref 102, .ref 103, .ref 104, .null, .null, .null, .null, .null, .null, .null])) rfl rfl rfl ?_
  refine ev_x (i := .aload_n 0) (len := 1) (p' := 175) (s' := [.ref 79]) rfl rfl rfl ?_
  refine ev_x (i := .sipush 480) (len := 3) (p' := 178) (s' := [.int 480, .ref 79]) rfl rfl rfl ?_
  refine ev_nx (i := .newarray .int) (len := 2) (p' := 180) (s' := [.ref 105, .ref 79]) (n' := 105) (k := 105) (x := .inl (0, 480, .inl fun _ => 0)) (A' := nc + 1 + 1 + 1 + 1 + 1 + 1 + 1 + 1 + 1 + 1 + 1 + 1 + 1 + 1 + 1 + 1 + 1 + 1 + 1 + 1 + 1 + 1 + 1 + 1 + 1 + 1) (B' := ns + 2 + 16 + 2 + 16 + 2 + 16 + 2 + 16 + 2 + 16 + 2 + 16 + 60 + 60 + 60 + 60 + 60 + 12 + 12 + 12 + 12 + 60 + 60 + 60 + 60 + 480) rfl rfl rfl (by decide) ?_
  refine ev_px (i := .putfield 75) (len := 3) (p' := 183) (s' := []) (o' := .inr (12, [.ref 80, .ref 82, .ref 84, .ref 86, .ref 88, .ref 90, .int 0, .ref 92, .ref 93, .ref 94, .ref 95, .ref 96, .int 0, .ref 97, .ref 98, .ref 99, .ref 100, .int 0, .int 0, .ref 101, .ref 102, .ref 103, .ref 104, .ref 105, .null, .null, .null, .null, .null, .null])) rfl rfl rfl ?_
  refine ev_x (i := .aload_n 0) (len := 1) (p' := 184) (s' := [.ref 79]) rfl rfl rfl ?_
  refine ev_x (i := .sipush 480) (len := 3) (p' := 187) (s' := [.int 480, .ref 79]) rfl rfl rfl ?_
  refine ev_nx (i := .newarray .int) (len := 2) (p' := 189) (s' := [.ref 106, .ref 79]) (n' := 106) (k := 106) (x := .inl (0, 480, .inl fun _ => 0)) (A' := nc + 1 + 1 + 1 + 1 + 1 + 1 + 1 + 1 + 1 + 1 + 1 + 1 + 1 + 1 + 1 + 1 + 1 + 1 + 1 + 1 + 1 + 1 + 1 + 1 + 1 + 1 + 1) (B' := ns + 2 + 16 + 2 + 16 + 2 + 16 + 2 + 16 + 2 + 16 + 2 + 16 + 60 + 60 + 60 + 60 + 60 + 12 + 12 + 12 + 12 + 60 + 60 + 60 + 60 + 480 + 480) rfl rfl rfl (by decide) ?_
  refine ev_px (i := .putfield 78) (len := 3) (p' := 192) (s' := []) (o' := .inr (12, [.ref 80, .ref 82, .ref 84, .ref 86, .ref 88, .ref 90, .int 0, .ref 92, .ref 93, .ref 94, .ref 95, .ref 96, .int 0, .ref 97, .ref 98, .ref 99, .ref 100, .int 0, .int 0, .ref 101, .ref 102, .ref 103, .ref 104, .ref 105, .ref 106, .null, .null, .null, .null, .null])) rfl rfl rfl ?_
  refine ev_x (i := .aload_n 0) (len := 1) (p' := 193) (s' := [.ref 79]) rfl rfl rfl ?_
  refine ev_x (i := .sipush 480) (len := 3) (p' := 196) (s' := [.int 480, .ref 79]) rfl rfl rfl ?_
  refine ev_nx (i := .newarray .int) (len := 2) (p' := 198) (s' := [.ref 107, .ref 79]) (n' := 107) (k := 107) (x := .inl (0, 480, .inl fun _ => 0)) (A' := nc + 1 + 1 + 1 + 1 + 1 + 1 + 1 + 1 + 1 + 1 + 1 + 1 + 1 + 1 + 1 + 1 + 1 + 1 + 1 + 1 + 1 + 1 + 1 + 1 + 1 + 1 + 1 + 1) (B' := ns + 2 + 16 + 2 + 16 + 2 + 16 + 2 + 16 + 2 + 16 + 2 + 16 + 60 + 60 + 60 + 60 + 60 + 12 + 12 + 12 + 12 + 60 + 60 + 60 + 60 + 480 + 480 + 480) rfl rfl rfl (by decide) ?_
  refine ev_px (i := .putfield 81) (len := 3) (p' := 201) (s' := []) (o' := .inr (12, [.ref 80, .ref 82, .ref 84, .ref 86, .ref 88, .ref 90, .int 0, .ref 92, .ref 93, .ref 94, .ref 95, .ref 96, .int 0, .ref 97, .ref 98, .ref 99, .ref 100, .int 0, .int 0, .ref 101, .ref 102, .ref 103, .ref 104, .ref 105, .ref 106, .ref 107, .null, .null, .null, .null])) rfl rfl rfl ?_
  refine ev_x (i := .aload_n 0) (len := 1) (p' := 202) (s' := [.ref 79]) rfl rfl rfl ?_
  refine ev_x (i := .sipush 480) (len := 3) (p' := 205) (s' := [.int 480, .ref 79]) rfl rfl rfl ?_
  refine ev_nx (i := .newarray .int) (len := 2) (p' := 207) (s' := [.ref 108, .ref 79]) (n' := 108) (k := 108) (x := .inl (0, 480, .inl fun _ => 0)) (A' := nc + 1 + 1 + 1 + 1 + 1 + 1 + 1 + 1 + 1 + 1 + 1 + 1 + 1 + 1 + 1 + 1 + 1 + 1 + 1 + 1 + 1 + 1 + 1 + 1 + 1 + 1 + 1 + 1 + 1) (B' := ns + 2 + 16 + 2 + 16 + 2 + 16 + 2 + 16 + 2 + 16 + 2 + 16 + 60 + 60 + 60 + 60 + 60 + 12 + 12 + 12 + 12 + 60 + 60 + 60 + 60 + 480 + 480 + 480 + 480) rfl rfl rfl (by decide) ?_
  refine ev_px (i := .putfield 84) (len := 3) (p' := 210) (s' := []) (o' := .inr (12, [.ref 80, .ref 82, .ref 84, .ref 86, .ref 88, .ref 90, .int 0, .ref 92, .ref 93, .ref 94, .ref 95, .ref 96, .int 0, .ref 97, .ref 98, .ref 99, .ref 100, .int 0, .int 0, .ref 101, .ref 102, .ref 103, .ref 104, .ref 105, .ref 106, .ref 107, .ref 108, .null, .null, .null])) rfl rfl rfl ?_
  refine ev_x (i := .aload_n 0) (len := 1) (p' := 211) (s' := [.ref 79]) rfl rfl rfl ?_
  refine ev_x (i := .new 9) (len := 3) (p' := 214) (s' := [.ref 109, .ref 79]) (μ' := (109, va_up (va_up (va_up (va_up (va_up (va_up (va_up (va_up (va_up (va_up (va_up (va_up (va_up (va_up (va_up (va_up (va_up (va_up (va_up (hA (hA (hA (hA (hA (hA f cl_80) cl_82) cl_84) cl_86) cl_88) cl_90) 92 (.inl (2, 60, .inl fun _ => 0))) 93 (.inl (2, 60, .inl fun _ => 0))) 94 (.inl (0, 60, .inl fun _ => 0))) 95 (.inl (1, 60, .inr (.inl fun _ => 0)))) 96 (.inl (1, 60, .inr (.inl fun _ => 0)))) 97 (.inl (2, 12, .inl fun _ => 0))) 98 (.inl (0, 12, .inl fun _ => 0))) 99 (.inl (0, 12, .inl fun _ => 0))) 100 (.inl (0, 12, .inl fun _ => 0))) 101 (.inl (2, 60, .inl fun _ => 0))) 102 (.inl (0, 60, .inl fun _ => 0))) 103 (.inl (0, 60, .inl fun _ => 0))) 104 (.inl (0, 60, .inl fun _ => 0))) 105 (.inl (0, 480, .inl fun _ => 0))) 106 (.inl (0, 480, .inl fun _ => 0))) 107 (.inl (0, 480, .inl fun _ => 0))) 108 (.inl (0, 480, .inl fun _ => 0))) 79 (.inr (12, [.ref 80, .ref 82, .ref 84, .ref 86, .ref 88, .ref 90, .int 0, .ref 92, .ref 93, .ref 94, .ref 95, .ref 96, .int 0, .ref 97, .ref 98, .ref 99, .ref 100, .int 0, .int 0, .ref 101, .ref 102, .ref 103, .ref 104, .ref 105, .ref 106, .ref 107, .ref 108, .null, .null, .null]))) 109 (.inr (11, [.null, .int 0])), nc + 1 + 1 + 1 + 1 + 1 + 1 + 1 + 1 + 1 + 1 + 1 + 1 + 1 + 1 + 1 + 1 + 1 + 1 + 1 + 1 + 1 + 1 + 1 + 1 + 1 + 1 + 1 + 1 + 1 + 1, ns + 2 + 16 + 2 + 16 + 2 + 16 + 2 + 16 + 2 + 16 + 2 + 16 + 60 + 60 + 60 + 60 + 60 + 12 + 12 + 12 + 12 + 60 + 60 + 60 + 60 + 480 + 480 + 480 + 480 + 2)) rfl rfl rfl ?_
  refine ev_x (i := .dup) (len := 1) (p' := 215) (s' := [.ref 109, .ref 109, .ref 79]) rfl rfl rfl ?_
  refine ev_callI (d := d + 1) (As := []) (a := 109) rfl rfl rfl rfl rfl rfl rfl rfl (ct_25 (d := d + 0) ) ?_
  refine ev_hp (hp1 (hA_cm rfl)) ?_
  refine ev_px (i := .putfield 87) (len := 3) (p' := 221) (s' := []) (o' := .inr (12, [.ref 80, .ref 82, .ref 84, .ref 86, .ref 88, .ref 90, .int 0, .ref 92, .ref 93, .ref 94, .ref 95, .ref 96, .int 0, .ref 97, .ref 98, .ref 99, .ref 100, .int 0, .int 0, .ref 101, .ref 102, .ref 103, .ref 104, .ref 105, .ref 106, .ref 107, .ref 108, .ref 109, .null, .null])) rfl rfl rfl ?_
  refine ev_x (i := .aload_n 0) (len := 1) (p' := 222) (s' := [.ref 79]) rfl rfl rfl ?_
  refine ev_x (i := .new 9) (len := 3) (p' := 225) (s' := [.ref 111, .ref 79]) (μ' := (111, va_up (va_up (hA (va_up (va_up (va_up (va_up (va_up (va_up (va_up (va_up (va_up (va_up (va_up (va_up (va_up (va_up (va_up (va_up (va_up (hA (hA (hA (hA (hA (hA f cl_80) cl_82) cl_84) cl_86) cl_88) cl_90) 92 (.inl (2, 60, .inl fun _ => 0))) 93 (.inl (2, 60, .inl fun _ => 0))) 94 (.inl (0, 60, .inl fun _ => 0))) 95 (.inl (1, 60, .inr (.inl fun _ => 0)))) 96 (.inl (1, 60, .inr (.inl fun _ => 0)))) 97 (.inl (2, 12, .inl fun _ => 0))) 98 (.inl (0, 12, .inl fun _ => 0))) 99 (.inl (0, 12, .inl fun _ => 0))) 100 (.inl (0, 12, .inl fun _ => 0))) 101 (.inl (2, 60, .inl fun _ => 0))) 102 (.inl (0, 60, .inl fun _ => 0))) 103 (.inl (0, 60, .inl fun _ => 0))) 104 (.inl (0, 60, .inl fun _ => 0))) 105 (.inl (0, 480, .inl fun _ => 0))) 106 (.inl (0, 480, .inl fun _ => 0))) 107 (.inl (0, 480, .inl fun _ => 0))) 108 (.inl (0, 480, .inl fun _ => 0))) cl_109) 79 (.inr (12, [.ref 80, .ref 82, .ref 84, .ref 86, .ref 88, .ref 90, .int 0, .ref 92, .ref 93, .ref 94, .ref 95, .ref 96, .int 0, .ref 97, .ref 98, .ref 99, .ref 100, .int 0, .int 0, .ref 101, .ref 102, .ref 103, .ref 104, .ref 105, .ref 106, .ref 107, .ref 108, .ref 109, .null, .null]))) 111 (.inr (11, [.null, .int 0])), nc + 1 + 1 + 1 + 1 + 1 + 1 + 1 + 1 + 1 + 1 + 1 + 1 + 1 + 1 + 1 + 1 + 1 + 1 + 1 + 1 + 1 + 1 + 1 + 1 + 1 + 1 + 1 + 1 + 1 + 1 + 1 + 1, ns + 2 + 16 + 2 + 16 + 2 + 16 + 2 + 16 + 2 + 16 + 2 + 16 + 60 + 60 + 60 + 60 + 60 + 12 + 12 + 12 + 12 + 60 + 60 + 60 + 60 + 480 + 480 + 480 + 480 + 2 + 16 + 2)) rfl rfl rfl ?_
  refine ev_x (i := .dup) (len := 1) (p' := 226) (s' := [.ref 111, .ref 111, .ref 79]) rfl rfl rfl ?_
  refine ev_callI (d := d + 1) (As := []) (a := 111) rfl rfl rfl rfl rfl rfl rfl rfl (ct_26 (d := d + 0) ) ?_
  refine ev_hp (hp1 (hA_cm rfl)) ?_
  refine ev_px (i := .putfield 90) (len := 3) (p' := 232) (s' := []) (o' := .inr (12, [.ref 80, .ref 82, .ref 84, .ref 86, .ref 88, .ref 90, .int 0, .ref 92, .ref 93, .ref 94, .ref 95, .ref 96, .int 0, .ref 97, .ref 98, .ref 99, .ref 100, .int 0, .int 0, .ref 101, .ref 102, .ref 103, .ref 104, .ref 105, .ref 106, .ref 107, .ref 108, .ref 109, .ref 111, .null])) rfl rfl rfl ?_
  refine ev_x (i := .aload_n 0) (len := 1) (p' := 233) (s' := [.ref 79]) rfl rfl rfl ?_
  refine ev_x (i := .new 9) (len := 3) (p' := 236) (s' := [.ref 113, .ref 79]) (μ' := (113, va_up (va_up (hA (hA (va_up (va_up (va_up (va_up (va_up (va_up (va_up (va_up (va_up (va_up (va_up (va_up (va_up (va_up (va_up (va_up (va_up (hA (hA (hA (hA (hA (hA f cl_80) cl_82) cl_84) cl_86) cl_88) cl_90) 92 (.inl (2, 60, .inl fun _ => 0))) 93 (.inl (2, 60, .inl fun _ => 0))) 94 (.inl (0, 60, .inl fun _ => 0))) 95 (.inl (1, 60, .inr (.inl fun _ => 0)))) 96 (.inl (1, 60, .inr (.inl fun _ => 0)))) 97 (.inl (2, 12, .inl fun _ => 0))) 98 (.inl (0, 12, .inl fun _ => 0))) 99 (.inl (0, 12, .inl fun _ => 0))) 100 (.inl (0, 12, .inl fun _ => 0))) 101 (.inl (2, 60, .inl fun _ => 0))) 102 (.inl (0, 60, .inl fun _ => 0))) 103 (.inl (0, 60, .inl fun _ => 0))) 104 (.inl (0, 60, .inl fun _ => 0))) 105 (.inl (0, 480, .inl fun _ => 0))) 106 (.inl (0, 480, .inl fun _ => 0))) 107 (.inl (0, 480, .inl fun _ => 0))) 108 (.inl (0, 480, .inl fun _ => 0))) cl_109) cl_111) 79 (.inr (12, [.ref 80, .ref 82, .ref 84, .ref 86, .ref 88, .ref 90, .int 0, .ref 92, .ref 93, .ref 94, .ref 95, .ref 96, .int 0, .ref 97, .ref 98, .ref 99, .ref 100, .int 0, .int 0, .ref 101, .ref 102, .ref 103, .ref 104, .ref 105, .ref 106, .ref 107, .ref 108, .ref 109, .ref 111, .null]))) 113 (.inr (11, [.null, .int 0])), nc + 1 + 1 + 1 + 1 + 1 + 1 + 1 + 1 + 1 + 1 + 1 + 1 + 1 + 1 + 1 + 1 + 1 + 1 + 1 + 1 + 1 + 1 + 1 + 1 + 1 + 1 + 1 + 1 + 1 + 1 + 1 + 1 + 1 + 1, ns + 2 + 16 + 2 + 16 + 2 + 16 + 2 + 16 + 2 + 16 + 2 + 16 + 60 + 60 + 60 + 60 + 60 + 12 + 12 + 12 + 12 + 60 + 60 + 60 + 60 + 480 + 480 + 480 + 480 + 2 + 16 + 2 + 16 + 2)) rfl rfl rfl ?_
  refine ev_x (i := .dup) (len := 1) (p' := 237) (s' := [.ref 113, .ref 113, .ref 79]) rfl rfl rfl ?_
  refine ev_callI (d := d + 1) (As := []) (a := 113) rfl rfl rfl rfl rfl rfl rfl rfl (ct_27 (d := d + 0) ) ?_
  refine ev_hp (hp1 (hA_cm rfl)) ?_
  refine ev_px (i := .putfield 93) (len := 3) (p' := 243) (s' := []) (o' := .inr (12, [.ref 80, .ref 82, .ref 84, .ref 86, .ref 88, .ref 90, .int 0, .ref 92, .ref 93, .ref 94, .ref 95, .ref 96, .int 0, .ref 97, .ref 98, .ref 99, .ref 100, .int 0, .int 0, .ref 101, .ref 102, .ref 103, .ref 104, .ref 105, .ref 106, .ref 107, .ref 108, .ref 109, .ref 111, .ref 113])) rfl rfl rfl ?_
  refine ev_hp (hp4 (F' := hA f cl_79) (A' := nc + 35) (B' := ns + 2670) (by unfold cl_79; simp only [hA_app, hA_1, hA_0]) (by omega) (by omega)) ?_
  exact ev_vret rfl rfl rfl
def cl_116 : List (Nat × va_E) := [(116, .inr (11, [.ref 117, .int 0]))] ++ [(117, .inl (0, 16, .inl fun _ => 0))]
set_option maxHeartbeats 4000000 in
set_option maxRecDepth 100000 in
/-- GameTextModel$Numbers.<init>()V, cell 116 -/
theorem ct_29 {d : Nat} {f : Nat → va_E} {nc ns : Nat}  : vz_ev P0 (d + 1) 128 0 (lv_args 0 [.ref 116]) [] (116, va_up f 116 (.inr (11, [.null, .int 0])), nc, ns) (.inl none, (117, hA f cl_116, nc + 1, ns + 16)) := by
  refine ev_x (i := .aload_n 0) (len := 1) (p' := 1) (s' := [.ref 116]) rfl rfl rfl ?_
  refine ev_obj (d := d + 0) rfl rfl rfl rfl ?_
  refine ev_x (i := .aload_n 0) (len := 1) (p' := 5) (s' := [.ref 116]) rfl rfl rfl ?_
  refine ev_x (i := .bipush 16) (len := 2) (p' := 7) (s' := [.int 16, .ref 116]) rfl rfl rfl ?_
  refine ev_nx (i := .newarray .int) (len := 2) (p' := 9) (s' := [.ref 117, .ref 116]) (n' := 117) (k := 117) (x := .inl (0, 16, .inl fun _ => 0)) (A' := nc + 1) (B' := ns + 16) rfl rfl rfl (by decide) ?_
  refine ev_px (i := .putfield 7) (len := 3) (p' := 12) (s' := []) (o' := .inr (11, [.ref 117, .int 0])) rfl rfl rfl ?_
  refine ev_hp (hp4 (F' := hA f cl_116) (A' := nc + 1) (B' := ns + 16) (by unfold cl_116; simp only [hA_app, hA_1, hA_0]) (by omega) (by omega)) ?_
  exact ev_vret rfl rfl rfl
def cl_118 : List (Nat × va_E) := [(118, .inr (11, [.ref 119, .int 0]))] ++ [(119, .inl (0, 16, .inl fun _ => 0))]
set_option maxHeartbeats 4000000 in
set_option maxRecDepth 100000 in
/-- GameTextModel$Numbers.<init>()V, cell 118 -/
theorem ct_30 {d : Nat} {f : Nat → va_E} {nc ns : Nat}  : vz_ev P0 (d + 1) 128 0 (lv_args 0 [.ref 118]) [] (118, va_up f 118 (.inr (11, [.null, .int 0])), nc, ns) (.inl none, (119, hA f cl_118, nc + 1, ns + 16)) := by
  refine ev_x (i := .aload_n 0) (len := 1) (p' := 1) (s' := [.ref 118]) rfl rfl rfl ?_
  refine ev_obj (d := d + 0) rfl rfl rfl rfl ?_
  refine ev_x (i := .aload_n 0) (len := 1) (p' := 5) (s' := [.ref 118]) rfl rfl rfl ?_
  refine ev_x (i := .bipush 16) (len := 2) (p' := 7) (s' := [.int 16, .ref 118]) rfl rfl rfl ?_
  refine ev_nx (i := .newarray .int) (len := 2) (p' := 9) (s' := [.ref 119, .ref 118]) (n' := 119) (k := 119) (x := .inl (0, 16, .inl fun _ => 0)) (A' := nc + 1) (B' := ns + 16) rfl rfl rfl (by decide) ?_
  refine ev_px (i := .putfield 7) (len := 3) (p' := 12) (s' := []) (o' := .inr (11, [.ref 119, .int 0])) rfl rfl rfl ?_
  refine ev_hp (hp4 (F' := hA f cl_118) (A' := nc + 1) (B' := ns + 16) (by unfold cl_118; simp only [hA_app, hA_1, hA_0]) (by omega) (by omega)) ?_
  exact ev_vret rfl rfl rfl
def cl_120 : List (Nat × va_E) := [(120, .inr (11, [.ref 121, .int 0]))] ++ [(121, .inl (0, 16, .inl fun _ => 0))]
set_option maxHeartbeats 4000000 in
set_option maxRecDepth 100000 in
/-- GameTextModel$Numbers.<init>()V, cell 120 -/
theorem ct_31 {d : Nat} {f : Nat → va_E} {nc ns : Nat}  : vz_ev P0 (d + 1) 128 0 (lv_args 0 [.ref 120]) [] (120, va_up f 120 (.inr (11, [.null, .int 0])), nc, ns) (.inl none, (121, hA f cl_120, nc + 1, ns + 16)) := by
  refine ev_x (i := .aload_n 0) (len := 1) (p' := 1) (s' := [.ref 120]) rfl rfl rfl ?_
  refine ev_obj (d := d + 0) rfl rfl rfl rfl ?_
  refine ev_x (i := .aload_n 0) (len := 1) (p' := 5) (s' := [.ref 120]) rfl rfl rfl ?_
  refine ev_x (i := .bipush 16) (len := 2) (p' := 7) (s' := [.int 16, .ref 120]) rfl rfl rfl ?_
  refine ev_nx (i := .newarray .int) (len := 2) (p' := 9) (s' := [.ref 121, .ref 120]) (n' := 121) (k := 121) (x := .inl (0, 16, .inl fun _ => 0)) (A' := nc + 1) (B' := ns + 16) rfl rfl rfl (by decide) ?_
  refine ev_px (i := .putfield 7) (len := 3) (p' := 12) (s' := []) (o' := .inr (11, [.ref 121, .int 0])) rfl rfl rfl ?_
  refine ev_hp (hp4 (F' := hA f cl_120) (A' := nc + 1) (B' := ns + 16) (by unfold cl_120; simp only [hA_app, hA_1, hA_0]) (by omega) (by omega)) ?_
  exact ev_vret rfl rfl rfl
def cl_122 : List (Nat × va_E) := [(122, .inr (11, [.ref 123, .int 0]))] ++ [(123, .inl (0, 16, .inl fun _ => 0))]
set_option maxHeartbeats 4000000 in
set_option maxRecDepth 100000 in
/-- GameTextModel$Numbers.<init>()V, cell 122 -/
theorem ct_32 {d : Nat} {f : Nat → va_E} {nc ns : Nat}  : vz_ev P0 (d + 1) 128 0 (lv_args 0 [.ref 122]) [] (122, va_up f 122 (.inr (11, [.null, .int 0])), nc, ns) (.inl none, (123, hA f cl_122, nc + 1, ns + 16)) := by
  refine ev_x (i := .aload_n 0) (len := 1) (p' := 1) (s' := [.ref 122]) rfl rfl rfl ?_
  refine ev_obj (d := d + 0) rfl rfl rfl rfl ?_
  refine ev_x (i := .aload_n 0) (len := 1) (p' := 5) (s' := [.ref 122]) rfl rfl rfl ?_
  refine ev_x (i := .bipush 16) (len := 2) (p' := 7) (s' := [.int 16, .ref 122]) rfl rfl rfl ?_
  refine ev_nx (i := .newarray .int) (len := 2) (p' := 9) (s' := [.ref 123, .ref 122]) (n' := 123) (k := 123) (x := .inl (0, 16, .inl fun _ => 0)) (A' := nc + 1) (B' := ns + 16) rfl rfl rfl (by decide) ?_
  refine ev_px (i := .putfield 7) (len := 3) (p' := 12) (s' := []) (o' := .inr (11, [.ref 123, .int 0])) rfl rfl rfl ?_
  refine ev_hp (hp4 (F' := hA f cl_122) (A' := nc + 1) (B' := ns + 16) (by unfold cl_122; simp only [hA_app, hA_1, hA_0]) (by omega) (by omega)) ?_
  exact ev_vret rfl rfl rfl
def cl_124 : List (Nat × va_E) := [(124, .inr (11, [.ref 125, .int 0]))] ++ [(125, .inl (0, 16, .inl fun _ => 0))]
set_option maxHeartbeats 4000000 in
set_option maxRecDepth 100000 in
/-- GameTextModel$Numbers.<init>()V, cell 124 -/
theorem ct_33 {d : Nat} {f : Nat → va_E} {nc ns : Nat}  : vz_ev P0 (d + 1) 128 0 (lv_args 0 [.ref 124]) [] (124, va_up f 124 (.inr (11, [.null, .int 0])), nc, ns) (.inl none, (125, hA f cl_124, nc + 1, ns + 16)) := by
  refine ev_x (i := .aload_n 0) (len := 1) (p' := 1) (s' := [.ref 124]) rfl rfl rfl ?_
  refine ev_obj (d := d + 0) rfl rfl rfl rfl ?_
  refine ev_x (i := .aload_n 0) (len := 1) (p' := 5) (s' := [.ref 124]) rfl rfl rfl ?_
  refine ev_x (i := .bipush 16) (len := 2) (p' := 7) (s' := [.int 16, .ref 124]) rfl rfl rfl ?_
  refine ev_nx (i := .newarray .int) (len := 2) (p' := 9) (s' := [.ref 125, .ref 124]) (n' := 125) (k := 125) (x := .inl (0, 16, .inl fun _ => 0)) (A' := nc + 1) (B' := ns + 16) rfl rfl rfl (by decide) ?_
  refine ev_px (i := .putfield 7) (len := 3) (p' := 12) (s' := []) (o' := .inr (11, [.ref 125, .int 0])) rfl rfl rfl ?_
  refine ev_hp (hp4 (F' := hA f cl_124) (A' := nc + 1) (B' := ns + 16) (by unfold cl_124; simp only [hA_app, hA_1, hA_0]) (by omega) (by omega)) ?_
  exact ev_vret rfl rfl rfl
def cl_126 : List (Nat × va_E) := [(126, .inr (11, [.ref 127, .int 0]))] ++ [(127, .inl (0, 16, .inl fun _ => 0))]
set_option maxHeartbeats 4000000 in
set_option maxRecDepth 100000 in
/-- GameTextModel$Numbers.<init>()V, cell 126 -/
theorem ct_34 {d : Nat} {f : Nat → va_E} {nc ns : Nat}  : vz_ev P0 (d + 1) 128 0 (lv_args 0 [.ref 126]) [] (126, va_up f 126 (.inr (11, [.null, .int 0])), nc, ns) (.inl none, (127, hA f cl_126, nc + 1, ns + 16)) := by
  refine ev_x (i := .aload_n 0) (len := 1) (p' := 1) (s' := [.ref 126]) rfl rfl rfl ?_
  refine ev_obj (d := d + 0) rfl rfl rfl rfl ?_
  refine ev_x (i := .aload_n 0) (len := 1) (p' := 5) (s' := [.ref 126]) rfl rfl rfl ?_
  refine ev_x (i := .bipush 16) (len := 2) (p' := 7) (s' := [.int 16, .ref 126]) rfl rfl rfl ?_
  refine ev_nx (i := .newarray .int) (len := 2) (p' := 9) (s' := [.ref 127, .ref 126]) (n' := 127) (k := 127) (x := .inl (0, 16, .inl fun _ => 0)) (A' := nc + 1) (B' := ns + 16) rfl rfl rfl (by decide) ?_
  refine ev_px (i := .putfield 7) (len := 3) (p' := 12) (s' := []) (o' := .inr (11, [.ref 127, .int 0])) rfl rfl rfl ?_
  refine ev_hp (hp4 (F' := hA f cl_126) (A' := nc + 1) (B' := ns + 16) (by unfold cl_126; simp only [hA_app, hA_1, hA_0]) (by omega) (by omega)) ?_
  exact ev_vret rfl rfl rfl
def cl_145 : List (Nat × va_E) := [(145, .inr (11, [.ref 146, .int 0]))] ++ [(146, .inl (0, 16, .inl fun _ => 0))]
set_option maxHeartbeats 4000000 in
set_option maxRecDepth 100000 in
/-- GameTextModel$Numbers.<init>()V, cell 145 -/
theorem ct_35 {d : Nat} {f : Nat → va_E} {nc ns : Nat}  : vz_ev P0 (d + 1) 128 0 (lv_args 0 [.ref 145]) [] (145, va_up f 145 (.inr (11, [.null, .int 0])), nc, ns) (.inl none, (146, hA f cl_145, nc + 1, ns + 16)) := by
  refine ev_x (i := .aload_n 0) (len := 1) (p' := 1) (s' := [.ref 145]) rfl rfl rfl ?_
  refine ev_obj (d := d + 0) rfl rfl rfl rfl ?_
  refine ev_x (i := .aload_n 0) (len := 1) (p' := 5) (s' := [.ref 145]) rfl rfl rfl ?_
  refine ev_x (i := .bipush 16) (len := 2) (p' := 7) (s' := [.int 16, .ref 145]) rfl rfl rfl ?_
  refine ev_nx (i := .newarray .int) (len := 2) (p' := 9) (s' := [.ref 146, .ref 145]) (n' := 146) (k := 146) (x := .inl (0, 16, .inl fun _ => 0)) (A' := nc + 1) (B' := ns + 16) rfl rfl rfl (by decide) ?_
  refine ev_px (i := .putfield 7) (len := 3) (p' := 12) (s' := []) (o' := .inr (11, [.ref 146, .int 0])) rfl rfl rfl ?_
  refine ev_hp (hp4 (F' := hA f cl_145) (A' := nc + 1) (B' := ns + 16) (by unfold cl_145; simp only [hA_app, hA_1, hA_0]) (by omega) (by omega)) ?_
  exact ev_vret rfl rfl rfl
def cl_147 : List (Nat × va_E) := [(147, .inr (11, [.ref 148, .int 0]))] ++ [(148, .inl (0, 16, .inl fun _ => 0))]
set_option maxHeartbeats 4000000 in
set_option maxRecDepth 100000 in
/-- GameTextModel$Numbers.<init>()V, cell 147 -/
theorem ct_36 {d : Nat} {f : Nat → va_E} {nc ns : Nat}  : vz_ev P0 (d + 1) 128 0 (lv_args 0 [.ref 147]) [] (147, va_up f 147 (.inr (11, [.null, .int 0])), nc, ns) (.inl none, (148, hA f cl_147, nc + 1, ns + 16)) := by
  refine ev_x (i := .aload_n 0) (len := 1) (p' := 1) (s' := [.ref 147]) rfl rfl rfl ?_
  refine ev_obj (d := d + 0) rfl rfl rfl rfl ?_
  refine ev_x (i := .aload_n 0) (len := 1) (p' := 5) (s' := [.ref 147]) rfl rfl rfl ?_
  refine ev_x (i := .bipush 16) (len := 2) (p' := 7) (s' := [.int 16, .ref 147]) rfl rfl rfl ?_
  refine ev_nx (i := .newarray .int) (len := 2) (p' := 9) (s' := [.ref 148, .ref 147]) (n' := 148) (k := 148) (x := .inl (0, 16, .inl fun _ => 0)) (A' := nc + 1) (B' := ns + 16) rfl rfl rfl (by decide) ?_
  refine ev_px (i := .putfield 7) (len := 3) (p' := 12) (s' := []) (o' := .inr (11, [.ref 148, .int 0])) rfl rfl rfl ?_
  refine ev_hp (hp4 (F' := hA f cl_147) (A' := nc + 1) (B' := ns + 16) (by unfold cl_147; simp only [hA_app, hA_1, hA_0]) (by omega) (by omega)) ?_
  exact ev_vret rfl rfl rfl
def cl_149 : List (Nat × va_E) := [(149, .inr (11, [.ref 150, .int 0]))] ++ [(150, .inl (0, 16, .inl fun _ => 0))]
set_option maxHeartbeats 4000000 in
set_option maxRecDepth 100000 in
/-- GameTextModel$Numbers.<init>()V, cell 149 -/
theorem ct_37 {d : Nat} {f : Nat → va_E} {nc ns : Nat}  : vz_ev P0 (d + 1) 128 0 (lv_args 0 [.ref 149]) [] (149, va_up f 149 (.inr (11, [.null, .int 0])), nc, ns) (.inl none, (150, hA f cl_149, nc + 1, ns + 16)) := by
  refine ev_x (i := .aload_n 0) (len := 1) (p' := 1) (s' := [.ref 149]) rfl rfl rfl ?_
  refine ev_obj (d := d + 0) rfl rfl rfl rfl ?_
  refine ev_x (i := .aload_n 0) (len := 1) (p' := 5) (s' := [.ref 149]) rfl rfl rfl ?_
  refine ev_x (i := .bipush 16) (len := 2) (p' := 7) (s' := [.int 16, .ref 149]) rfl rfl rfl ?_
  refine ev_nx (i := .newarray .int) (len := 2) (p' := 9) (s' := [.ref 150, .ref 149]) (n' := 150) (k := 150) (x := .inl (0, 16, .inl fun _ => 0)) (A' := nc + 1) (B' := ns + 16) rfl rfl rfl (by decide) ?_
  refine ev_px (i := .putfield 7) (len := 3) (p' := 12) (s' := []) (o' := .inr (11, [.ref 150, .int 0])) rfl rfl rfl ?_
  refine ev_hp (hp4 (F' := hA f cl_149) (A' := nc + 1) (B' := ns + 16) (by unfold cl_149; simp only [hA_app, hA_1, hA_0]) (by omega) (by omega)) ?_
  exact ev_vret rfl rfl rfl
def cl_115 : List (Nat × va_E) := [(115, .inr (12, [.ref 116, .ref 118, .ref 120, .ref 122, .ref 124, .ref 126, .int 0, .ref 128, .ref 129, .ref 130, .ref 131, .ref 132, .int 0, .ref 133, .ref 134, .ref 135, .ref 136, .int 0, .int 0, .ref 137, .ref 138, .ref 139, .ref 140, .ref 141, .ref 142, .ref 143, .ref 144, .ref 145, .ref 147, .ref 149]))] ++ cl_149 ++ cl_147 ++ cl_145 ++ [(144, .inl (0, 480, .inl fun _ => 0)), (143, .inl (0, 480, .inl fun _ => 0)), (142, .inl (0, 480, .inl fun _ => 0)), (141, .inl (0, 480, .inl fun _ => 0)), (140, .inl (0, 60, .inl fun _ => 0)), (139, .inl (0, 60, .inl fun _ => 0)), (138, .inl (0, 60, .inl fun _ => 0)), (137, .inl (2, 60, .inl fun _ => 0)), (136, .inl (0, 12, .inl fun _ => 0)), (135, .inl (0, 12, .inl fun _ => 0)), (134, .inl (0, 12, .inl fun _ => 0)), (133, .inl (2, 12, .inl fun _ => 0)), (132, .inl (1, 60, .inr (.inl fun _ => 0))), (131, .inl (1, 60, .inr (.inl fun _ => 0))), (130, .inl (0, 60, .inl fun _ => 0)), (129, .inl (2, 60, .inl fun _ => 0)), (128, .inl (2, 60, .inl fun _ => 0))] ++ cl_126 ++ cl_124 ++ cl_122 ++ cl_120 ++ cl_118 ++ cl_116
set_option maxHeartbeats 4000000 in
set_option maxRecDepth 100000 in
/-- GameTextModel$Game.<init>()V, cell 115 -/
theorem ct_38 {d : Nat} {f : Nat → va_E} {nc ns : Nat}  : vz_ev P0 (d + 2) 129 0 (lv_args 0 [.ref 115]) [] (115, va_up f 115 (.inr (12, [.null, .null, .null, .null, .null, .null, .int 0, .null, .null, .null, .null, .null, .int 0, .null, .null, .null, .null, .int 0, .int 0, .null, .null, .null, .null, .null, .null, .null, .null, .null, .null, .null])), nc, ns) (.inl none, (150, hA f cl_115, nc + 35, ns + 2670)) := by
  refine ev_x (i := .aload_n 0) (len := 1) (p' := 1) (s' := [.ref 115]) rfl rfl rfl ?_
  refine ev_obj (d := d + 1) rfl rfl rfl rfl ?_
  refine ev_x (i := .aload_n 0) (len := 1) (p' := 5) (s' := [.ref 115]) rfl rfl rfl ?_
  refine ev_x (i := .new 9) (len := 3) (p' := 8) (s' := [.ref 116, .ref 115]) (μ' := (116, va_up (va_up (f) 115 (.inr (12, [.null, .null, .null, .null, .null, .null, .int 0, .null, .null, .null, .null, .null, .int 0, .null, .null, .null, .null, .int 0, .int 0, .null, .null, .null, .null, .null, .null, .null, .null, .null, .null, .null]))) 116 (.inr (11, [.null, .int 0])), nc + 1, ns + 2)) rfl rfl rfl ?_
  refine ev_x (i := .dup) (len := 1) (p' := 9) (s' := [.ref 116, .ref 116, .ref 115]) rfl rfl rfl ?_
  refine ev_callI (d := d + 1) (As := []) (a := 116) rfl rfl rfl rfl rfl rfl rfl rfl (ct_29 (d := d + 0) ) ?_
  refine ev_hp (hp1 (hA_cm rfl)) ?_
  refine ev_px (i := .putfield 12) (len := 3) (p' := 15) (s' := []) (o' := .inr (12, [.ref 116, .null, .null, .null, .null, .null, .int 0, .null, .null, .null, .null, .null, .int 0, .null, .null, .null, .null, .int 0, .int 0, .null, .null, .null, .null, .null, .null, .null, .null, .null, .null, .null])) rfl rfl rfl ?_
  refine ev_x (i := .aload_n 0) (len := 1) (p' := 16) (s' := [.ref 115]) rfl rfl rfl ?_
  refine ev_x (i := .new 9) (len := 3) (p' := 19) (s' := [.ref 118, .ref 115]) (μ' := (118, va_up (va_up (hA f cl_116) 115 (.inr (12, [.ref 116, .null, .null, .null, .null, .null, .int 0, .null, .null, .null, .null, .null, .int 0, .null, .null, .null, .null, .int 0, .int 0, .null, .null, .null, .null, .null, .null, .null, .null, .null, .null, .null]))) 118 (.inr (11, [.null, .int 0])), nc + 1 + 1 + 1, ns + 2 + 16 + 2)) rfl rfl rfl ?_
  refine ev_x (i := .dup) (len := 1) (p' := 20) (s' := [.ref 118, .ref 118, .ref 115]) rfl rfl rfl ?_
  refine ev_callI (d := d + 1) (As := []) (a := 118) rfl rfl rfl rfl rfl rfl rfl rfl (ct_30 (d := d + 0) ) ?_
  refine ev_hp (hp1 (hA_cm rfl)) ?_
  refine ev_px (i := .putfield 18) (len := 3) (p' := 26) (s' := []) (o' := .inr (12, [.ref 116, .ref 118, .null, .null, .null, .null, .int 0, .null, .null, .null, .null, .null, .int 0, .null, .null, .null, .null, .int 0, .int 0, .null, .null, .null, .null, .null, .null, .null, .null, .null, .null, .null])) rfl rfl rfl ?_
  refine ev_x (i := .aload_n 0) (len := 1) (p' := 27) (s' := [.ref 115]) rfl rfl rfl ?_
  refine ev_x (i := .new 9) (len := 3) (p' := 30) (s' := [.ref 120, .ref 115]) (μ' := (120, va_up (va_up (hA (hA f cl_116) cl_118) 115 (.inr (12, [.ref 116, .ref 118, .null, .null, .null, .null, .int 0, .null, .null, .null, .null, .null, .int 0, .null, .null, .null, .null, .int 0, .int 0, .null, .null, .null, .null, .null, .null, .null, .null, .null, .null, .null]))) 120 (.inr (11, [.null, .int 0])), nc + 1 + 1 + 1 + 1 + 1, ns + 2 + 16 + 2 + 16 + 2)) rfl rfl rfl ?_
  refine ev_x (i := .dup) (len := 1) (p' := 31) (s' := [.ref 120, .ref 120, .ref 115]) rfl rfl rfl ?_
  refine ev_callI (d := d + 1) (As := []) (a := 120) rfl rfl rfl rfl rfl rfl rfl rfl (ct_31 (d := d + 0) ) ?_
  refine ev_hp (hp1 (hA_cm rfl)) ?_
  refine ev_px (i := .putfield 21) (len := 3) (p' := 37) (s' := []) (o' := .inr (12, [.ref 116, .ref 118, .ref 120, .null, .null, .null, .int 0, .null, .null, .null, .null, .null, .int 0, .null, .null, .null, .null, .int 0, .int 0, .null, .null, .null, .null, .null, .null, .null, .null, .null, .null, .null])) rfl rfl rfl ?_
  refine ev_x (i := .aload_n 0) (len := 1) (p' := 38) (s' := [.ref 115]) rfl rfl rfl ?_
  refine ev_x (i := .new 9) (len := 3) (p' := 41) (s' := [.ref 122, .ref 115]) (μ' := (122, va_up (va_up (hA (hA (hA f cl_116) cl_118) cl_120) 115 (.inr (12, [.ref 116, .ref 118, .ref 120, .null, .null, .null, .int 0, .null, .null, .null, .null, .null, .int 0, .null, .null, .null, .null, .int 0, .int 0, .null, .null, .null, .null, .null, .null, .null, .null, .null, .null, .null]))) 122 (.inr (11, [.null, .int 0])), nc + 1 + 1 + 1 + 1 + 1 + 1 + 1, ns + 2 + 16 + 2 + 16 + 2 + 16 + 2)) rfl rfl rfl ?_
  refine ev_x (i := .dup) (len := 1) (p' := 42) (s' := [.ref 122, .ref 122, .ref 115]) rfl rfl rfl ?_
  refine ev_callI (d := d + 1) (As := []) (a := 122) rfl rfl rfl rfl rfl rfl rfl rfl (ct_32 (d := d + 0) ) ?_
  refine ev_hp (hp1 (hA_cm rfl)) ?_
  refine ev_px (i := .putfield 24) (len := 3) (p' := 48) (s' := []) (o' := .inr (12, [.ref 116, .ref 118, .ref 120, .ref 122, .null, .null, .int 0, .null, .null, .null, .null, .null, .int 0, .null, .null, .null, .null, .int 0, .int 0, .null, .null, .null, .null, .null, .null, .null, .null, .null, .null, .null])) rfl rfl rfl ?_
  refine ev_x (i := .aload_n 0) (len := 1) (p' := 49) (s' := [.ref 115]) rfl rfl rfl ?_
  refine ev_x (i := .new 9) (len := 3) (p' := 52) (s' := [.ref 124, .ref 115]) (μ' := (124, va_up (va_up (hA (hA (hA (hA f cl_116) cl_118) cl_120) cl_122) 115 (.inr (12, [.ref 116, .ref 118, .ref 120, .ref 122, .null, .null, .int 0, .null, .null, .null, .null, .null, .int 0, .null, .null, .null, .null, .int 0, .int 0, .null, .null, .null, .null, .null, .null, .null, .null, .null, .null, .null]))) 124 (.inr (11, [.null, .int 0])), nc + 1 + 1 + 1 + 1 + 1 + 1 + 1 + 1 + 1, ns + 2 + 16 + 2 + 16 + 2 + 16 + 2 + 16 + 2)) rfl rfl rfl ?_
  refine ev_x (i := .dup) (len := 1) (p' := 53) (s' := [.ref 124, .ref 124, .ref 115]) rfl rfl rfl ?_
  refine ev_callI (d := d + 1) (As := []) (a := 124) rfl rfl rfl rfl rfl rfl rfl rfl (ct_33 (d := d + 0) ) ?_
  refine ev_hp (hp1 (hA_cm rfl)) ?_
  refine ev_px (i := .putfield 27) (len := 3) (p' := 59) (s' := []) (o' := .inr (12, [.ref 116, .ref 118, .ref 120, .ref 122, .ref 124, .null, .int 0, .null, .null, .null, .null, .null, .int 0, .null, .null, .null, .null, .int 0, .int 0, .null, .null, .null, .null, .null, .null, .null, .null, .null, .null, .null])) rfl rfl rfl ?_
  refine ev_x (i := .aload_n 0) (len := 1) (p' := 60) (s' := [.ref 115]) rfl rfl rfl ?_
  refine ev_x (i := .new 9) (len := 3) (p' := 63) (s' := [.ref 126, .ref 115]) (μ' := (126, va_up (va_up (hA (hA (hA (hA (hA f cl_116) cl_118) cl_120) cl_122) cl_124) 115 (.inr (12, [.ref 116, .ref 118, .ref 120, .ref 122, .ref 124, .null, .int 0, .null, .null, .null, .null, .null, .int 0, .null, .null, .null, .null, .int 0, .int 0, .null, .null, .null, .null, .null, .null, .null, .null, .null, .null, .null]))) 126 (.inr (11, [.null, .int 0])), nc + 1 + 1 + 1 + 1 + 1 + 1 + 1 + 1 + 1 + 1 + 1, ns + 2 + 16 + 2 + 16 + 2 + 16 + 2 + 16 + 2 + 16 + 2)) rfl rfl rfl ?_
  refine ev_x (i := .dup) (len := 1) (p' := 64) (s' := [.ref 126, .ref 126, .ref 115]) rfl rfl rfl ?_
  refine ev_callI (d := d + 1) (As := []) (a := 126) rfl rfl rfl rfl rfl rfl rfl rfl (ct_34 (d := d + 0) ) ?_
  refine ev_hp (hp1 (hA_cm rfl)) ?_
  refine ev_px (i := .putfield 30) (len := 3) (p' := 70) (s' := []) (o' := .inr (12, [.ref 116, .ref 118, .ref 120, .ref 122, .ref 124, .ref 126, .int 0, .null, .null, .null, .null, .null, .int 0, .null, .null, .null, .null, .int 0, .int 0, .null, .null, .null, .null, .null, .null, .null, .null, .null, .null, .null])) rfl rfl rfl ?_
  refine ev_x (i := .aload_n 0) (len := 1) (p' := 71) (s' := [.ref 115]) rfl rfl rfl ?_
  refine ev_x (i := .bipush 60) (len := 2) (p' := 73) (s' := [.int 60, .ref 115]) rfl rfl rfl ?_
  refine ev_nx (i := .newarray .boolean) (len := 2) (p' := 75) (s' := [.ref 128, .ref 115]) (n' := 128) (k := 128) (x := .inl (2, 60, .inl fun _ => 0)) (A' := nc + 1 + 1 + 1 + 1 + 1 + 1 + 1 + 1 + 1 + 1 + 1 + 1 + 1) (B' := ns + 2 + 16 + 2 + 16 + 2 + 16 + 2 + 16 + 2 + 16 + 2 + 16 + 60) rfl rfl rfl (by decide) ?_
  refine ev_px (i := .putfield 33) (len := 3) (p' := 78) (s' := []) (o' := .inr (12, [.ref 116, .ref 118, .ref 120, .ref 122, .ref 124, .ref 126, .int 0, .ref 128, .null, .null, .null, .null, .int 0, .null, .null, .null, .null, .int 0, .int 0, .null, .null, .null, .null, .null, .null, .null, .null, .null, .null, .null])) rfl rfl rfl ?_
  refine ev_x (i := .aload_n 0) (len := 1) (p' := 79) (s' := [.ref 115]) rfl rfl rfl ?_
  refine ev_x (i := .bipush 60) (len := 2) (p' := 81) (s' := [.int 60, .ref 115]) rfl rfl rfl ?_
  refine ev_nx (i := .newarray .boolean) (len := 2) (p' := 83) (s' := [.ref 129, .ref 115]) (n' := 129) (k := 129) (x := .inl (2, 60, .inl fun _ => 0)) (A' := nc + 1 + 1 + 1 + 1 + 1 + 1 + 1 + 1 + 1 + 1 + 1 + 1 + 1 + 1) (B' := ns + 2 + 16 + 2 + 16 + 2 + 16 + 2 + 16 + 2 + 16 + 2 + 16 + 60 + 60) rfl rfl rfl (by decide) ?_
  refine ev_px (i := .putfield 37) (len := 3) (p' := 86) (s' := []) (o' := .inr (12, [.ref 116, .ref 118, .ref 120, .ref 122, .ref 124, .ref 126, .int 0, .ref 128, .ref 129, .null, .null, .null, .int 0, .null, .null, .null, .null, .int 0, .int 0, .null, .null, .null, .null, .null, .null, .null, .null, .null, .null, .null])) rfl rfl rfl ?_
  refine ev_x (i := .aload_n 0) (len := 1) (p' := 87) (s' := [.ref 115]) rfl rfl rfl ?_
  refine ev_x (i := .bipush 60) (len := 2) (p' := 89) (s' := [.int 60, .ref 115]) rfl rfl rfl ?_
  refine ev_nx (i := .newarray .int) (len := 2) (p' := 91) (s' := [.ref 130, .ref 115]) (n' := 130) (k := 130) (x := .inl (0, 60, .inl fun _ => 0)) (A' := nc + 1 + 1 + 1 + 1 + 1 + 1 + 1 + 1 + 1 + 1 + 1 + 1 + 1 + 1 + 1) (B' := ns + 2 + 16 + 2 + 16 + 2 + 16 + 2 + 16 + 2 + 16 + 2 + 16 + 60 + 60 + 60) rfl rfl rfl (by decide) ?_
  refine ev_px (i := .putfield 40) (len := 3) (p' := 94) (s' := []) (o' := .inr (12, [.ref 116, .ref 118, .ref 120, .ref 122, .ref 124, .ref 126, .int 0, .ref 128, .ref 129, .ref 130, .null, .null, .int 0, .null, .null, .null, .null, .int 0, .int 0, .null, .null, .null, .null, .null, .null, .null, .null, .null, .null, .null])) rfl rfl rfl ?_
  refine ev_x (i := .aload_n 0) (len := 1) (p' := 95) (s' := [.ref 115]) rfl rfl rfl ?_
  refine ev_x (i := .bipush 60) (len := 2) (p' := 97) (s' := [.int 60, .ref 115]) rfl rfl rfl ?_
  refine ev_nx (i := .newarray .long) (len := 2) (p' := 99) (s' := [.ref 131, .ref 115]) (n' := 131) (k := 131) (x := .inl (1, 60, .inr (.inl fun _ => 0))) (A' := nc + 1 + 1 + 1 + 1 + 1 + 1 + 1 + 1 + 1 + 1 + 1 + 1 + 1 + 1 + 1 + 1) (B' := ns + 2 + 16 + 2 + 16 + 2 + 16 + 2 + 16 + 2 + 16 + 2 + 16 + 60 + 60 + 60 + 60) rfl rfl rfl (by decide) ?_
  refine ev_px (i := .putfield 44) (len := 3) (p' := 102) (s' := []) (o' := .inr (12, [.ref 116, .ref 118, .ref 120, .ref 122, .ref 124, .ref 126, .int 0, .ref 128, .ref 129, .ref 130, .ref 131, .null, .int 0, .null, .null, .null, .null, .int 0, .int 0, .null, .null, .null, .null, .null, .null, .null, .null, .null, .null, .null])) rfl rfl rfl ?_
  refine ev_x (i := .aload_n 0) (len := 1) (p' := 103) (s' := [.ref 115]) rfl rfl rfl ?_
  refine ev_x (i := .bipush 60) (len := 2) (p' := 105) (s' := [.int 60, .ref 115]) rfl rfl rfl ?_
  refine ev_nx (i := .newarray .long) (len := 2) (p' := 107) (s' := [.ref 132, .ref 115]) (n' := 132) (k := 132) (x := .inl (1, 60, .inr (.inl fun _ => 0))) (A' := nc + 1 + 1 + 1 + 1 + 1 + 1 + 1 + 1 + 1 + 1 + 1 + 1 + 1 + 1 + 1 + 1 + 1) (B' := ns + 2 + 16 + 2 + 16 + 2 + 16 + 2 + 16 + 2 + 16 + 2 + 16 + 60 + 60 + 60 + 60 + 60) rfl rfl rfl (by decide) ?_
  refine ev_px (i := .putfield 48) (len := 3) (p' := 110) (s' := []) (o' := .inr (12, [.ref 116, .ref 118, .ref 120, .ref 122, .ref 124, .ref 126, .int 0, .ref 128, .ref 129, .ref 130, .ref 131, .ref 132, .int 0, .null, .null, .null, .null, .int 0, .int 0, .null, .null, .null, .null, .null, .null, .null, .null, .null, .null, .null])) rfl rfl rfl ?_
  refine ev_x (i := .aload_n 0) (len := 1) (p' := 111) (s' := [.ref 115]) rfl rfl rfl ?_
  refine ev_x (i := .bipush 12) (len := 2) (p' := 113) (s' := [.int 12, .ref 115]) rfl rfl rfl ?_
  refine ev_nx (i := .newarray .boolean) (len := 2) (p' := 115) (s' := [.ref 133, .ref 115]) (n' := 133) (k := 133) (x := .inl (2, 12, .inl fun _ => 0)) (A' := nc + 1 + 1 + 1 + 1 + 1 + 1 + 1 + 1 + 1 + 1 + 1 + 1 + 1 + 1 + 1 + 1 + 1 + 1) (B' := ns + 2 + 16 + 2 + 16 + 2 + 16 + 2 + 16 + 2 + 16 + 2 + 16 + 60 + 60 + 60 + 60 + 60 + 12) rfl rfl rfl (by decide) ?_
  refine ev_px (i := .putfield 51) (len := 3) (p' := 118) (s' := []) (o' := .inr (12, [.ref 116, .ref 118, .ref 120, .ref 122, .ref 124, .ref 126, .int 0, .ref 128, .ref 129, .ref 130, .ref 131, .ref 132, .int 0, .ref 133, .null, .null, .null, .int 0, .int 0, .null, .null, .null, .null, .null, .null, .null, .null, .null, .null, .null])) rfl rfl rfl ?_
  refine ev_x (i := .aload_n 0) (len := 1) (p' := 119) (s' := [.ref 115]) rfl rfl rfl ?_
  refine ev_x (i := .bipush 12) (len := 2) (p' := 121) (s' := [.int 12, .ref 115]) rfl rfl rfl ?_
  refine ev_nx (i := .newarray .int) (len := 2) (p' := 123) (s' := [.ref 134, .ref 115]) (n' := 134) (k := 134) (x := .inl (0, 12, .inl fun _ => 0)) (A' := nc + 1 + 1 + 1 + 1 + 1 + 1 + 1 + 1 + 1 + 1 + 1 + 1 + 1 + 1 + 1 + 1 + 1 + 1 + 1) (B' := ns + 2 + 16 + 2 + 16 + 2 + 16 + 2 + 16 + 2 + 16 + 2 + 16 + 60 + 60 + 60 + 60 + 60 + 12 + 12) rfl rfl rfl (by decide) ?_
  refine ev_px (i := .putfield 54) (len := 3) (p' := 126) (s' := []) (o' := .inr (12, [.ref 116, .ref 118, .ref 120, .ref 122, .ref 124, .ref 126, .int 0, .ref 128, .ref 129, .ref 130, .ref 131, .ref 132, .int 0, .ref 133, .ref 134, .null, .null, .int 0, .int 0, .null, .null, .null, .null, .null, .null, .null, .null, .null, .null, .null])) rfl rfl rfl ?_
  refine ev_x (i := .aload_n 0) (len := 1) (p' := 127) (s' := [.ref 115]) rfl rfl rfl ?_
  refine ev_x (i := .bipush 12) (len := 2) (p' := 129) (s' := [.int 12, .ref 115]) rfl rfl rfl ?_
  refine ev_nx (i := .newarray .int) (len := 2) (p' := 131) (s' := [.ref 135, .ref 115]) (n' := 135) (k := 135) (x := .inl (0, 12, .inl fun _ => 0)) (A' := nc + 1 + 1 + 1 + 1 + 1 + 1 + 1 + 1 + 1 + 1 + 1 + 1 + 1 + 1 + 1 + 1 + 1 + 1 + 1 + 1) (B' := ns + 2 + 16 + 2 + 16 + 2 + 16 + 2 + 16 + 2 + 16 + 2 + 16 + 60 + 60 + 60 + 60 + 60 + 12 + 12 + 12) rfl rfl rfl (by decide) ?_
  refine ev_px (i := .putfield 57) (len := 3) (p' := 134) (s' := []) (o' := .inr (12, [.ref 116, .ref 118, .ref 120, .ref 122, .ref 124, .ref 126, .int 0, .ref 128, .ref 129, .ref 130, .ref 131, .ref 132, .int 0, .ref 133, .ref 134, .ref 135, .null, .int 0, .int 0, .null, .null, .null, .null, .null, .null, .null, .null, .null, .null, .null])) rfl rfl rfl ?_
  refine ev_x (i := .aload_n 0) (len := 1) (p' := 135) (s' := [.ref 115]) rfl rfl rfl ?_
  refine ev_x (i := .bipush 12) (len := 2) (p' := 137) (s' := [.int 12, .ref 115]) rfl rfl rfl ?_
  refine ev_nx (i := .newarray .int) (len := 2) (p' := 139) (s' := [.ref 136, .ref 115]) (n' := 136) (k := 136) (x := .inl (0, 12, .inl fun _ => 0)) (A' := nc + 1 + 1 + 1 + 1 + 1 + 1 + 1 + 1 + 1 + 1 + 1 + 1 + 1 + 1 + 1 + 1 + 1 + 1 + 1 + 1 + 1) (B' := ns + 2 + 16 + 2 + 16 + 2 + 16 + 2 + 16 + 2 + 16 + 2 + 16 + 60 + 60 + 60 + 60 + 60 + 12 + 12 + 12 + 12) rfl rfl rfl (by decide) ?_
  refine ev_px (i := .putfield 60) (len := 3) (p' := 142) (s' := []) (o' := .inr (12, [.ref 116, .ref 118, .ref 120, .ref 122, .ref 124, .ref 126, .int 0, .ref 128, .ref 129, .ref 130, .ref 131, .ref 132, .int 0, .ref 133, .ref 134, .ref 135, .ref 136, .int 0, .int 0, .null, .null, .null, .null, .null, .null, .null, .null, .null, .null, .null])) rfl rfl rfl ?_
  refine ev_x (i := .aload_n 0) (len := 1) (p' := 143) (s' := [.ref 115]) rfl rfl rfl ?_
  refine ev_x (i := .bipush 60) (len := 2) (p' := 145) (s' := [.int 60, .ref 115]) rfl rfl rfl ?_
  refine ev_nx (i := .newarray .boolean) (len := 2) (p' := 147) (s' := [.ref 137, .ref 115]) (n' := 137) (k := 137) (x := .inl (2, 60, .inl fun _ => 0)) (A' := nc + 1 + 1 + 1 + 1 + 1 + 1 + 1 + 1 + 1 + 1 + 1 + 1 + 1 + 1 + 1 + 1 + 1 + 1 + 1 + 1 + 1 + 1) (B' := ns + 2 + 16 + 2 + 16 + 2 + 16 + 2 + 16 + 2 + 16 + 2 + 16 + 60 + 60 + 60 + 60 + 60 + 12 + 12 + 12 + 12 + 60) rfl rfl rfl (by decide) ?_
  refine ev_px (i := .putfield 63) (len := 3) (p' := 150) (s' := []) (o' := .inr (12, [.ref 116, .ref 118, .ref 120, .ref 122, .ref 124, .ref 126, .int 0, .ref 128, .ref 129, .ref 130, .ref 131, .ref 132, .int 0, .ref 133, .ref 134, .ref 135, .ref 136, .int 0, .int 0, .ref 137, .null, .null, .null, .null, .null, .null, .null, .null, .null, .null])) rfl rfl rfl ?_
  refine ev_x (i := .aload_n 0) (len := 1) (p' := 151) (s' := [.ref 115]) rfl rfl rfl ?_
  refine ev_x (i := .bipush 60) (len := 2) (p' := 153) (s' := [.int 60, .ref 115]) rfl rfl rfl ?_
  refine ev_nx (i := .newarray .int) (len := 2) (p' := 155) (s' := [.ref 138, .ref 115]) (n' := 138) (k := 138) (x := .inl (0, 60, .inl fun _ => 0)) (A' := nc + 1 + 1 + 1 + 1 + 1 + 1 + 1 + 1 + 1 + 1 + 1 + 1 + 1 + 1 + 1 + 1 + 1 + 1 + 1 + 1 + 1 + 1 + 1) (B' := ns + 2 + 16 + 2 + 16 + 2 + 16 + 2 + 16 + 2 + 16 + 2 + 16 + 60 + 60 + 60 + 60 + 60 + 12 + 12 + 12 + 12 + 60 + 60) rfl rfl rfl (by decide) ?_
  refine ev_px (i := .putfield 66) (len := 3) (p' := 158) (s' := []) (o' := .inr (12, [.ref 116, .ref 118, .ref 120, .ref 122, .ref 124, .ref 126, .int 0, .ref 128, .ref 129, .ref 130, .ref 131, .ref 132, .int 0, .ref 133, .ref 134, .ref 135, .ref 136, .int 0, .int 0, .ref 137, .ref 138, .null, .null, .null, .null, .null, .null, .null, .null, .null])) rfl rfl rfl ?_
  refine ev_x (i := .aload_n 0) (len := 1) (p' := 159) (s' := [.ref 115]) rfl rfl rfl ?_
  refine ev_x (i := .bipush 60) (len := 2) (p' := 161) (s' := [.int 60, .ref 115]) rfl rfl rfl ?_
  refine ev_nx (i := .newarray .int) (len := 2) (p' := 163) (s' := [.ref 139, .ref 115]) (n' := 139) (k := 139) (x := .inl (0, 60, .inl fun _ => 0)) (A' := nc + 1 + 1 + 1 + 1 + 1 + 1 + 1 + 1 + 1 + 1 + 1 + 1 + 1 + 1 + 1 + 1 + 1 + 1 + 1 + 1 + 1 + 1 + 1 + 1) (B' := ns + 2 + 16 + 2 + 16 + 2 + 16 + 2 + 16 + 2 + 16 + 2 + 16 + 60 + 60 + 60 + 60 + 60 + 12 + 12 + 12 + 12 + 60 + 60 + 60) rfl rfl rfl (by decide) ?_
  refine ev_px (i := .putfield 69) (len := 3) (p' := 166) (s' := []) (o' := .inr (12, [.ref 116, .ref 118, .ref 120, .ref 122, .ref 124, .ref 126, .int 0, .ref 128, .ref 129, .ref 130, .ref 131, .ref 132, .int 0, .ref 133, .ref 134, .ref 135, .ref 136, .int 0, .int 0, .ref 137, .ref 138, .ref 139, .null, .null, .null, .null, .null, .null, .null, .null])) rfl rfl rfl ?_
  refine ev_x (i := .aload_n 0) (len := 1) (p' := 167) (s' := [.ref 115]) rfl rfl rfl ?_
  refine ev_x (i := .bipush 60) (len := 2) (p' := 169) (s' := [.int 60, .ref 115]) rfl rfl rfl ?_
  refine ev_nx (i := .newarray .int) (len := 2) (p' := 171) (s' := [.ref 140, .ref 115]) (n' := 140) (k := 140) (x := .inl (0, 60, .inl fun _ => 0)) (A' := nc + 1 + 1 + 1 + 1 + 1 + 1 + 1 + 1 + 1 + 1 + 1 + 1 + 1 + 1 + 1 + 1 + 1 + 1 + 1 + 1 + 1 + 1 + 1 + 1 + 1) (B' := ns + 2 + 16 + 2 + 16 + 2 + 16 + 2 + 16 + 2 + 16 + 2 + 16 + 60 + 60 + 60 + 60 + 60 + 12 + 12 + 12 + 12 + 60 + 60 + 60 + 60) rfl rfl rfl (by decide) ?_
  refine ev_px (i := .putfield 72) (len := 3) (p' := 174) (s' := []) (o' := .inr (12, [.ref 116, .ref 118, .ref 120, .ref 122, .ref 124, .ref 126, .int 0, .ref 128, .ref 129, .ref 130, .ref 131, .ref 132, .int 0, .ref 133, .ref 134, .ref 135, .ref 136, .int 0, .int 0, .ref 137, .ref 138, .ref 139, .ref 140, .null, .null, .null, .null, .null, .null, .null])) rfl rfl rfl ?_
  refine ev_x (i := .aload_n 0) (len := 1) (p' := 175) (s' := [.ref 115]) rfl rfl rfl ?_
  refine ev_x (i := .sipush 480) (len := 3) (p' := 178) (s' := [.int 480, .ref 115]) rfl rfl rfl ?_
  refine ev_nx (i := .newarray .int) (len := 2) (p' := 180) (s' := [.ref 141, .ref 115]) (n' := 141) (k := 141) (x := .inl (0, 480, .inl fun _ => 0)) (A' := nc + 1 + 1 + 1 + 1 + 1 + 1 + 1 + 1 + 1 + 1 + 1 + 1 + 1 + 1 + 1 + 1 + 1 + 1 + 1 + 1 + 1 + 1 + 1 + 1 + 1 + 1) (B' := ns + 2 + 16 + 2 + 16 + 2 + 16 + 2 + 16 + 2 + 16 + 2 + 16 + 60 + 60 + 60 + 60 + 60 + 12 + 12 + 12 + 12 + 60 + 60 + 60 + 60 + 480) rfl rfl rfl (by decide) ?_
  refine ev_px (i := .putfield 75) (len := 3) (p' := 183) (s' := []) (o' := .inr (12, [.ref 116, .ref 118, .ref 120, .ref 122, .ref 124, .ref 126, .int 0, .ref 128, .ref 129, .ref 130, .ref 131, .ref 132, .int 0, .ref 133, .ref 134, .ref 135, .ref 136, .int 0, .int 0, .ref 137, .ref 138, .ref 139, .ref 140, .ref 141, .null, .null, .null, .null, .null, .null])) rfl rfl rfl ?_
  refine ev_x (i := .aload_n 0) (len := 1) (p' := 184) (s' := [.ref 115]) rfl rfl rfl ?_
  refine ev_x (i := .sipush 480) (len := 3) (p' := 187) (s' := [.int 480, .ref 115]) rfl rfl rfl ?_
  refine ev_nx (i := .newarray .int) (len := 2) (p' := 189) (s' := [.ref 142, .ref 115]) (n' := 142) (k := 142) (x := .inl (0, 480, .inl fun _ => 0)) (A' := nc + 1 + 1 + 1 + 1 + 1 + 1 + 1 + 1 + 1 + 1 + 1 + 1 + 1 + 1 + 1 + 1 + 1 + 1 + 1 + 1 + 1 + 1 + 1 + 1 + 1 + 1 + 1) (B' := ns + 2 + 16 + 2 + 16 + 2 + 16 + 2 + 16 + 2 + 16 + 2 + 16 + 60 + 60 + 60 + 60 + 60 + 12 + 12 + 12 + 12 + 60 + 60 + 60 + 60 + 480 + 480) rfl rfl rfl (by decide) ?_
  refine ev_px (i := .putfield 78) (len := 3) (p' := 192) (s' := []) (o' := .inr (12, [.ref 116, .ref 118, .ref 120, .ref 122, .ref 124, .ref 126, .int 0, .ref 128, .ref 129, .ref 130, .ref 131, .ref 132, .int 0, .ref 133, .ref 134, .ref 135, .ref 136, .int 0, .int 0, .ref 137, .ref 138, .ref 139, .ref 140, .ref 141, .ref 142, .null, .null, .null, .null, .null])) rfl rfl rfl ?_
  refine ev_x (i := .aload_n 0) (len := 1) (p' := 193) (s' := [.ref 115]) rfl rfl rfl ?_
  refine ev_x (i := .sipush 480) (len := 3) (p' := 196) (s' := [.int 480, .ref 115]) rfl rfl rfl ?_
  refine ev_nx (i := .newarray .int) (len := 2) (p' := 198) (s' := [.ref 143, .ref 115]) (n' := 143) (k := 143) (x := .inl (0, 480, .inl fun _ => 0)) (A' := nc + 1 + 1 + 1 + 1 + 1 + 1 + 1 + 1 + 1 + 1 + 1 + 1 + 1 + 1 + 1 + 1 + 1 + 1 + 1 + 1 + 1 + 1 + 1 + 1 + 1 + 1 + 1 + 1) (B' := ns + 2 + 16 + 2 + 16 + 2 + 16 + 2 + 16 + 2 + 16 + 2 + 16 + 60 + 60 + 60 + 60 + 60 + 12 + 12 + 12 + 12 + 60 + 60 + 60 + 60 + 480 + 480 + 480) rfl rfl rfl (by decide) ?_
  refine ev_px (i := .putfield 81) (len := 3) (p' := 201) (s' := []) (o' := .inr (12, [.ref 116, .ref 118, .ref 120, .ref 122, .ref 124, .ref 126, .int 0, .ref 128, .ref 129, .ref 130, .ref 131, .ref 132, .int 0, .ref 133, .ref 134, .ref 135, .ref 136, .int 0, .int 0, .ref 137, .ref 138, .ref 139, .ref 140, .ref 141, .ref 142, .ref 143, .null, .null, .null, .null])) rfl rfl rfl ?_
  refine ev_x (i := .aload_n 0) (len := 1) (p' := 202) (s' := [.ref 115]) rfl rfl rfl ?_
  refine ev_x (i := .sipush 480) (len := 3) (p' := 205) (s' := [.int 480, .ref 115]) rfl rfl rfl ?_
  refine ev_nx (i := .newarray .int) (len := 2) (p' := 207) (s' := [.ref 144, .ref 115]) (n' := 144) (k := 144) (x := .inl (0, 480, .inl fun _ => 0)) (A' := nc + 1 + 1 + 1 + 1 + 1 + 1 + 1 + 1 + 1 + 1 + 1 + 1 + 1 + 1 + 1 + 1 + 1 + 1 + 1 + 1 + 1 + 1 + 1 + 1 + 1 + 1 + 1 + 1 + 1) (B' := ns + 2 + 16 + 2 + 16 + 2 + 16 + 2 + 16 + 2 + 16 + 2 + 16 + 60 + 60 + 60 + 60 + 60 + 12 + 12 + 12 + 12 + 60 + 60 + 60 + 60 + 480 + 480 + 480 + 480) rfl rfl rfl (by decide) ?_
  refine ev_px (i := .putfield 84) (len := 3) (p' := 210) (s' := []) (o' := .inr (12, [.ref 116, .ref 118, .ref 120, .ref 122, .ref 124, .ref 126, .int 0, .ref 128, .ref 129, .ref 130, .ref 131, .ref 132, .int 0, .ref 133, .ref 134, .ref 135, .ref 136, .int 0, .int 0, .ref 137, .ref 138, .ref 139, .ref 140, .ref 141, .ref 142, .ref 143, .ref 144, .null, .null, .null])) rfl rfl rfl ?_
  refine ev_x (i := .aload_n 0) (len := 1) (p' := 211) (s' := [.ref 115]) rfl rfl rfl ?_
  refine ev_x (i := .new 9) (len := 3) (p' := 214) (s' := [.ref 145, .ref 115]) (μ' := (145, va_up (va_up (va_up (va_up (va_up (va_up (va_up (va_up (va_up (va_up (va_up (va_up (va_up (va_up (va_up (va_up (va_up (va_up (va_up (hA (hA (hA (hA (hA (hA f cl_116) cl_118) cl_120) cl_122) cl_124) cl_126) 128 (.inl (2, 60, .inl fun _ => 0))) 129 (.inl (2, 60, .inl fun _ => 0))) 130 (.inl (0, 60, .inl fun _ => 0))) 131 (.inl (1, 60, .inr (.inl fun _ => 0)))) 132 (.inl (1, 60, .inr (.inl fun _ => 0)))) 133 (.inl (2, 12, .inl fun _ => 0))) 134 (.inl (0, 12, .inl fun _ => 0))) 135 (.inl (0, 12, .inl fun _ => 0))) 136 (.inl (0, 12, .inl fun _ => 0))) 137 (.inl (2, 60, .inl fun _ => 0))) 138 (.inl (0, 60, .inl fun _ => 0))) 139 (.inl (0, 60, .inl fun _ => 0))) 140 (.inl (0, 60, .inl fun _ => 0))) 141 (.inl (0, 480, .inl fun _ => 0))) 142 (.inl (0, 480, .inl fun _ => 0))) 143 (.inl (0, 480, .inl fun _ => 0))) 144 (.inl (0, 480, .inl fun _ => 0))) 115 (.inr (12, [.ref 116, .ref 118, .ref 120, .ref 122, .ref 124, .ref 126, .int 0, .ref 128, .ref 129, .ref 130, .ref 131, .ref 132, .int 0, .ref 133, .ref 134, .ref 135, .ref 136, .int 0, .int 0, .ref 137, .ref 138, .ref 139, .ref 140, .ref 141, .ref 142, .ref 143, .ref 144, .null, .null, .null]))) 145 (.inr (11, [.null, .int 0])), nc + 1 + 1 + 1 + 1 + 1 + 1 + 1 + 1 + 1 + 1 + 1 + 1 + 1 + 1 + 1 + 1 + 1 + 1 + 1 + 1 + 1 + 1 + 1 + 1 + 1 + 1 + 1 + 1 + 1 + 1, ns + 2 + 16 + 2 + 16 + 2 + 16 + 2 + 16 + 2 + 16 + 2 + 16 + 60 + 60 + 60 + 60 + 60 + 12 + 12 + 12 + 12 + 60 + 60 + 60 + 60 + 480 + 480 + 480 + 480 + 2)) rfl rfl rfl ?_
  refine ev_x (i := .dup) (len := 1) (p' := 215) (s' := [.ref 145, .ref 145, .ref 115]) rfl rfl rfl ?_
  refine ev_callI (d := d + 1) (As := []) (a := 145) rfl rfl rfl rfl rfl rfl rfl rfl (ct_35 (d := d + 0) ) ?_
  refine ev_hp (hp1 (hA_cm rfl)) ?_
  refine ev_px (i := .putfield 87) (len := 3) (p' := 221) (s' := []) (o' := .inr (12, [.ref 116, .ref 118, .ref 120, .ref 122, .ref 124, .ref 126, .int 0, .ref 128, .ref 129, .ref 130, .ref 131, .ref 132, .int 0, .ref 133, .ref 134, .ref 135, .ref 136, .int 0, .int 0, .ref 137, .ref 138, .ref 139, .ref 140, .ref 141, .ref 142, .ref 143, .ref 144, .ref 145, .null, .null])) rfl rfl rfl ?_
  refine ev_x (i := .aload_n 0) (len := 1) (p' := 222) (s' := [.ref 115]) rfl rfl rfl ?_
  refine ev_x (i := .new 9) (len := 3) (p' := 225) (s' := [.ref 147, .ref 115]) (μ' := (147, va_up (va_up (hA (va_up (va_up (va_up (va_up (va_up (va_up (va_up (va_up (va_up (va_up (va_up (va_up (va_up (va_up (va_up (va_up (va_up (hA (hA (hA (hA (hA (hA f cl_116) cl_118) cl_120) cl_122) cl_124) cl_126) 128 (.inl (2, 60, .inl fun _ => 0))) 129 (.inl (2, 60, .inl fun _ => 0))) 130 (.inl (0, 60, .inl fun _ => 0))) 131 (.inl (1, 60, .inr (.inl fun _ => 0)))) 132 (.inl (1, 60, .inr (.inl fun _ => 0)))) 133 (.inl (2, 12, .inl fun _ => 0))) 134 (.inl (0, 12, .inl fun _ => 0))) 135 (.inl (0, 12, .inl fun _ => 0))) 136 (.inl (0, 12, .inl fun _ => 0))) 137 (.inl (2, 60, .inl fun _ => 0))) 138 (.inl (0, 60, .inl fun _ => 0))) 139 (.inl (0, 60, .inl fun _ => 0))) 140 (.inl (0, 60, .inl fun _ => 0))) 141 (.inl (0, 480, .inl fun _ => 0))) 142 (.inl (0, 480, .inl fun _ => 0))) 143 (.inl (0, 480, .inl fun _ => 0))) 144 (.inl (0, 480, .inl fun _ => 0))) cl_145) 115 (.inr (12, [.ref 116, .ref 118, .ref 120, .ref 122, .ref 124, .ref 126, .int 0, .ref 128, .ref 129, .ref 130, .ref 131, .ref 132, .int 0, .ref 133, .ref 134, .ref 135, .ref 136, .int 0, .int 0, .ref 137, .ref 138, .ref 139, .ref 140, .ref 141, .ref 142, .ref 143, .ref 144, .ref 145, .null, .null]))) 147 (.inr (11, [.null, .int 0])), nc + 1 + 1 + 1 + 1 + 1 + 1 + 1 + 1 + 1 + 1 + 1 + 1 + 1 + 1 + 1 + 1 + 1 + 1 + 1 + 1 + 1 + 1 + 1 + 1 + 1 + 1 + 1 + 1 + 1 + 1 + 1 + 1, ns + 2 + 16 + 2 + 16 + 2 + 16 + 2 + 16 + 2 + 16 + 2 + 16 + 60 + 60 + 60 + 60 + 60 + 12 + 12 + 12 + 12 + 60 + 60 + 60 + 60 + 480 + 480 + 480 + 480 + 2 + 16 + 2)) rfl rfl rfl ?_
  refine ev_x (i := .dup) (len := 1) (p' := 226) (s' := [.ref 147, .ref 147, .ref 115]) rfl rfl rfl ?_
  refine ev_callI (d := d + 1) (As := []) (a := 147) rfl rfl rfl rfl rfl rfl rfl rfl (ct_36 (d := d + 0) ) ?_
  refine ev_hp (hp1 (hA_cm rfl)) ?_
  refine ev_px (i := .putfield 90) (len := 3) (p' := 232) (s' := []) (o' := .inr (12, [.ref 116, .ref 118, .ref 120, .ref 122, .ref 124, .ref 126, .int 0, .ref 128, .ref 129, .ref 130, .ref 131, .ref 132, .int 0, .ref 133, .ref 134, .ref 135, .ref 136, .int 0, .int 0, .ref 137, .ref 138, .ref 139, .ref 140, .ref 141, .ref 142, .ref 143, .ref 144, .ref 145, .ref 147, .null])) rfl rfl rfl ?_
  refine ev_x (i := .aload_n 0) (len := 1) (p' := 233) (s' := [.ref 115]) rfl rfl rfl ?_
  refine ev_x (i := .new 9) (len := 3) (p' := 236) (s' := [.ref 149, .ref 115]) (μ' := (149, va_up (va_up (hA (hA (va_up (va_up (va_up (va_up (va_up (va_up (va_up (va_up (va_up (va_up (va_up (va_up (va_up (va_up (va_up (va_up (va_up (hA (hA (hA (hA (hA (hA f cl_116) cl_118) cl_120) cl_122) cl_124) cl_126) 128 (.inl (2, 60, .inl fun _ => 0))) 129 (.inl (2, 60, .inl fun _ => 0))) 130 (.inl (0, 60, .inl fun _ => 0))) 131 (.inl (1, 60, .inr (.inl fun _ => 0)))) 132 (.inl (1, 60, .inr (.inl fun _ => 0)))) 133 (.inl (2, 12, .inl fun _ => 0))) 134 (.inl (0, 12, .inl fun _ => 0))) 135 (.inl (0, 12, .inl fun _ => 0))) 136 (.inl (0, 12, .inl fun _ => 0))) 137 (.inl (2, 60, .inl fun _ => 0))) 138 (.inl (0, 60, .inl fun _ => 0))) 139 (.inl (0, 60, .inl fun _ => 0))) 140 (.inl (0, 60, .inl fun _ => 0))) 141 (.inl (0, 480, .inl fun _ => 0))) 142 (.inl (0, 480, .inl fun _ => 0))) 143 (.inl (0, 480, .inl fun _ => 0))) 144 (.inl (0, 480, .inl fun _ => 0))) cl_145) cl_147) 115 (.inr (12, [.ref 116, .ref 118, .ref 120, .ref 122, .ref 124, .ref 126, .int 0, .ref 128, .ref 129, .ref 130, .ref 131, .ref 132, .int 0, .ref 133, .ref 134, .ref 135, .ref 136, .int 0, .int 0, .ref 137, .ref 138, .ref 139, .ref 140, .ref 141, .ref 142, .ref 143, .ref 144, .ref 145, .ref 147, .null]))) 149 (.inr (11, [.null, .int 0])), nc + 1 + 1 + 1 + 1 + 1 + 1 + 1 + 1 + 1 + 1 + 1 + 1 + 1 + 1 + 1 + 1 + 1 + 1 + 1 + 1 + 1 + 1 + 1 + 1 + 1 + 1 + 1 + 1 + 1 + 1 + 1 + 1 + 1 + 1, ns + 2 + 16 + 2 + 16 + 2 + 16 + 2 + 16 + 2 + 16 + 2 + 16 + 60 + 60 + 60 + 60 + 60 + 12 + 12 + 12 + 12 + 60 + 60 + 60 + 60 + 480 + 480 + 480 + 480 + 2 + 16 + 2 + 16 + 2)) rfl rfl rfl ?_
  refine ev_x (i := .dup) (len := 1) (p' := 237) (s' := [.ref 149, .ref 149, .ref 115]) rfl rfl rfl ?_
  refine ev_callI (d := d + 1) (As := []) (a := 149) rfl rfl rfl rfl rfl rfl rfl rfl (ct_37 (d := d + 0) ) ?_
  refine ev_hp (hp1 (hA_cm rfl)) ?_
  refine ev_px (i := .putfield 93) (len := 3) (p' := 243) (s' := []) (o' := .inr (12, [.ref 116, .ref 118, .ref 120, .ref 122, .ref 124, .ref 126, .int 0, .ref 128, .ref 129, .ref 130, .ref 131, .ref 132, .int 0, .ref 133, .ref 134, .ref 135, .ref 136, .int 0, .int 0, .ref 137, .ref 138, .ref 139, .ref 140, .ref 141, .ref 142, .ref 143, .ref 144, .ref 145, .ref 147, .ref 149])) rfl rfl rfl ?_
  refine ev_hp (hp4 (F' := hA f cl_115) (A' := nc + 35) (B' := ns + 2670) (by unfold cl_115; simp only [hA_app, hA_1, hA_0]) (by omega) (by omega)) ?_
  exact ev_vret rfl rfl rfl
def cl_151 : List (Nat × va_E) := [(151, .inr (11, [.ref 152, .int 0]))] ++ [(152, .inl (0, 16, .inl fun _ => 0))]
set_option maxHeartbeats 4000000 in
set_option maxRecDepth 100000 in
/-- GameTextModel$Numbers.<init>()V, cell 151 -/
theorem ct_39 {d : Nat} {f : Nat → va_E} {nc ns : Nat}  : vz_ev P0 (d + 1) 128 0 (lv_args 0 [.ref 151]) [] (151, va_up f 151 (.inr (11, [.null, .int 0])), nc, ns) (.inl none, (152, hA f cl_151, nc + 1, ns + 16)) := by
  refine ev_x (i := .aload_n 0) (len := 1) (p' := 1) (s' := [.ref 151]) rfl rfl rfl ?_
  refine ev_obj (d := d + 0) rfl rfl rfl rfl ?_
  refine ev_x (i := .aload_n 0) (len := 1) (p' := 5) (s' := [.ref 151]) rfl rfl rfl ?_
  refine ev_x (i := .bipush 16) (len := 2) (p' := 7) (s' := [.int 16, .ref 151]) rfl rfl rfl ?_
  refine ev_nx (i := .newarray .int) (len := 2) (p' := 9) (s' := [.ref 152, .ref 151]) (n' := 152) (k := 152) (x := .inl (0, 16, .inl fun _ => 0)) (A' := nc + 1) (B' := ns + 16) rfl rfl rfl (by decide) ?_
  refine ev_px (i := .putfield 7) (len := 3) (p' := 12) (s' := []) (o' := .inr (11, [.ref 152, .int 0])) rfl rfl rfl ?_
  refine ev_hp (hp4 (F' := hA f cl_151) (A' := nc + 1) (B' := ns + 16) (by unfold cl_151; simp only [hA_app, hA_1, hA_0]) (by omega) (by omega)) ?_
  exact ev_vret rfl rfl rfl
def cl_153 : List (Nat × va_E) := [(153, .inr (11, [.ref 154, .int 0]))] ++ [(154, .inl (0, 16, .inl fun _ => 0))]
set_option maxHeartbeats 4000000 in
set_option maxRecDepth 100000 in
/-- GameTextModel$Numbers.<init>()V, cell 153 -/
theorem ct_40 {d : Nat} {f : Nat → va_E} {nc ns : Nat}  : vz_ev P0 (d + 1) 128 0 (lv_args 0 [.ref 153]) [] (153, va_up f 153 (.inr (11, [.null, .int 0])), nc, ns) (.inl none, (154, hA f cl_153, nc + 1, ns + 16)) := by
  refine ev_x (i := .aload_n 0) (len := 1) (p' := 1) (s' := [.ref 153]) rfl rfl rfl ?_
  refine ev_obj (d := d + 0) rfl rfl rfl rfl ?_
  refine ev_x (i := .aload_n 0) (len := 1) (p' := 5) (s' := [.ref 153]) rfl rfl rfl ?_
  refine ev_x (i := .bipush 16) (len := 2) (p' := 7) (s' := [.int 16, .ref 153]) rfl rfl rfl ?_
  refine ev_nx (i := .newarray .int) (len := 2) (p' := 9) (s' := [.ref 154, .ref 153]) (n' := 154) (k := 154) (x := .inl (0, 16, .inl fun _ => 0)) (A' := nc + 1) (B' := ns + 16) rfl rfl rfl (by decide) ?_
  refine ev_px (i := .putfield 7) (len := 3) (p' := 12) (s' := []) (o' := .inr (11, [.ref 154, .int 0])) rfl rfl rfl ?_
  refine ev_hp (hp4 (F' := hA f cl_153) (A' := nc + 1) (B' := ns + 16) (by unfold cl_153; simp only [hA_app, hA_1, hA_0]) (by omega) (by omega)) ?_
  exact ev_vret rfl rfl rfl
def cl_155 : List (Nat × va_E) := [(155, .inr (11, [.ref 156, .int 0]))] ++ [(156, .inl (0, 16, .inl fun _ => 0))]
set_option maxHeartbeats 4000000 in
set_option maxRecDepth 100000 in
/-- GameTextModel$Numbers.<init>()V, cell 155 -/
theorem ct_41 {d : Nat} {f : Nat → va_E} {nc ns : Nat}  : vz_ev P0 (d + 1) 128 0 (lv_args 0 [.ref 155]) [] (155, va_up f 155 (.inr (11, [.null, .int 0])), nc, ns) (.inl none, (156, hA f cl_155, nc + 1, ns + 16)) := by
  refine ev_x (i := .aload_n 0) (len := 1) (p' := 1) (s' := [.ref 155]) rfl rfl rfl ?_
  refine ev_obj (d := d + 0) rfl rfl rfl rfl ?_
  refine ev_x (i := .aload_n 0) (len := 1) (p' := 5) (s' := [.ref 155]) rfl rfl rfl ?_
  refine ev_x (i := .bipush 16) (len := 2) (p' := 7) (s' := [.int 16, .ref 155]) rfl rfl rfl ?_
  refine ev_nx (i := .newarray .int) (len := 2) (p' := 9) (s' := [.ref 156, .ref 155]) (n' := 156) (k := 156) (x := .inl (0, 16, .inl fun _ => 0)) (A' := nc + 1) (B' := ns + 16) rfl rfl rfl (by decide) ?_
  refine ev_px (i := .putfield 7) (len := 3) (p' := 12) (s' := []) (o' := .inr (11, [.ref 156, .int 0])) rfl rfl rfl ?_
  refine ev_hp (hp4 (F' := hA f cl_155) (A' := nc + 1) (B' := ns + 16) (by unfold cl_155; simp only [hA_app, hA_1, hA_0]) (by omega) (by omega)) ?_
  exact ev_vret rfl rfl rfl
def cl_157 : List (Nat × va_E) := [(157, .inr (11, [.ref 158, .int 0]))] ++ [(158, .inl (0, 16, .inl fun _ => 0))]
set_option maxHeartbeats 4000000 in
set_option maxRecDepth 100000 in
/-- GameTextModel$Numbers.<init>()V, cell 157 -/
theorem ct_42 {d : Nat} {f : Nat → va_E} {nc ns : Nat}  : vz_ev P0 (d + 1) 128 0 (lv_args 0 [.ref 157]) [] (157, va_up f 157 (.inr (11, [.null, .int 0])), nc, ns) (.inl none, (158, hA f cl_157, nc + 1, ns + 16)) := by
  refine ev_x (i := .aload_n 0) (len := 1) (p' := 1) (s' := [.ref 157]) rfl rfl rfl ?_
  refine ev_obj (d := d + 0) rfl rfl rfl rfl ?_
  refine ev_x (i := .aload_n 0) (len := 1) (p' := 5) (s' := [.ref 157]) rfl rfl rfl ?_
  refine ev_x (i := .bipush 16) (len := 2) (p' := 7) (s' := [.int 16, .ref 157]) rfl rfl rfl ?_
  refine ev_nx (i := .newarray .int) (len := 2) (p' := 9) (s' := [.ref 158, .ref 157]) (n' := 158) (k := 158) (x := .inl (0, 16, .inl fun _ => 0)) (A' := nc + 1) (B' := ns + 16) rfl rfl rfl (by decide) ?_
  refine ev_px (i := .putfield 7) (len := 3) (p' := 12) (s' := []) (o' := .inr (11, [.ref 158, .int 0])) rfl rfl rfl ?_
  refine ev_hp (hp4 (F' := hA f cl_157) (A' := nc + 1) (B' := ns + 16) (by unfold cl_157; simp only [hA_app, hA_1, hA_0]) (by omega) (by omega)) ?_
  exact ev_vret rfl rfl rfl
def cl_159 : List (Nat × va_E) := [(159, .inr (11, [.ref 160, .int 0]))] ++ [(160, .inl (0, 16, .inl fun _ => 0))]
set_option maxHeartbeats 4000000 in
set_option maxRecDepth 100000 in
/-- GameTextModel$Numbers.<init>()V, cell 159 -/
theorem ct_43 {d : Nat} {f : Nat → va_E} {nc ns : Nat}  : vz_ev P0 (d + 1) 128 0 (lv_args 0 [.ref 159]) [] (159, va_up f 159 (.inr (11, [.null, .int 0])), nc, ns) (.inl none, (160, hA f cl_159, nc + 1, ns + 16)) := by
  refine ev_x (i := .aload_n 0) (len := 1) (p' := 1) (s' := [.ref 159]) rfl rfl rfl ?_
  refine ev_obj (d := d + 0) rfl rfl rfl rfl ?_
  refine ev_x (i := .aload_n 0) (len := 1) (p' := 5) (s' := [.ref 159]) rfl rfl rfl ?_
  refine ev_x (i := .bipush 16) (len := 2) (p' := 7) (s' := [.int 16, .ref 159]) rfl rfl rfl ?_
  refine ev_nx (i := .newarray .int) (len := 2) (p' := 9) (s' := [.ref 160, .ref 159]) (n' := 160) (k := 160) (x := .inl (0, 16, .inl fun _ => 0)) (A' := nc + 1) (B' := ns + 16) rfl rfl rfl (by decide) ?_
  refine ev_px (i := .putfield 7) (len := 3) (p' := 12) (s' := []) (o' := .inr (11, [.ref 160, .int 0])) rfl rfl rfl ?_
  refine ev_hp (hp4 (F' := hA f cl_159) (A' := nc + 1) (B' := ns + 16) (by unfold cl_159; simp only [hA_app, hA_1, hA_0]) (by omega) (by omega)) ?_
  exact ev_vret rfl rfl rfl
def cl_161 : List (Nat × va_E) := [(161, .inr (11, [.ref 162, .int 0]))] ++ [(162, .inl (0, 16, .inl fun _ => 0))]
set_option maxHeartbeats 4000000 in
set_option maxRecDepth 100000 in
/-- GameTextModel$Numbers.<init>()V, cell 161 -/
theorem ct_44 {d : Nat} {f : Nat → va_E} {nc ns : Nat}  : vz_ev P0 (d + 1) 128 0 (lv_args 0 [.ref 161]) [] (161, va_up f 161 (.inr (11, [.null, .int 0])), nc, ns) (.inl none, (162, hA f cl_161, nc + 1, ns + 16)) := by
  refine ev_x (i := .aload_n 0) (len := 1) (p' := 1) (s' := [.ref 161]) rfl rfl rfl ?_
  refine ev_obj (d := d + 0) rfl rfl rfl rfl ?_
  refine ev_x (i := .aload_n 0) (len := 1) (p' := 5) (s' := [.ref 161]) rfl rfl rfl ?_
  refine ev_x (i := .bipush 16) (len := 2) (p' := 7) (s' := [.int 16, .ref 161]) rfl rfl rfl ?_
  refine ev_nx (i := .newarray .int) (len := 2) (p' := 9) (s' := [.ref 162, .ref 161]) (n' := 162) (k := 162) (x := .inl (0, 16, .inl fun _ => 0)) (A' := nc + 1) (B' := ns + 16) rfl rfl rfl (by decide) ?_
  refine ev_px (i := .putfield 7) (len := 3) (p' := 12) (s' := []) (o' := .inr (11, [.ref 162, .int 0])) rfl rfl rfl ?_
  refine ev_hp (hp4 (F' := hA f cl_161) (A' := nc + 1) (B' := ns + 16) (by unfold cl_161; simp only [hA_app, hA_1, hA_0]) (by omega) (by omega)) ?_
  exact ev_vret rfl rfl rfl
def cl_165 : List (Nat × va_E) := [(165, .inr (11, [.ref 166, .int 0]))] ++ [(166, .inl (0, 16, .inl fun _ => 0))]
set_option maxHeartbeats 4000000 in
set_option maxRecDepth 100000 in
/-- GameTextModel$Numbers.<init>()V, cell 165 -/
theorem ct_45 {d : Nat} {f : Nat → va_E} {nc ns : Nat}  : vz_ev P0 (d + 1) 128 0 (lv_args 0 [.ref 165]) [] (165, va_up f 165 (.inr (11, [.null, .int 0])), nc, ns) (.inl none, (166, hA f cl_165, nc + 1, ns + 16)) := by
  refine ev_x (i := .aload_n 0) (len := 1) (p' := 1) (s' := [.ref 165]) rfl rfl rfl ?_
  refine ev_obj (d := d + 0) rfl rfl rfl rfl ?_
  refine ev_x (i := .aload_n 0) (len := 1) (p' := 5) (s' := [.ref 165]) rfl rfl rfl ?_
  refine ev_x (i := .bipush 16) (len := 2) (p' := 7) (s' := [.int 16, .ref 165]) rfl rfl rfl ?_
  refine ev_nx (i := .newarray .int) (len := 2) (p' := 9) (s' := [.ref 166, .ref 165]) (n' := 166) (k := 166) (x := .inl (0, 16, .inl fun _ => 0)) (A' := nc + 1) (B' := ns + 16) rfl rfl rfl (by decide) ?_
  refine ev_px (i := .putfield 7) (len := 3) (p' := 12) (s' := []) (o' := .inr (11, [.ref 166, .int 0])) rfl rfl rfl ?_
  refine ev_hp (hp4 (F' := hA f cl_165) (A' := nc + 1) (B' := ns + 16) (by unfold cl_165; simp only [hA_app, hA_1, hA_0]) (by omega) (by omega)) ?_
  exact ev_vret rfl rfl rfl
def cl_175 : List (Nat × va_E) := [(175, .inr (11, [.ref 176, .int 0]))] ++ [(176, .inl (0, 16, .inl fun _ => 0))]
set_option maxHeartbeats 4000000 in
set_option maxRecDepth 100000 in
/-- GameTextModel$Numbers.<init>()V, cell 175 -/
theorem ct_46 {d : Nat} {f : Nat → va_E} {nc ns : Nat}  : vz_ev P0 (d + 1) 128 0 (lv_args 0 [.ref 175]) [] (175, va_up f 175 (.inr (11, [.null, .int 0])), nc, ns) (.inl none, (176, hA f cl_175, nc + 1, ns + 16)) := by
  refine ev_x (i := .aload_n 0) (len := 1) (p' := 1) (s' := [.ref 175]) rfl rfl rfl ?_
  refine ev_obj (d := d + 0) rfl rfl rfl rfl ?_
  refine ev_x (i := .aload_n 0) (len := 1) (p' := 5) (s' := [.ref 175]) rfl rfl rfl ?_
  refine ev_x (i := .bipush 16) (len := 2) (p' := 7) (s' := [.int 16, .ref 175]) rfl rfl rfl ?_
  refine ev_nx (i := .newarray .int) (len := 2) (p' := 9) (s' := [.ref 176, .ref 175]) (n' := 176) (k := 176) (x := .inl (0, 16, .inl fun _ => 0)) (A' := nc + 1) (B' := ns + 16) rfl rfl rfl (by decide) ?_
  refine ev_px (i := .putfield 7) (len := 3) (p' := 12) (s' := []) (o' := .inr (11, [.ref 176, .int 0])) rfl rfl rfl ?_
  refine ev_hp (hp4 (F' := hA f cl_175) (A' := nc + 1) (B' := ns + 16) (by unfold cl_175; simp only [hA_app, hA_1, hA_0]) (by omega) (by omega)) ?_
  exact ev_vret rfl rfl rfl
def cl_177 : List (Nat × va_E) := [(177, .inr (11, [.ref 178, .int 0]))] ++ [(178, .inl (0, 16, .inl fun _ => 0))]
set_option maxHeartbeats 4000000 in
set_option maxRecDepth 100000 in
/-- GameTextModel$Numbers.<init>()V, cell 177 -/
theorem ct_47 {d : Nat} {f : Nat → va_E} {nc ns : Nat}  : vz_ev P0 (d + 1) 128 0 (lv_args 0 [.ref 177]) [] (177, va_up f 177 (.inr (11, [.null, .int 0])), nc, ns) (.inl none, (178, hA f cl_177, nc + 1, ns + 16)) := by
  refine ev_x (i := .aload_n 0) (len := 1) (p' := 1) (s' := [.ref 177]) rfl rfl rfl ?_
  refine ev_obj (d := d + 0) rfl rfl rfl rfl ?_
  refine ev_x (i := .aload_n 0) (len := 1) (p' := 5) (s' := [.ref 177]) rfl rfl rfl ?_
  refine ev_x (i := .bipush 16) (len := 2) (p' := 7) (s' := [.int 16, .ref 177]) rfl rfl rfl ?_
  refine ev_nx (i := .newarray .int) (len := 2) (p' := 9) (s' := [.ref 178, .ref 177]) (n' := 178) (k := 178) (x := .inl (0, 16, .inl fun _ => 0)) (A' := nc + 1) (B' := ns + 16) rfl rfl rfl (by decide) ?_
  refine ev_px (i := .putfield 7) (len := 3) (p' := 12) (s' := []) (o' := .inr (11, [.ref 178, .int 0])) rfl rfl rfl ?_
  refine ev_hp (hp4 (F' := hA f cl_177) (A' := nc + 1) (B' := ns + 16) (by unfold cl_177; simp only [hA_app, hA_1, hA_0]) (by omega) (by omega)) ?_
  exact ev_vret rfl rfl rfl
def cl_179 : List (Nat × va_E) := [(179, .inr (11, [.ref 180, .int 0]))] ++ [(180, .inl (0, 16, .inl fun _ => 0))]
set_option maxHeartbeats 4000000 in
set_option maxRecDepth 100000 in
/-- GameTextModel$Numbers.<init>()V, cell 179 -/
theorem ct_48 {d : Nat} {f : Nat → va_E} {nc ns : Nat}  : vz_ev P0 (d + 1) 128 0 (lv_args 0 [.ref 179]) [] (179, va_up f 179 (.inr (11, [.null, .int 0])), nc, ns) (.inl none, (180, hA f cl_179, nc + 1, ns + 16)) := by
  refine ev_x (i := .aload_n 0) (len := 1) (p' := 1) (s' := [.ref 179]) rfl rfl rfl ?_
  refine ev_obj (d := d + 0) rfl rfl rfl rfl ?_
  refine ev_x (i := .aload_n 0) (len := 1) (p' := 5) (s' := [.ref 179]) rfl rfl rfl ?_
  refine ev_x (i := .bipush 16) (len := 2) (p' := 7) (s' := [.int 16, .ref 179]) rfl rfl rfl ?_
  refine ev_nx (i := .newarray .int) (len := 2) (p' := 9) (s' := [.ref 180, .ref 179]) (n' := 180) (k := 180) (x := .inl (0, 16, .inl fun _ => 0)) (A' := nc + 1) (B' := ns + 16) rfl rfl rfl (by decide) ?_
  refine ev_px (i := .putfield 7) (len := 3) (p' := 12) (s' := []) (o' := .inr (11, [.ref 180, .int 0])) rfl rfl rfl ?_
  refine ev_hp (hp4 (F' := hA f cl_179) (A' := nc + 1) (B' := ns + 16) (by unfold cl_179; simp only [hA_app, hA_1, hA_0]) (by omega) (by omega)) ?_
  exact ev_vret rfl rfl rfl
def cl_66 : List (Nat × va_E) := [(66, .inr (10, [.int 0, .ref 67, .ref 69, .ref 71, .ref 73, .ref 75, .ref 77, .int 0, .int 0, .ref 79, .ref 115, .int 0, .int (-1), .ref 151, .ref 153, .ref 155, .int 0, .int 0, .ref 157, .ref 159, .ref 161, .ref 163, .ref 164, .int 0, .ref 165, .ref 167, .ref 168, .ref 169, .ref 170, .int 0, .int (-1), .ref 171, .ref 172, .ref 173, .ref 174, .ref 175, .ref 177, .ref 179, .int 0, .ref 181, .ref 182, .ref 183, .ref 184, .ref 185, .ref 186]))] ++ [(186, .inl (1, 8, .inr (.inl fun _ => 0))), (185, .inl (1, 8, .inr (.inl fun _ => 0))), (184, .inl (0, 12, .inl fun _ => 0)), (183, .inl (1, 4096, .inr (.inl fun _ => 0))), (182, .inl (1, 4096, .inr (.inl fun _ => 0))), (181, .inl (0, 4096, .inl fun _ => 0))] ++ cl_179 ++ cl_177 ++ cl_175 ++ [(174, .inl (0, 512, .inl fun _ => 0)), (173, .inl (0, 512, .inl fun _ => 0)), (172, .inl (0, 512, .inl fun _ => 0)), (171, .inl (0, 6144, .inl fun _ => 0)), (170, .inl (1, 60, .inr (.inl fun _ => 0))), (169, .inl (1, 60, .inr (.inl fun _ => 0))), (168, .inl (2, 60, .inl fun _ => 0)), (167, .inl (0, 12, .inl fun _ => 0))] ++ cl_165 ++ [(164, .inl (1, 16400, .inr (.inl fun _ => 0))), (163, .inl (1, 16400, .inr (.inl fun _ => 0)))] ++ cl_161 ++ cl_159 ++ cl_157 ++ cl_155 ++ cl_153 ++ cl_151 ++ cl_115 ++ cl_79 ++ cl_77 ++ cl_75 ++ cl_73 ++ cl_71 ++ cl_69 ++ cl_67
set_option maxHeartbeats 4000000 in
set_option maxRecDepth 100000 in
/-- GameTextModel.<init>()V, cell 66 -/
theorem ct_49 {d : Nat} {f : Nat → va_E} {nc ns : Nat}  : vz_ev P0 (d + 3) 127 0 (lv_args 0 [.ref 66]) [] (66, va_up f 66 (.inr (10, [.int 0, .null, .null, .null, .null, .null, .null, .int 0, .int 0, .null, .null, .int 0, .int 0, .null, .null, .null, .int 0, .int 0, .null, .null, .null, .null, .null, .int 0, .null, .null, .null, .null, .null, .int 0, .int 0, .null, .null, .null, .null, .null, .null, .null, .int 0, .null, .null, .null, .null, .null, .null])), nc, ns) (.inl none, (186, hA f cl_66, nc + 120, ns + 58676)) := by
  refine ev_x (i := .aload_n 0) (len := 1) (p' := 1) (s' := [.ref 66]) rfl rfl rfl ?_
  refine ev_obj (d := d + 2) rfl rfl rfl rfl ?_
  refine ev_x (i := .aload_n 0) (len := 1) (p' := 5) (s' := [.ref 66]) rfl rfl rfl ?_
  refine ev_x (i := .new 7) (len := 3) (p' := 8) (s' := [.ref 67, .ref 66]) (μ' := (67, va_up (va_up (f) 66 (.inr (10, [.int 0, .null, .null, .null, .null, .null, .null, .int 0, .int 0, .null, .null, .int 0, .int 0, .null, .null, .null, .int 0, .int 0, .null, .null, .null, .null, .null, .int 0, .null, .null, .null, .null, .null, .int 0, .int 0, .null, .null, .null, .null, .null, .null, .null, .int 0, .null, .null, .null, .null, .null, .null]))) 67 (.inr (11, [.null, .int 0])), nc + 1, ns + 2)) rfl rfl rfl ?_
  refine ev_x (i := .dup) (len := 1) (p' := 9) (s' := [.ref 67, .ref 67, .ref 66]) rfl rfl rfl ?_
  refine ev_callI (d := d + 2) (As := []) (a := 67) rfl rfl rfl rfl rfl rfl rfl rfl (ct_13 (d := d + 1) ) ?_
  refine ev_hp (hp1 (hA_cm rfl)) ?_
  refine ev_px (i := .putfield 10) (len := 3) (p' := 15) (s' := []) (o' := .inr (10, [.int 0, .ref 67, .null, .null, .null, .null, .null, .int 0, .int 0, .null, .null, .int 0, .int 0, .null, .null, .null, .int 0, .int 0, .null, .null, .null, .null, .null, .int 0, .null, .null, .null, .null, .null, .int 0, .int 0, .null, .null, .null, .null, .null, .null, .null, .int 0, .null, .null, .null, .null, .null, .null])) rfl rfl rfl ?_
  refine ev_x (i := .aload_n 0) (len := 1) (p' := 16) (s' := [.ref 66]) rfl rfl rfl ?_
  refine ev_x (i := .new 7) (len := 3) (p' := 19) (s' := [.ref 69, .ref 66]) (μ' := (69, va_up (va_up (hA f cl_67) 66 (.inr (10, [.int 0, .ref 67, .null, .null, .null, .null, .null, .int 0, .int 0, .null, .null, .int 0, .int 0, .null, .null, .null, .int 0, .int 0, .null, .null, .null, .null, .null, .int 0, .null, .null, .null, .null, .null, .int 0, .int 0, .null, .null, .null, .null, .null, .null, .null, .int 0, .null, .null, .null, .null, .null, .null]))) 69 (.inr (11, [.null, .int 0])), nc + 1 + 1 + 1, ns + 2 + 16 + 2)) rfl rfl rfl ?_
  refine ev_x (i := .dup) (len := 1) (p' := 20) (s' := [.ref 69, .ref 69, .ref 66]) rfl rfl rfl ?_
  refine ev_callI (d := d + 2) (As := []) (a := 69) rfl rfl rfl rfl rfl rfl rfl rfl (ct_14 (d := d + 1) ) ?_
  refine ev_hp (hp1 (hA_cm rfl)) ?_
  refine ev_px (i := .putfield 16) (len := 3) (p' := 26) (s' := []) (o' := .inr (10, [.int 0, .ref 67, .ref 69, .null, .null, .null, .null, .int 0, .int 0, .null, .null, .int 0, .int 0, .null, .null, .null, .int 0, .int 0, .null, .null, .null, .null, .null, .int 0, .null, .null, .null, .null, .null, .int 0, .int 0, .null, .null, .null, .null, .null, .null, .null, .int 0, .null, .null, .null, .null, .null, .null])) rfl rfl rfl ?_
  refine ev_x (i := .aload_n 0) (len := 1) (p' := 27) (s' := [.ref 66]) rfl rfl rfl ?_
  refine ev_x (i := .new 7) (len := 3) (p' := 30) (s' := [.ref 71, .ref 66]) (μ' := (71, va_up (va_up (hA (hA f cl_67) cl_69) 66 (.inr (10, [.int 0, .ref 67, .ref 69, .null, .null, .null, .null, .int 0, .int 0, .null, .null, .int 0, .int 0, .null, .null, .null, .int 0, .int 0, .null, .null, .null, .null, .null, .int 0, .null, .null, .null, .null, .null, .int 0, .int 0, .null, .null, .null, .null, .null, .null, .null, .int 0, .null, .null, .null, .null, .null, .null]))) 71 (.inr (11, [.null, .int 0])), nc + 1 + 1 + 1 + 1 + 1, ns + 2 + 16 + 2 + 16 + 2)) rfl rfl rfl ?_
  refine ev_x (i := .dup) (len := 1) (p' := 31) (s' := [.ref 71, .ref 71, .ref 66]) rfl rfl rfl ?_
  refine ev_callI (d := d + 2) (As := []) (a := 71) rfl rfl rfl rfl rfl rfl rfl rfl (ct_15 (d := d + 1) ) ?_
  refine ev_hp (hp1 (hA_cm rfl)) ?_
  refine ev_px (i := .putfield 19) (len := 3) (p' := 37) (s' := []) (o' := .inr (10, [.int 0, .ref 67, .ref 69, .ref 71, .null, .null, .null, .int 0, .int 0, .null, .null, .int 0, .int 0, .null, .null, .null, .int 0, .int 0, .null, .null, .null, .null, .null, .int 0, .null, .null, .null, .null, .null, .int 0, .int 0, .null, .null, .null, .null, .null, .null, .null, .int 0, .null, .null, .null, .null, .null, .null])) rfl rfl rfl ?_
  refine ev_x (i := .aload_n 0) (len := 1) (p' := 38) (s' := [.ref 66]) rfl rfl rfl ?_
  refine ev_x (i := .new 7) (len := 3) (p' := 41) (s' := [.ref 73, .ref 66]) (μ' := (73, va_up (va_up (hA (hA (hA f cl_67) cl_69) cl_71) 66 (.inr (10, [.int 0, .ref 67, .ref 69, .ref 71, .null, .null, .null, .int 0, .int 0, .null, .null, .int 0, .int 0, .null, .null, .null, .int 0, .int 0, .null, .null, .null, .null, .null, .int 0, .null, .null, .null, .null, .null, .int 0, .int 0, .null, .null, .null, .null, .null, .null, .null, .int 0, .null, .null, .null, .null, .null, .null]))) 73 (.inr (11, [.null, .int 0])), nc + 1 + 1 + 1 + 1 + 1 + 1 + 1, ns + 2 + 16 + 2 + 16 + 2 + 16 + 2)) rfl rfl rfl ?_
  refine ev_x (i := .dup) (len := 1) (p' := 42) (s' := [.ref 73, .ref 73, .ref 66]) rfl rfl rfl ?_
  refine ev_callI (d := d + 2) (As := []) (a := 73) rfl rfl rfl rfl rfl rfl rfl rfl (ct_16 (d := d + 1) ) ?_
  refine ev_hp (hp1 (hA_cm rfl)) ?_
  refine ev_px (i := .putfield 22) (len := 3) (p' := 48) (s' := []) (o' := .inr (10, [.int 0, .ref 67, .ref 69, .ref 71, .ref 73, .null, .null, .int 0, .int 0, .null, .null, .int 0, .int 0, .null, .null, .null, .int 0, .int 0, .null, .null, .null, .null, .null, .int 0, .null, .null, .null, .null, .null, .int 0, .int 0, .null, .null, .null, .null, .null, .null, .null, .int 0, .null, .null, .null, .null, .null, .null])) rfl rfl rfl ?_
  refine ev_x (i := .aload_n 0) (len := 1) (p' := 49) (s' := [.ref 66]) rfl rfl rfl ?_
  refine ev_x (i := .new 7) (len := 3) (p' := 52) (s' := [.ref 75, .ref 66]) (μ' := (75, va_up (va_up (hA (hA (hA (hA f cl_67) cl_69) cl_71) cl_73) 66 (.inr (10, [.int 0, .ref 67, .ref 69, .ref 71, .ref 73, .null, .null, .int 0, .int 0, .null, .null, .int 0, .int 0, .null, .null, .null, .int 0, .int 0, .null, .null, .null, .null, .null, .int 0, .null, .null, .null, .null, .null, .int 0, .int 0, .null, .null, .null, .null, .null, .null, .null, .int 0, .null, .null, .null, .null, .null, .null]))) 75 (.inr (11, [.null, .int 0])), nc + 1 + 1 + 1 + 1 + 1 + 1 + 1 + 1 + 1, ns + 2 + 16 + 2 + 16 + 2 + 16 + 2 + 16 + 2)) rfl rfl rfl ?_
  refine ev_x (i := .dup) (len := 1) (p' := 53) (s' := [.ref 75, .ref 75, .ref 66]) rfl rfl rfl ?_
  refine ev_callI (d := d + 2) (As := []) (a := 75) rfl rfl rfl rfl rfl rfl rfl rfl (ct_17 (d := d + 1) ) ?_
  refine ev_hp (hp1 (hA_cm rfl)) ?_
  refine ev_px (i := .putfield 25) (len := 3) (p' := 59) (s' := []) (o' := .inr (10, [.int 0, .ref 67, .ref 69, .ref 71, .ref 73, .ref 75, .null, .int 0, .int 0, .null, .null, .int 0, .int 0, .null, .null, .null, .int 0, .int 0, .null, .null, .null, .null, .null, .int 0, .null, .null, .null, .null, .null, .int 0, .int 0, .null, .null, .null, .null, .null, .null, .null, .int 0, .null, .null, .null, .null, .null, .null])) rfl rfl rfl ?_
  refine ev_x (i := .aload_n 0) (len := 1) (p' := 60) (s' := [.ref 66]) rfl rfl rfl ?_
  refine ev_x (i := .new 7) (len := 3) (p' := 63) (s' := [.ref 77, .ref 66]) (μ' := (77, va_up (va_up (hA (hA (hA (hA (hA f cl_67) cl_69) cl_71) cl_73) cl_75) 66 (.inr (10, [.int 0, .ref 67, .ref 69, .ref 71, .ref 73, .ref 75, .null, .int 0, .int 0, .null, .null, .int 0, .int 0, .null, .null, .null, .int 0, .int 0, .null, .null, .null, .null, .null, .int 0, .null, .null, .null, .null, .null, .int 0, .int 0, .null, .null, .null, .null, .null, .null, .null, .int 0, .null, .null, .null, .null, .null, .null]))) 77 (.inr (11, [.null, .int 0])), nc + 1 + 1 + 1 + 1 + 1 + 1 + 1 + 1 + 1 + 1 + 1, ns + 2 + 16 + 2 + 16 + 2 + 16 + 2 + 16 + 2 + 16 + 2)) rfl rfl rfl ?_
  refine ev_x (i := .dup) (len := 1) (p' := 64) (s' := [.ref 77, .ref 77, .ref 66]) rfl rfl rfl ?_
  refine ev_callI (d := d + 2) (As := []) (a := 77) rfl rfl rfl rfl rfl rfl rfl rfl (ct_18 (d := d + 1) ) ?_
  refine ev_hp (hp1 (hA_cm rfl)) ?_
  refine ev_px (i := .putfield 28) (len := 3) (p' := 70) (s' := []) (o' := .inr (10, [.int 0, .ref 67, .ref 69, .ref 71, .ref 73, .ref 75, .ref 77, .int 0, .int 0, .null, .null, .int 0, .int 0, .null, .null, .null, .int 0, .int 0, .null, .null, .null, .null, .null, .int 0, .null, .null, .null, .null, .null, .int 0, .int 0, .null, .null, .null, .null, .null, .null, .null, .int 0, .null, .null, .null, .null, .null, .null])) rfl rfl rfl ?_
  refine ev_x (i := .aload_n 0) (len := 1) (p' := 71) (s' := [.ref 66]) rfl rfl rfl ?_
  refine ev_x (i := .new 31) (len := 3) (p' := 74) (s' := [.ref 79, .ref 66]) (μ' := (79, va_up (va_up (hA (hA (hA (hA (hA (hA f cl_67) cl_69) cl_71) cl_73) cl_75) cl_77) 66 (.inr (10, [.int 0, .ref 67, .ref 69, .ref 71, .ref 73, .ref 75, .ref 77, .int 0, .int 0, .null, .null, .int 0, .int 0, .null, .null, .null, .int 0, .int 0, .null, .null, .null, .null, .null, .int 0, .null, .null, .null, .null, .null, .int 0, .int 0, .null, .null, .null, .null, .null, .null, .null, .int 0, .null, .null, .null, .null, .null, .null]))) 79 (.inr (12, [.null, .null, .null, .null, .null, .null, .int 0, .null, .null, .null, .null, .null, .int 0, .null, .null, .null, .null, .int 0, .int 0, .null, .null, .null, .null, .null, .null, .null, .null, .null, .null, .null])), nc + 1 + 1 + 1 + 1 + 1 + 1 + 1 + 1 + 1 + 1 + 1 + 1 + 1, ns + 2 + 16 + 2 + 16 + 2 + 16 + 2 + 16 + 2 + 16 + 2 + 16 + 30)) rfl rfl rfl ?_
  refine ev_x (i := .dup) (len := 1) (p' := 75) (s' := [.ref 79, .ref 79, .ref 66]) rfl rfl rfl ?_
  refine ev_callI (d := d + 2) (As := []) (a := 79) rfl rfl rfl rfl rfl rfl rfl rfl (ct_28 (d := d + 0) ) ?_
  refine ev_hp (hp1 (hA_cm rfl)) ?_
  refine ev_px (i := .putfield 34) (len := 3) (p' := 81) (s' := []) (o' := .inr (10, [.int 0, .ref 67, .ref 69, .ref 71, .ref 73, .ref 75, .ref 77, .int 0, .int 0, .ref 79, .null, .int 0, .int 0, .null, .null, .null, .int 0, .int 0, .null, .null, .null, .null, .null, .int 0, .null, .null, .null, .null, .null, .int 0, .int 0, .null, .null, .null, .null, .null, .null, .null, .int 0, .null, .null, .null, .null, .null, .null])) rfl rfl rfl ?_
  refine ev_x (i := .aload_n 0) (len := 1) (p' := 82) (s' := [.ref 66]) rfl rfl rfl ?_
  refine ev_x (i := .new 31) (len := 3) (p' := 85) (s' := [.ref 115, .ref 66]) (μ' := (115, va_up (va_up (hA (hA (hA (hA (hA (hA (hA f cl_67) cl_69) cl_71) cl_73) cl_75) cl_77) cl_79) 66 (.inr (10, [.int 0, .ref 67, .ref 69, .ref 71, .ref 73, .ref 75, .ref 77, .int 0, .int 0, .ref 79, .null, .int 0, .int 0, .null, .null, .null, .int 0, .int 0, .null, .null, .null, .null, .null, .int 0, .null, .null, .null, .null, .null, .int 0, .int 0, .null, .null, .null, .null, .null, .null, .null, .int 0, .null, .null, .null, .null, .null, .null]))) 115 (.inr (12, [.null, .null, .null, .null, .null, .null, .int 0, .null, .null, .null, .null, .null, .int 0, .null, .null, .null, .null, .int 0, .int 0, .null, .null, .null, .null, .null, .null, .null, .null, .null, .null, .null])), nc + 1 + 1 + 1 + 1 + 1 + 1 + 1 + 1 + 1 + 1 + 1 + 1 + 1 + 35 + 1, ns + 2 + 16 + 2 + 16 + 2 + 16 + 2 + 16 + 2 + 16 + 2 + 16 + 30 + 2670 + 30)) rfl rfl rfl ?_
  refine ev_x (i := .dup) (len := 1) (p' := 86) (s' := [.ref 115, .ref 115, .ref 66]) rfl rfl rfl ?_
  refine ev_callI (d := d + 2) (As := []) (a := 115) rfl rfl rfl rfl rfl rfl rfl rfl (ct_38 (d := d + 0) ) ?_
  refine ev_hp (hp1 (hA_cm rfl)) ?_
  refine ev_px (i := .putfield 38) (len := 3) (p' := 92) (s' := []) (o' := .inr (10, [.int 0, .ref 67, .ref 69, .ref 71, .ref 73, .ref 75, .ref 77, .int 0, .int 0, .ref 79, .ref 115, .int 0, .int 0, .null, .null, .null, .int 0, .int 0, .null, .null, .null, .null, .null, .int 0, .null, .null, .null, .null, .null, .int 0, .int 0, .null, .null, .null, .null, .null, .null, .null, .int 0, .null, .null, .null, .null, .null, .null])) rfl rfl rfl ?_
  refine ev_x (i := .aload_n 0) (len := 1) (p' := 93) (s' := [.ref 66]) rfl rfl rfl ?_
  refine ev_x (i := .iconst (-1)) (len := 1) (p' := 94) (s' := [.int (-1), .ref 66]) rfl rfl rfl ?_
  refine ev_px (i := .putfield 41) (len := 3) (p' := 97) (s' := []) (o' := .inr (10, [.int 0, .ref 67, .ref 69, .ref 71, .ref 73, .ref 75, .ref 77, .int 0, .int 0, .ref 79, .ref 115, .int 0, .int (-1), .null, .null, .null, .int 0, .int 0, .null, .null, .null, .null, .null, .int 0, .null, .null, .null, .null, .null, .int 0, .int 0, .null, .null, .null, .null, .null, .null, .null, .int 0, .null, .null, .null, .null, .null, .null])) rfl rfl rfl ?_
  refine ev_x (i := .aload_n 0) (len := 1) (p' := 98) (s' := [.ref 66]) rfl rfl rfl ?_
  refine ev_x (i := .new 7) (len := 3) (p' := 101) (s' := [.ref 151, .ref 66]) (μ' := (151, va_up (va_up (hA (hA (hA (hA (hA (hA (hA (hA f cl_67) cl_69) cl_71) cl_73) cl_75) cl_77) cl_79) cl_115) 66 (.inr (10, [.int 0, .ref 67, .ref 69, .ref 71, .ref 73, .ref 75, .ref 77, .int 0, .int 0, .ref 79, .ref 115, .int 0, .int (-1), .null, .null, .null, .int 0, .int 0, .null, .null, .null, .null, .null, .int 0, .null, .null, .null, .null, .null, .int 0, .int 0, .null, .null, .null, .null, .null, .null, .null, .int 0, .null, .null, .null, .null, .null, .null]))) 151 (.inr (11, [.null, .int 0])), nc + 1 + 1 + 1 + 1 + 1 + 1 + 1 + 1 + 1 + 1 + 1 + 1 + 1 + 35 + 1 + 35 + 1, ns + 2 + 16 + 2 + 16 + 2 + 16 + 2 + 16 + 2 + 16 + 2 + 16 + 30 + 2670 + 30 + 2670 + 2)) rfl rfl rfl ?_
  refine ev_x (i := .dup) (len := 1) (p' := 102) (s' := [.ref 151, .ref 151, .ref 66]) rfl rfl rfl ?_
  refine ev_callI (d := d + 2) (As := []) (a := 151) rfl rfl rfl rfl rfl rfl rfl rfl (ct_39 (d := d + 1) ) ?_
  refine ev_hp (hp1 (hA_cm rfl)) ?_
  refine ev_px (i := .putfield 45) (len := 3) (p' := 108) (s' := []) (o' := .inr (10, [.int 0, .ref 67, .ref 69, .ref 71, .ref 73, .ref 75, .ref 77, .int 0, .int 0, .ref 79, .ref 115, .int 0, .int (-1), .ref 151, .null, .null, .int 0, .int 0, .null, .null, .null, .null, .null, .int 0, .null, .null, .null, .null, .null, .int 0, .int 0, .null, .null, .null, .null, .null, .null, .null, .int 0, .null, .null, .null, .null, .null, .null])) rfl rfl rfl ?_
  refine ev_x (i := .aload_n 0) (len := 1) (p' := 109) (s' := [.ref 66]) rfl rfl rfl ?_
  refine ev_x (i := .new 7) (len := 3) (p' := 112) (s' := [.ref 153, .ref 66]) (μ' := (153, va_up (va_up (hA (hA (hA (hA (hA (hA (hA (hA (hA f cl_67) cl_69) cl_71) cl_73) cl_75) cl_77) cl_79) cl_115) cl_151) 66 (.inr (10, [.int 0, .ref 67, .ref 69, .ref 71, .ref 73, .ref 75, .ref 77, .int 0, .int 0, .ref 79, .ref 115, .int 0, .int (-1), .ref 151, .null, .null, .int 0, .int 0, .null, .null, .null, .null, .null, .int 0, .null, .null, .null, .null, .null, .int 0, .int 0, .null, .null, .null, .null, .null, .null, .null, .int 0, .null, .null, .null, .null, .null, .null]))) 153 (.inr (11, [.null, .int 0])), nc + 1 + 1 + 1 + 1 + 1 + 1 + 1 + 1 + 1 + 1 + 1 + 1 + 1 + 35 + 1 + 35 + 1 + 1 + 1, ns + 2 + 16 + 2 + 16 + 2 + 16 + 2 + 16 + 2 + 16 + 2 + 16 + 30 + 2670 + 30 + 2670 + 2 + 16 + 2)) rfl rfl rfl ?_
  refine ev_x (i := .dup) (len := 1) (p' := 113) (s' := [.ref 153, .ref 153, .ref 66]) rfl rfl rfl ?_
  refine ev_callI (d := d + 2) (As := []) (a := 153) rfl rfl rfl rfl rfl rfl rfl rfl (ct_40 (d := d + 1) ) ?_
  refine ev_hp (hp1 (hA_cm rfl)) ?_
  refine ev_px (i := .putfield 48) (len := 3) (p' := 119) (s' := []) (o' := .inr (10, [.int 0, .ref 67, .ref 69, .ref 71, .ref 73, .ref 75, .ref 77, .int 0, .int 0, .ref 79, .ref 115, .int 0, .int (-1), .ref 151, .ref 153, .null, .int 0, .int 0, .null, .null, .null, .null, .null, .int 0, .null, .null, .null, .null, .null, .int 0, .int 0, .null, .null, .null, .null, .null, .null, .null, .int 0, .null, .null, .null, .null, .null, .null])) rfl rfl rfl ?_
  refine ev_x (i := .aload_n 0) (len := 1) (p' := 120) (s' := [.ref 66]) rfl rfl rfl ?_
  refine ev_x (i := .new 7) (len := 3) (p' := 123) (s' := [.ref 155, .ref 66]) (μ' := (155, va_up (va_up (hA (hA (hA (hA (hA (hA (hA (hA (hA (hA f cl_67) cl_69) cl_71) cl_73) cl_75) cl_77) cl_79) cl_115) cl_151) cl_153) 66 (.inr (10, [.int 0, .ref 67, .ref 69, .ref 71, .ref 73, .ref 75, .ref 77, .int 0, .int 0, .ref 79, .ref 115, .int 0, .int (-1), .ref 151, .ref 153, .null, .int 0, .int 0, .null, .null, .null, .null, .null, .int 0, .null, .null, .null, .null, .null, .int 0, .int 0, .null, .null, .null, .null, .null, .null, .null, .int 0, .null, .null, .null, .null, .null, .null]))) 155 (.inr (11, [.null, .int 0])), nc + 1 + 1 + 1 + 1 + 1 + 1 + 1 + 1 + 1 + 1 + 1 + 1 + 1 + 35 + 1 + 35 + 1 + 1 + 1 + 1 + 1, ns + 2 + 16 + 2 + 16 + 2 + 16 + 2 + 16 + 2 + 16 + 2 + 16 + 30 + 2670 + 30 + 2670 + 2 + 16 + 2 + 16 + 2)) rfl rfl rfl ?_
  refine ev_x (i := .dup) (len := 1) (p' := 124) (s' := [.ref 155, .ref 155, .ref 66]) rfl rfl rfl ?_
  refine ev_callI (d := d + 2) (As := []) (a := 155) rfl rfl rfl rfl rfl rfl rfl rfl (ct_41 (d := d + 1) ) ?_
  refine ev_hp (hp1 (hA_cm rfl)) ?_
  refine ev_px (i := .putfield 51) (len := 3) (p' := 130) (s' := []) (o' := .inr (10, [.int 0, .ref 67, .ref 69, .ref 71, .ref 73, .ref 75, .ref 77, .int 0, .int 0, .ref 79, .ref 115, .int 0, .int (-1), .ref 151, .ref 153, .ref 155, .int 0, .int 0, .null, .null, .null, .null, .null, .int 0, .null, .null, .null, .null, .null, .int 0, .int 0, .null, .null, .null, .null, .null, .null, .null, .int 0, .null, .null, .null, .null, .null, .null])) rfl rfl rfl ?_
  refine ev_x (i := .aload_n 0) (len := 1) (p' := 131) (s' := [.ref 66]) rfl rfl rfl ?_
  refine ev_x (i := .new 7) (len := 3) (p' := 134) (s' := [.ref 157, .ref 66]) (μ' := (157, va_up (va_up (hA (hA (hA (hA (hA (hA (hA (hA (hA (hA (hA f cl_67) cl_69) cl_71) cl_73) cl_75) cl_77) cl_79) cl_115) cl_151) cl_153) cl_155) 66 (.inr (10, [.int 0, .ref 67, .ref 69, .ref 71, .ref 73, .ref 75, .ref 77, .int 0, .int 0, .ref 79, .ref 115, .int 0, .int (-1), .ref 151, .ref 153, .ref 155, .int 0, .int 0, .null, .null, .null, .null, .null, .int 0, .null, .null, .null, .null, .null, .int 0, .int 0, .null, .null, .null, .null, .null, .null, .null, .int 0, .null, .null, .null, .null, .null, .null]))) 157 (.inr (11, [.null, .int 0])), nc + 1 + 1 + 1 + 1 + 1 + 1 + 1 + 1 + 1 + 1 + 1 + 1 + 1 + 35 + 1 + 35 + 1 + 1 + 1 + 1 + 1 + 1 + 1, ns + 2 + 16 + 2 + 16 + 2 + 16 + 2 + 16 + 2 + 16 + 2 + 16 + 30 + 2670 + 30 + 2670 + 2 + 16 + 2 + 16 + 2 + 16 + 2)) rfl rfl rfl ?_
  refine ev_x (i := .dup) (len := 1) (p' := 135) (s' := [.ref 157, .ref 157, .ref 66]) rfl rfl rfl ?_
  refine ev_callI (d := d + 2) (As := []) (a := 157) rfl rfl rfl rfl rfl rfl rfl rfl (ct_42 (d := d + 1) ) ?_
  refine ev_hp (hp1 (hA_cm rfl)) ?_
  refine ev_px (i := .putfield 54) (len := 3) (p' := 141) (s' := []) (o' := .inr (10, [.int 0, .ref 67, .ref 69, .ref 71, .ref 73, .ref 75, .ref 77, .int 0, .int 0, .ref 79, .ref 115, .int 0, .int (-1), .ref 151, .ref 153, .ref 155, .int 0, .int 0, .ref 157, .null, .null, .null, .null, .int 0, .null, .null, .null, .null, .null, .int 0, .int 0, .null, .null, .null, .null, .null, .null, .null, .int 0, .null, .null, .null, .null, .null, .null])) rfl rfl rfl ?_
  refine ev_x (i := .aload_n 0) (len := 1) (p' := 142) (s' := [.ref 66]) rfl rfl rfl ?_
  refine ev_x (i := .new 7) (len := 3) (p' := 145) (s' := [.ref 159, .ref 66]) (μ' := (159, va_up (va_up (hA (hA (hA (hA (hA (hA (hA (hA (hA (hA (hA (hA f cl_67) cl_69) cl_71) cl_73) cl_75) cl_77) cl_79) cl_115) cl_151) cl_153) cl_155) cl_157) 66 (.inr (10, [.int 0, .ref 67, .ref 69, .ref 71, .ref 73, .ref 75, .ref 77, .int 0, .int 0, .ref 79, .ref 115, .int 0, .int (-1), .ref 151, .ref 153, .ref 155, .int 0, .int 0, .ref 157, .null, .null, .null, .null, .int 0, .null, .null, .null, .null, .null, .int 0, .int 0, .null, .null, .null, .null, .null, .null, .null, .int 0, .null, .null, .null, .null, .null, .null]))) 159 (.inr (11, [.null, .int 0])), nc + 1 + 1 + 1 + 1 + 1 + 1 + 1 + 1 + 1 + 1 + 1 + 1 + 1 + 35 + 1 + 35 + 1 + 1 + 1 + 1 + 1 + 1 + 1 + 1 + 1, ns + 2 + 16 + 2 + 16 + 2 + 16 + 2 + 16 + 2 + 16 + 2 + 16 + 30 + 2670 + 30 + 2670 + 2 + 16 + 2 + 16 + 2 + 16 + 2 + 16 + 2)) rfl rfl rfl ?_
  refine ev_x (i := .dup) (len := 1) (p' := 146) (s' := [.ref 159, .ref 159, .ref 66]) rfl rfl rfl ?_
  refine ev_callI (d := d + 2) (As := []) (a := 159) rfl rfl rfl rfl rfl rfl rfl rfl (ct_43 (d := d + 1) ) ?_
  refine ev_hp (hp1 (hA_cm rfl)) ?_
  refine ev_px (i := .putfield 57) (len := 3) (p' := 152) (s' := []) (o' := .inr (10, [.int 0, .ref 67, .ref 69, .ref 71, .ref 73, .ref 75, .ref 77, .int 0, .int 0, .ref 79, .ref 115, .int 0, .int (-1), .ref 151, .ref 153, .ref 155, .int 0, .int 0, .ref 157, .ref 159, .null, .null, .null, .int 0, .null, .null, .null, .null, .null, .int 0, .int 0, .null, .null, .null, .null, .null, .null, .null, .int 0, .null, .null, .null, .null, .null, .null])) rfl rfl rfl ?_
  refine ev_x (i := .aload_n 0) (len := 1) (p' := 153) (s' := [.ref 66]) rfl rfl rfl ?_
  refine ev_x (i := .new 7) (len := 3) (p' := 156) (s' := [.ref 161, .ref 66]) (μ' := (161, va_up (va_up (hA (hA (hA (hA (hA (hA (hA (hA (hA (hA (hA (hA (hA f cl_67) cl_69) cl_71) cl_73) cl_75) cl_77) cl_79) cl_115) cl_151) cl_153) cl_155) cl_157) cl_159) 66 (.inr (10, [.int 0, .ref 67, .ref 69, .ref 71, .ref 73, .ref 75, .ref 77, .int 0, .int 0, .ref 79, .ref 115, .int 0, .int (-1), .ref 151, .ref 153, .ref 155, .int 0, .int 0, .ref 157, .ref 159, .null, .null, .null, .int 0, .null, .null, .null, .null, .null, .int 0, .int 0, .null, .null, .null, .null, .null, .null, .null, .int 0, .null, .null, .null, .null, .null, .null]))) 161 (.inr (11, [.null, .int 0])), nc + 1 + 1 + 1 + 1 + 1 + 1 + 1 + 1 + 1 + 1 + 1 + 1 + 1 + 35 + 1 + 35 + 1 + 1 + 1 + 1 + 1 + 1 + 1 + 1 + 1 + 1 + 1, ns + 2 + 16 + 2 + 16 + 2 + 16 + 2 + 16 + 2 + 16 + 2 + 16 + 30 + 2670 + 30 + 2670 + 2 + 16 + 2 + 16 + 2 + 16 + 2 + 16 + 2 + 16 + 2)) rfl rfl rfl ?_
  refine ev_x (i := .dup) (len := 1) (p' := 157) (s' := [.ref 161, .ref 161, .ref 66]) rfl rfl rfl ?_
  refine ev_callI (d := d + 2) (As := []) (a := 161) rfl rfl rfl rfl rfl rfl rfl rfl (ct_44 (d := d + 1) ) ?_
  refine ev_hp (hp1 (hA_cm rfl)) ?_
  refine ev_px (i := .putfield 60) (len := 3) (p' := 163) (s' := []) (o' := .inr (10, [.int 0, .ref 67, .ref 69, .ref 71, .ref 73, .ref 75, .ref 77, .int 0, .int 0, .ref 79, .ref 115, .int 0, .int (-1), .ref 151, .ref 153, .ref 155, .int 0, .int 0, .ref 157, .ref 159, .ref 161, .null, .null, .int 0, .null, .null, .null, .null, .null, .int 0, .int 0, .null, .null, .null, .null, .null, .null, .null, .int 0, .null, .null, .null, .null, .null, .null])) rfl rfl rfl ?_
  refine ev_x (i := .aload_n 0) (len := 1) (p' := 164) (s' := [.ref 66]) rfl rfl rfl ?_
  refine ev_x (i := .sipush 16400) (len := 3) (p' := 167) (s' := [.int 16400, .ref 66]) rfl rfl rfl ?_
  refine ev_nx (i := .newarray .long) (len := 2) (p' := 169) (s' := [.ref 163, .ref 66]) (n' := 163) (k := 163) (x := .inl (1, 16400, .inr (.inl fun _ => 0))) (A' := nc + 1 + 1 + 1 + 1 + 1 + 1 + 1 + 1 + 1 + 1 + 1 + 1 + 1 + 35 + 1 + 35 + 1 + 1 + 1 + 1 + 1 + 1 + 1 + 1 + 1 + 1 + 1 + 1 + 1) (B' := ns + 2 + 16 + 2 + 16 + 2 + 16 + 2 + 16 + 2 + 16 + 2 + 16 + 30 + 2670 + 30 + 2670 + 2 + 16 + 2 + 16 + 2 + 16 + 2 + 16 + 2 + 16 + 2 + 16 + 16400) rfl rfl rfl (by decide) ?_
  refine ev_px (i := .putfield 63) (len := 3) (p' := 172) (s' := []) (o' := .inr (10, [.int 0, .ref 67, .ref 69, .ref 71, .ref 73, .ref 75, .ref 77, .int 0, .int 0, .ref 79, .ref 115, .int 0, .int (-1), .ref 151, .ref 153, .ref 155, .int 0, .int 0, .ref 157, .ref 159, .ref 161, .ref 163, .null, .int 0, .null, .null, .null, .null, .null, .int 0, .int 0, .null, .null, .null, .null, .null, .null, .null, .int 0, .null, .null, .null, .null, .null, .null])) rfl rfl rfl ?_
  refine ev_x (i := .aload_n 0) (len := 1) (p' := 173) (s' := [.ref 66]) rfl rfl rfl ?_
  refine ev_x (i := .sipush 16400) (len := 3) (p' := 176) (s' := [.int 16400, .ref 66]) rfl rfl rfl ?_
  refine ev_nx (i := .newarray .long) (len := 2) (p' := 178) (s' := [.ref 164, .ref 66]) (n' := 164) (k := 164) (x := .inl (1, 16400, .inr (.inl fun _ => 0))) (A' := nc + 1 + 1 + 1 + 1 + 1 + 1 + 1 + 1 + 1 + 1 + 1 + 1 + 1 + 35 + 1 + 35 + 1 + 1 + 1 + 1 + 1 + 1 + 1 + 1 + 1 + 1 + 1 + 1 + 1 + 1) (B' := ns + 2 + 16 + 2 + 16 + 2 + 16 + 2 + 16 + 2 + 16 + 2 + 16 + 30 + 2670 + 30 + 2670 + 2 + 16 + 2 + 16 + 2 + 16 + 2 + 16 + 2 + 16 + 2 + 16 + 16400 + 16400) rfl rfl rfl (by decide) ?_
  refine ev_px (i := .putfield 67) (len := 3) (p' := 181) (s' := []) (o' := .inr (10, [.int 0, .ref 67, .ref 69, .ref 71, .ref 73, .ref 75, .ref 77, .int 0, .int 0, .ref 79, .ref 115, .int 0, .int (-1), .ref 151, .ref 153, .ref 155, .int 0, .int 0, .ref 157, .ref 159, .ref 161, .ref 163, .ref 164, .int 0, .null, .null, .null, .null, .null, .int 0, .int 0, .null, .null, .null, .null, .null, .null, .null, .int 0, .null, .null, .null, .null, .null, .null])) rfl rfl rfl ?_
  refine ev_x (i := .aload_n 0) (len := 1) (p' := 182) (s' := [.ref 66]) rfl rfl rfl ?_
  refine ev_x (i := .new 7) (len := 3) (p' := 185) (s' := [.ref 165, .ref 66]) (μ' := (165, va_up (va_up (va_up (va_up (hA (hA (hA (hA (hA (hA (hA (hA (hA (hA (hA (hA (hA (hA f cl_67) cl_69) cl_71) cl_73) cl_75) cl_77) cl_79) cl_115) cl_151) cl_153) cl_155) cl_157) cl_159) cl_161) 163 (.inl (1, 16400, .inr (.inl fun _ => 0)))) 164 (.inl (1, 16400, .inr (.inl fun _ => 0)))) 66 (.inr (10, [.int 0, .ref 67, .ref 69, .ref 71, .ref 73, .ref 75, .ref 77, .int 0, .int 0, .ref 79, .ref 115, .int 0, .int (-1), .ref 151, .ref 153, .ref 155, .int 0, .int 0, .ref 157, .ref 159, .ref 161, .ref 163, .ref 164, .int 0, .null, .null, .null, .null, .null, .int 0, .int 0, .null, .null, .null, .null, .null, .null, .null, .int 0, .null, .null, .null, .null, .null, .null]))) 165 (.inr (11, [.null, .int 0])), nc + 1 + 1 + 1 + 1 + 1 + 1 + 1 + 1 + 1 + 1 + 1 + 1 + 1 + 35 + 1 + 35 + 1 + 1 + 1 + 1 + 1 + 1 + 1 + 1 + 1 + 1 + 1 + 1 + 1 + 1 + 1, ns + 2 + 16 + 2 + 16 + 2 + 16 + 2 + 16 + 2 + 16 + 2 + 16 + 30 + 2670 + 30 + 2670 + 2 + 16 + 2 + 16 + 2 + 16 + 2 + 16 + 2 + 16 + 2 + 16 + 16400 + 16400 + 2)) rfl rfl rfl ?_
  refine ev_x (i := .dup) (len := 1) (p' := 186) (s' := [.ref 165, .ref 165, .ref 66]) rfl rfl rfl ?_
  refine ev_callI (d := d + 2) (As := []) (a := 165) rfl rfl rfl rfl rfl rfl rfl rfl (ct_45 (d := d + 1) ) ?_
  refine ev_hp (hp1 (hA_cm rfl)) ?_
  refine ev_px (i := .putfield 70) (len := 3) (p' := 192) (s' := []) (o' := .inr (10, [.int 0, .ref 67, .ref 69, .ref 71, .ref 73, .ref 75, .ref 77, .int 0, .int 0, .ref 79, .ref 115, .int 0, .int (-1), .ref 151, .ref 153, .ref 155, .int 0, .int 0, .ref 157, .ref 159, .ref 161, .ref 163, .ref 164, .int 0, .ref 165, .null, .null, .null, .null, .int 0, .int 0, .null, .null, .null, .null, .null, .null, .null, .int 0, .null, .null, .null, .null, .null, .null])) rfl rfl rfl ?_
  refine ev_x (i := .aload_n 0) (len := 1) (p' := 193) (s' := [.ref 66]) rfl rfl rfl ?_
  refine ev_x (i := .bipush 12) (len := 2) (p' := 195) (s' := [.int 12, .ref 66]) rfl rfl rfl ?_
  refine ev_nx (i := .newarray .int) (len := 2) (p' := 197) (s' := [.ref 167, .ref 66]) (n' := 167) (k := 167) (x := .inl (0, 12, .inl fun _ => 0)) (A' := nc + 1 + 1 + 1 + 1 + 1 + 1 + 1 + 1 + 1 + 1 + 1 + 1 + 1 + 35 + 1 + 35 + 1 + 1 + 1 + 1 + 1 + 1 + 1 + 1 + 1 + 1 + 1 + 1 + 1 + 1 + 1 + 1 + 1) (B' := ns + 2 + 16 + 2 + 16 + 2 + 16 + 2 + 16 + 2 + 16 + 2 + 16 + 30 + 2670 + 30 + 2670 + 2 + 16 + 2 + 16 + 2 + 16 + 2 + 16 + 2 + 16 + 2 + 16 + 16400 + 16400 + 2 + 16 + 12) rfl rfl rfl (by decide) ?_
  refine ev_px (i := .putfield 73) (len := 3) (p' := 200) (s' := []) (o' := .inr (10, [.int 0, .ref 67, .ref 69, .ref 71, .ref 73, .ref 75, .ref 77, .int 0, .int 0, .ref 79, .ref 115, .int 0, .int (-1), .ref 151, .ref 153, .ref 155, .int 0, .int 0, .ref 157, .ref 159, .ref 161, .ref 163, .ref 164, .int 0, .ref 165, .ref 167, .null, .null, .null, .int 0, .int 0, .null, .null, .null, .null, .null, .null, .null, .int 0, .null, .null, .null, .null, .null, .null])) rfl rfl rfl ?_
  refine ev_x (i := .aload_n 0) (len := 1) (p' := 201) (s' := [.ref 66]) rfl rfl rfl ?_
  refine ev_x (i := .bipush 60) (len := 2) (p' := 203) (s' := [.int 60, .ref 66]) rfl rfl rfl ?_
  refine ev_nx (i := .newarray .boolean) (len := 2) (p' := 205) (s' := [.ref 168, .ref 66]) (n' := 168) (k := 168) (x := .inl (2, 60, .inl fun _ => 0)) (A' := nc + 1 + 1 + 1 + 1 + 1 + 1 + 1 + 1 + 1 + 1 + 1 + 1 + 1 + 35 + 1 + 35 + 1 + 1 + 1 + 1 + 1 + 1 + 1 + 1 + 1 + 1 + 1 + 1 + 1 + 1 + 1 + 1 + 1 + 1) (B' := ns + 2 + 16 + 2 + 16 + 2 + 16 + 2 + 16 + 2 + 16 + 2 + 16 + 30 + 2670 + 30 + 2670 + 2 + 16 + 2 + 16 + 2 + 16 + 2 + 16 + 2 + 16 + 2 + 16 + 16400 + 16400 + 2 + 16 + 12 + 60) rfl rfl rfl (by decide) ?_
  refine ev_px (i := .putfield 77) (len := 3) (p' := 208) (s' := []) (o' := .inr (10, [.int 0, .ref 67, .ref 69, .ref 71, .ref 73, .ref 75, .ref 77, .int 0, .int 0, .ref 79, .ref 115, .int 0, .int (-1), .ref 151, .ref 153, .ref 155, .int 0, .int 0, .ref 157, .ref 159, .ref 161, .ref 163, .ref 164, .int 0, .ref 165, .ref 167, .ref 168, .null, .null, .int 0, .int 0, .null, .null, .null, .null, .null, .null, .null, .int 0, .null, .null, .null, .null, .null, .null])) rfl rfl rfl ?_
  refine ev_x (i := .aload_n 0) (len := 1) (p' := 209) (s' := [.ref 66]) rfl rfl rfl ?_
  refine ev_x (i := .bipush 60) (len := 2) (p' := 211) (s' := [.int 60, .ref 66]) rfl rfl rfl ?_
  refine ev_nx (i := .newarray .long) (len := 2) (p' := 213) (s' := [.ref 169, .ref 66]) (n' := 169) (k := 169) (x := .inl (1, 60, .inr (.inl fun _ => 0))) (A' := nc + 1 + 1 + 1 + 1 + 1 + 1 + 1 + 1 + 1 + 1 + 1 + 1 + 1 + 35 + 1 + 35 + 1 + 1 + 1 + 1 + 1 + 1 + 1 + 1 + 1 + 1 + 1 + 1 + 1 + 1 + 1 + 1 + 1 + 1 + 1) (B' := ns + 2 + 16 + 2 + 16 + 2 + 16 + 2 + 16 + 2 + 16 + 2 + 16 + 30 + 2670 + 30 + 2670 + 2 + 16 + 2 + 16 + 2 + 16 + 2 + 16 + 2 + 16 + 2 + 16 + 16400 + 16400 + 2 + 16 + 12 + 60 + 60) rfl rfl rfl (by decide) ?_
  refine ev_px (i := .putfield 81) (len := 3) (p' := 216) (s' := []) (o' := .inr (10, [.int 0, .ref 67, .ref 69, .ref 71, .ref 73, .ref 75, .ref 77, .int 0, .int 0, .ref 79, .ref 115, .int 0, .int (-1), .ref 151, .ref 153, .ref 155, .int 0, .int 0, .ref 157, .ref 159, .ref 161, .ref 163, .ref 164, .int 0, .ref 165, .ref 167, .ref 168, .ref 169, .null, .int 0, .int 0, .null, .null, .null, .null, .null, .null, .null, .int 0, .null, .null, .null, .null, .null, .null])) rfl rfl rfl ?_
  refine ev_x (i := .aload_n 0) (len := 1) (p' := 217) (s' := [.ref 66]) rfl rfl rfl ?_
  refine ev_x (i := .bipush 60) (len := 2) (p' := 219) (s' := [.int 60, .ref 66]) rfl rfl rfl ?_
  refine ev_nx (i := .newarray .long) (len := 2) (p' := 221) (s' := [.ref 170, .ref 66]) (n' := 170) (k := 170) (x := .inl (1, 60, .inr (.inl fun _ => 0))) (A' := nc + 1 + 1 + 1 + 1 + 1 + 1 + 1 + 1 + 1 + 1 + 1 + 1 + 1 + 35 + 1 + 35 + 1 + 1 + 1 + 1 + 1 + 1 + 1 + 1 + 1 + 1 + 1 + 1 + 1 + 1 + 1 + 1 + 1 + 1 + 1 + 1) (B' := ns + 2 + 16 + 2 + 16 + 2 + 16 + 2 + 16 + 2 + 16 + 2 + 16 + 30 + 2670 + 30 + 2670 + 2 + 16 + 2 + 16 + 2 + 16 + 2 + 16 + 2 + 16 + 2 + 16 + 16400 + 16400 + 2 + 16 + 12 + 60 + 60 + 60) rfl rfl rfl (by decide) ?_
  refine ev_px (i := .putfield 84) (len := 3) (p' := 224) (s' := []) (o' := .inr (10, [.int 0, .ref 67, .ref 69, .ref 71, .ref 73, .ref 75, .ref 77, .int 0, .int 0, .ref 79, .ref 115, .int 0, .int (-1), .ref 151, .ref 153, .ref 155, .int 0, .int 0, .ref 157, .ref 159, .ref 161, .ref 163, .ref 164, .int 0, .ref 165, .ref 167, .ref 168, .ref 169, .ref 170, .int 0, .int 0, .null, .null, .null, .null, .null, .null, .null, .int 0, .null, .null, .null, .null, .null, .null])) rfl rfl rfl ?_
  refine ev_x (i := .aload_n 0) (len := 1) (p' := 225) (s' := [.ref 66]) rfl rfl rfl ?_
  refine ev_x (i := .iconst (-1)) (len := 1) (p' := 226) (s' := [.int (-1), .ref 66]) rfl rfl rfl ?_
  refine ev_px (i := .putfield 87) (len := 3) (p' := 229) (s' := []) (o' := .inr (10, [.int 0, .ref 67, .ref 69, .ref 71, .ref 73, .ref 75, .ref 77, .int 0, .int 0, .ref 79, .ref 115, .int 0, .int (-1), .ref 151, .ref 153, .ref 155, .int 0, .int 0, .ref 157, .ref 159, .ref 161, .ref 163, .ref 164, .int 0, .ref 165, .ref 167, .ref 168, .ref 169, .ref 170, .int 0, .int (-1), .null, .null, .null, .null, .null, .null, .null, .int 0, .null, .null, .null, .null, .null, .null])) rfl rfl rfl ?_
  refine ev_x (i := .aload_n 0) (len := 1) (p' := 230) (s' := [.ref 66]) rfl rfl rfl ?_
  refine ev_x (i := .sipush 6144) (len := 3) (p' := 233) (s' := [.int 6144, .ref 66]) rfl rfl rfl ?_
  refine ev_nx (i := .newarray .int) (len := 2) (p' := 235) (s' := [.ref 171, .ref 66]) (n' := 171) (k := 171) (x := .inl (0, 6144, .inl fun _ => 0)) (A' := nc + 1 + 1 + 1 + 1 + 1 + 1 + 1 + 1 + 1 + 1 + 1 + 1 + 1 + 35 + 1 + 35 + 1 + 1 + 1 + 1 + 1 + 1 + 1 + 1 + 1 + 1 + 1 + 1 + 1 + 1 + 1 + 1 + 1 + 1 + 1 + 1 + 1) (B' := ns + 2 + 16 + 2 + 16 + 2 + 16 + 2 + 16 + 2 + 16 + 2 + 16 + 30 + 2670 + 30 + 2670 + 2 + 16 + 2 + 16 + 2 + 16 + 2 + 16 + 2 + 16 + 2 + 16 + 16400 + 16400 + 2 + 16 + 12 + 60 + 60 + 60 + 6144) rfl rfl rfl (by decide) ?_
  refine ev_px (i := .putfield 90) (len := 3) (p' := 238) (s' := []) (o' := .inr (10, [.int 0, .ref 67, .ref 69, .ref 71, .ref 73, .ref 75, .ref 77, .int 0, .int 0, .ref 79, .ref 115, .int 0, .int (-1), .ref 151, .ref 153, .ref 155, .int 0, .int 0, .ref 157, .ref 159, .ref 161, .ref 163, .ref 164, .int 0, .ref 165, .ref 167, .ref 168, .ref 169, .ref 170, .int 0, .int (-1), .ref 171, .null, .null, .null, .null, .null, .null, .int 0, .null, .null, .null, .null, .null, .null])) rfl rfl rfl ?_
  refine ev_x (i := .aload_n 0) (len := 1) (p' := 239) (s' := [.ref 66]) rfl rfl rfl ?_
  refine ev_x (i := .sipush 512) (len := 3) (p' := 242) (s' := [.int 512, .ref 66]) rfl rfl rfl ?_
  refine ev_nx (i := .newarray .int) (len := 2) (p' := 244) (s' := [.ref 172, .ref 66]) (n' := 172) (k := 172) (x := .inl (0, 512, .inl fun _ => 0)) (A' := nc + 1 + 1 + 1 + 1 + 1 + 1 + 1 + 1 + 1 + 1 + 1 + 1 + 1 + 35 + 1 + 35 + 1 + 1 + 1 + 1 + 1 + 1 + 1 + 1 + 1 + 1 + 1 + 1 + 1 + 1 + 1 + 1 + 1 + 1 + 1 + 1 + 1 + 1) (B' := ns + 2 + 16 + 2 + 16 + 2 + 16 + 2 + 16 + 2 + 16 + 2 + 16 + 30 + 2670 + 30 + 2670 + 2 + 16 + 2 + 16 + 2 + 16 + 2 + 16 + 2 + 16 + 2 + 16 + 16400 + 16400 + 2 + 16 + 12 + 60 + 60 + 60 + 6144 + 512) rfl rfl rfl (by decide) ?_
  refine ev_px (i := .putfield 93) (len := 3) (p' := 247) (s' := []) (o' := .inr (10, [.int 0, .ref 67, .ref 69, .ref 71, .ref 73, .ref 75, .ref 77, .int 0, .int 0, .ref 79, .ref 115, .int 0, .int (-1), .ref 151, .ref 153, .ref 155, .int 0, .int 0, .ref 157, .ref 159, .ref 161, .ref 163, .ref 164, .int 0, .ref 165, .ref 167, .ref 168, .ref 169, .ref 170, .int 0, .int (-1), .ref 171, .ref 172, .null, .null, .null, .null, .null, .int 0, .null, .null, .null, .null, .null, .null])) rfl rfl rfl ?_
  refine ev_x (i := .aload_n 0) (len := 1) (p' := 248) (s' := [.ref 66]) rfl rfl rfl ?_
  refine ev_x (i := .sipush 512) (len := 3) (p' := 251) (s' := [.int 512, .ref 66]) rfl rfl rfl ?_
  refine ev_nx (i := .newarray .int) (len := 2) (p' := 253) (s' := [.ref 173, .ref 66]) (n' := 173) (k := 173) (x := .inl (0, 512, .inl fun _ => 0)) (A' := nc + 1 + 1 + 1 + 1 + 1 + 1 + 1 + 1 + 1 + 1 + 1 + 1 + 1 + 35 + 1 + 35 + 1 + 1 + 1 + 1 + 1 + 1 + 1 + 1 + 1 + 1 + 1 + 1 + 1 + 1 + 1 + 1 + 1 + 1 + 1 + 1 + 1 + 1 + 1) (B' := ns + 2 + 16 + 2 + 16 + 2 + 16 + 2 + 16 + 2 + 16 + 2 + 16 + 30 + 2670 + 30 + 2670 + 2 + 16 + 2 + 16 + 2 + 16 + 2 + 16 + 2 + 16 + 2 + 16 + 16400 + 16400 + 2 + 16 + 12 + 60 + 60 + 60 + 6144 + 512 + 512) rfl rfl rfl (by decide) ?_
  refine ev_px (i := .putfield 96) (len := 3) (p' := 256) (s' := []) (o' := .inr (10, [.int 0, .ref 67, .ref 69, .ref 71, .ref 73, .ref 75, .ref 77, .int 0, .int 0, .ref 79, .ref 115, .int 0, .int (-1), .ref 151, .ref 153, .ref 155, .int 0, .int 0, .ref 157, .ref 159, .ref 161, .ref 163, .ref 164, .int 0, .ref 165, .ref 167, .ref 168, .ref 169, .ref 170, .int 0, .int (-1), .ref 171, .ref 172, .ref 173, .null, .null, .null, .null, .int 0, .null, .null, .null, .null, .null, .null])) rfl rfl rfl ?_
  refine ev_x (i := .aload_n 0) (len := 1) (p' := 257) (s' := [.ref 66]) rfl rfl rfl ?_
  refine ev_x (i := .sipush 512) (len := 3) (p' := 260) (s' := [.int 512, .ref 66]) rfl rfl rfl ?_
  refine ev_nx (i := .newarray .int) (len := 2) (p' := 262) (s' := [.ref 174, .ref 66]) (n' := 174) (k := 174) (x := .inl (0, 512, .inl fun _ => 0)) (A' := nc + 1 + 1 + 1 + 1 + 1 + 1 + 1 + 1 + 1 + 1 + 1 + 1 + 1 + 35 + 1 + 35 + 1 + 1 + 1 + 1 + 1 + 1 + 1 + 1 + 1 + 1 + 1 + 1 + 1 + 1 + 1 + 1 + 1 + 1 + 1 + 1 + 1 + 1 + 1 + 1) (B' := ns + 2 + 16 + 2 + 16 + 2 + 16 + 2 + 16 + 2 + 16 + 2 + 16 + 30 + 2670 + 30 + 2670 + 2 + 16 + 2 + 16 + 2 + 16 + 2 + 16 + 2 + 16 + 2 + 16 + 16400 + 16400 + 2 + 16 + 12 + 60 + 60 + 60 + 6144 + 512 + 512 + 512) rfl rfl rfl (by decide) ?_
  refine ev_px (i := .putfield 99) (len := 3) (p' := 265) (s' := []) (o' := .inr (10, [.int 0, .ref 67, .ref 69, .ref 71, .ref 73, .ref 75, .ref 77, .int 0, .int 0, .ref 79, .ref 115, .int 0, .int (-1), .ref 151, .ref 153, .ref 155, .int 0, .int 0, .ref 157, .ref 159, .ref 161, .ref 163, .ref 164, .int 0, .ref 165, .ref 167, .ref 168, .ref 169, .ref 170, .int 0, .int (-1), .ref 171, .ref 172, .ref 173, .ref 174, .null, .null, .null, .int 0, .null, .null, .null, .null, .null, .null])) rfl rfl rfl ?_
  refine ev_x (i := .aload_n 0) (len := 1) (p' := 266) (s' := [.ref 66]) rfl rfl rfl ?_
  refine ev_x (i := .new 7) (len := 3) (p' := 269) (s' := [.ref 175, .ref 66]) (μ' := (175, va_up (va_up (va_up (va_up (va_up (va_up (va_up (va_up (va_up (va_up (hA (va_up (va_up (hA (hA (hA (hA (hA (hA (hA (hA (hA (hA (hA (hA (hA (hA f cl_67) cl_69) cl_71) cl_73) cl_75) cl_77) cl_79) cl_115) cl_151) cl_153) cl_155) cl_157) cl_159) cl_161) 163 (.inl (1, 16400, .inr (.inl fun _ => 0)))) 164 (.inl (1, 16400, .inr (.inl fun _ => 0)))) cl_165) 167 (.inl (0, 12, .inl fun _ => 0))) 168 (.inl (2, 60, .inl fun _ => 0))) 169 (.inl (1, 60, .inr (.inl fun _ => 0)))) 170 (.inl (1, 60, .inr (.inl fun _ => 0)))) 171 (.inl (0, 6144, .inl fun _ => 0))) 172 (.inl (0, 512, .inl fun _ => 0))) 173 (.inl (0, 512, .inl fun _ => 0))) 174 (.inl (0, 512, .inl fun _ => 0))) 66 (.inr (10, [.int 0, .ref 67, .ref 69, .ref 71, .ref 73, .ref 75, .ref 77, .int 0, .int 0, .ref 79, .ref 115, .int 0, .int (-1), .ref 151, .ref 153, .ref 155, .int 0, .int 0, .ref 157, .ref 159, .ref 161, .ref 163, .ref 164, .int 0, .ref 165, .ref 167, .ref 168, .ref 169, .ref 170, .int 0, .int (-1), .ref 171, .ref 172, .ref 173, .ref 174, .null, .null, .null, .int 0, .null, .null, .null, .null, .null, .null]))) 175 (.inr (11, [.null, .int 0])), nc + 1 + 1 + 1 + 1 + 1 + 1 + 1 + 1 + 1 + 1 + 1 + 1 + 1 + 35 + 1 + 35 + 1 + 1 + 1 + 1 + 1 + 1 + 1 + 1 + 1 + 1 + 1 + 1 + 1 + 1 + 1 + 1 + 1 + 1 + 1 + 1 + 1 + 1 + 1 + 1 + 1, ns + 2 + 16 + 2 + 16 + 2 + 16 + 2 + 16 + 2 + 16 + 2 + 16 + 30 + 2670 + 30 + 2670 + 2 + 16 + 2 + 16 + 2 + 16 + 2 + 16 + 2 + 16 + 2 + 16 + 16400 + 16400 + 2 + 16 + 12 + 60 + 60 + 60 + 6144 + 512 + 512 + 512 + 2)) rfl rfl rfl ?_
  refine ev_x (i := .dup) (len := 1) (p' := 270) (s' := [.ref 175, .ref 175, .ref 66]) rfl rfl rfl ?_
  refine ev_callI (d := d + 2) (As := []) (a := 175) rfl rfl rfl rfl rfl rfl rfl rfl (ct_46 (d := d + 1) ) ?_
  refine ev_hp (hp1 (hA_cm rfl)) ?_
  refine ev_px (i := .putfield 102) (len := 3) (p' := 276) (s' := []) (o' := .inr (10, [.int 0, .ref 67, .ref 69, .ref 71, .ref 73, .ref 75, .ref 77, .int 0, .int 0, .ref 79, .ref 115, .int 0, .int (-1), .ref 151, .ref 153, .ref 155, .int 0, .int 0, .ref 157, .ref 159, .ref 161, .ref 163, .ref 164, .int 0, .ref 165, .ref 167, .ref 168, .ref 169, .ref 170, .int 0, .int (-1), .ref 171, .ref 172, .ref 173, .ref 174, .ref 175, .null, .null, .int 0, .null, .null, .null, .null, .null, .null])) rfl rfl rfl ?_
  refine ev_x (i := .aload_n 0) (len := 1) (p' := 277) (s' := [.ref 66]) rfl rfl rfl ?_
  refine ev_x (i := .new 7) (len := 3) (p' := 280) (s' := [.ref 177, .ref 66]) (μ' := (177, va_up (va_up (hA (va_up (va_up (va_up (va_up (va_up (va_up (va_up (va_up (hA (va_up (va_up (hA (hA (hA (hA (hA (hA (hA (hA (hA (hA (hA (hA (hA (hA f cl_67) cl_69) cl_71) cl_73) cl_75) cl_77) cl_79) cl_115) cl_151) cl_153) cl_155) cl_157) cl_159) cl_161) 163 (.inl (1, 16400, .inr (.inl fun _ => 0)))) 164 (.inl (1, 16400, .inr (.inl fun _ => 0)))) cl_165) 167 (.inl (0, 12, .inl fun _ => 0))) 168 (.inl (2, 60, .inl fun _ => 0))) 169 (.inl (1, 60, .inr (.inl fun _ => 0)))) 170 (.inl (1, 60, .inr (.inl fun _ => 0)))) 171 (.inl (0, 6144, .inl fun _ => 0))) 172 (.inl (0, 512, .inl fun _ => 0))) 173 (.inl (0, 512, .inl fun _ => 0))) 174 (.inl (0, 512, .inl fun _ => 0))) cl_175) 66 (.inr (10, [.int 0, .ref 67, .ref 69, .ref 71, .ref 73, .ref 75, .ref 77, .int 0, .int 0, .ref 79, .ref 115, .int 0, .int (-1), .ref 151, .ref 153, .ref 155, .int 0, .int 0, .ref 157, .ref 159, .ref 161, .ref 163, .ref 164, .int 0, .ref 165, .ref 167, .ref 168, .ref 169, .ref 170, .int 0, .int (-1), .ref 171, .ref 172, .ref 173, .ref 174, .ref 175, .null, .null, .int 0, .null, .null, .null, .null, .null, .null]))) 177 (.inr (11, [.null, .int 0])), nc + 1 + 1 + 1 + 1 + 1 + 1 + 1 + 1 + 1 + 1 + 1 + 1 + 1 + 35 + 1 + 35 + 1 + 1 + 1 + 1 + 1 + 1 + 1 + 1 + 1 + 1 + 1 + 1 + 1 + 1 + 1 + 1 + 1 + 1 + 1 + 1 + 1 + 1 + 1 + 1 + 1 + 1 + 1, ns + 2 + 16 + 2 + 16 + 2 + 16 + 2 + 16 + 2 + 16 + 2 + 16 + 30 + 2670 + 30 + 2670 + 2 + 16 + 2 + 16 + 2 + 16 + 2 + 16 + 2 + 16 + 2 + 16 + 16400 + 16400 + 2 + 16 + 12 + 60 + 60 + 60 + 6144 + 512 + 512 + 512 + 2 + 16 + 2)) rfl rfl rfl ?_
  refine ev_x (i := .dup) (len := 1) (p' := 281) (s' := [.ref 177, .ref 177, .ref 66]) rfl rfl rfl ?_
  refine ev_callI (d := d + 2) (As := []) (a := 177) rfl rfl rfl rfl rfl rfl rfl rfl (ct_47 (d := d + 1) ) ?_
  refine ev_hp (hp1 (hA_cm rfl)) ?_
  refine ev_px (i := .putfield 105) (len := 3) (p' := 287) (s' := []) (o' := .inr (10, [.int 0, .ref 67, .ref 69, .ref 71, .ref 73, .ref 75, .ref 77, .int 0, .int 0, .ref 79, .ref 115, .int 0, .int (-1), .ref 151, .ref 153, .ref 155, .int 0, .int 0, .ref 157, .ref 159, .ref 161, .ref 163, .ref 164, .int 0, .ref 165, .ref 167, .ref 168, .ref 169, .ref 170, .int 0, .int (-1), .ref 171, .ref 172, .ref 173, .ref 174, .ref 175, .ref 177, .null, .int 0, .null, .null, .null, .null, .null, .null])) rfl rfl rfl ?_
  refine ev_x (i := .aload_n 0) (len := 1) (p' := 288) (s' := [.ref 66]) rfl rfl rfl ?_
  refine ev_x (i := .new 7) (len := 3) (p' := 291) (s' := [.ref 179, .ref 66]) (μ' := (179, va_up (va_up (hA (hA (va_up (va_up (va_up (va_up (va_up (va_up (va_up (va_up (hA (va_up (va_up (hA (hA (hA (hA (hA (hA (hA (hA (hA (hA (hA (hA (hA (hA f cl_67) cl_69) cl_71) cl_73) cl_75) cl_77) cl_79) cl_115) cl_151) cl_153) cl_155) cl_157) cl_159) cl_161) 163 (.inl (1, 16400, .inr (.inl fun _ => 0)))) 164 (.inl (1, 16400, .inr (.inl fun _ => 0)))) cl_165) 167 (.inl (0, 12, .inl fun _ => 0))) 168 (.inl (2, 60, .inl fun _ => 0))) 169 (.inl (1, 60, .inr (.inl fun _ => 0)))) 170 (.inl (1, 60, .inr (.inl fun _ => 0)))) 171 (.inl (0, 6144, .inl fun _ => 0))) 172 (.inl (0, 512, .inl fun _ => 0))) 173 (.inl (0, 512, .inl fun _ => 0))) 174 (.inl (0, 512, .inl fun _ => 0))) cl_175) cl_177) 66 (.inr (10, [.int 0, .ref 67, .ref 69, .ref 71, .ref 73, .ref 75, .ref 77, .int 0, .int 0, .ref 79, .ref 115, .int 0, .int (-1), .ref 151, .ref 153, .ref 155, .int 0, .int 0, .ref 157, .ref 159, .ref 161, .ref 163, .ref 164, .int 0, .ref 165, .ref 167, .ref 168, .ref 169, .ref 170, .int 0, .int (-1), .ref 171, .ref 172, .ref 173, .ref 174, .ref 175, .ref 177, .null, .int 0, .null, .null, .null, .null, .null, .null]))) 179 (.inr (11, [.null, .int 0])), nc + 1 + 1 + 1 + 1 + 1 + 1 + 1 + 1 + 1 + 1 + 1 + 1 + 1 + 35 + 1 + 35 + 1 + 1 + 1 + 1 + 1 + 1 + 1 + 1 + 1 + 1 + 1 + 1 + 1 + 1 + 1 + 1 + 1 + 1 + 1 + 1 + 1 + 1 + 1 + 1 + 1 + 1 + 1 + 1 + 1, ns + 2 + 16 + 2 + 16 + 2 + 16 + 2 + 16 + 2 + 16 + 2 + 16 + 30 + 2670 + 30 + 2670 + 2 + 16 + 2 + 16 + 2 + 16 + 2 + 16 + 2 + 16 + 2 + 16 + 16400 + 16400 + 2 + 16 + 12 + 60 + 60 + 60 + 6144 + 512 + 512 + 512 + 2 + 16 + 2 + 16 + 2)) rfl rfl rfl ?_
  refine ev_x (i := .dup) (len := 1) (p' := 292) (s' := [.ref 179, .ref 179, .ref 66]) rfl rfl rfl ?_
  refine ev_callI (d := d + 2) (As := []) (a := 179) rfl rfl rfl rfl rfl rfl rfl rfl (ct_48 (d := d + 1) ) ?_
  refine ev_hp (hp1 (hA_cm rfl)) ?_
  refine ev_px (i := .putfield 108) (len := 3) (p' := 298) (s' := []) (o' := .inr (10, [.int 0, .ref 67, .ref 69, .ref 71, .ref 73, .ref 75, .ref 77, .int 0, .int 0, .ref 79, .ref 115, .int 0, .int (-1), .ref 151, .ref 153, .ref 155, .int 0, .int 0, .ref 157, .ref 159, .ref 161, .ref 163, .ref 164, .int 0, .ref 165, .ref 167, .ref 168, .ref 169, .ref 170, .int 0, .int (-1), .ref 171, .ref 172, .ref 173, .ref 174, .ref 175, .ref 177, .ref 179, .int 0, .null, .null, .null, .null, .null, .null])) rfl rfl rfl ?_
  refine ev_x (i := .aload_n 0) (len := 1) (p' := 299) (s' := [.ref 66]) rfl rfl rfl ?_
  refine ev_x (i := .sipush 4096) (len := 3) (p' := 302) (s' := [.int 4096, .ref 66]) rfl rfl rfl ?_
  refine ev_nx (i := .newarray .int) (len := 2) (p' := 304) (s' := [.ref 181, .ref 66]) (n' := 181) (k := 181) (x := .inl (0, 4096, .inl fun _ => 0)) (A' := nc + 1 + 1 + 1 + 1 + 1 + 1 + 1 + 1 + 1 + 1 + 1 + 1 + 1 + 35 + 1 + 35 + 1 + 1 + 1 + 1 + 1 + 1 + 1 + 1 + 1 + 1 + 1 + 1 + 1 + 1 + 1 + 1 + 1 + 1 + 1 + 1 + 1 + 1 + 1 + 1 + 1 + 1 + 1 + 1 + 1 + 1 + 1) (B' := ns + 2 + 16 + 2 + 16 + 2 + 16 + 2 + 16 + 2 + 16 + 2 + 16 + 30 + 2670 + 30 + 2670 + 2 + 16 + 2 + 16 + 2 + 16 + 2 + 16 + 2 + 16 + 2 + 16 + 16400 + 16400 + 2 + 16 + 12 + 60 + 60 + 60 + 6144 + 512 + 512 + 512 + 2 + 16 + 2 + 16 + 2 + 16 + 4096) rfl rfl rfl (by decide) ?_
  refine ev_px (i := .putfield 111) (len := 3) (p' := 307) (s' := []) (o' := .inr (10, [.int 0, .ref 67, .ref 69, .ref 71, .ref 73, .ref 75, .ref 77, .int 0, .int 0, .ref 79, .ref 115, .int 0, .int (-1), .ref 151, .ref 153, .ref 155, .int 0, .int 0, .ref 157, .ref 159, .ref 161, .ref 163, .ref 164, .int 0, .ref 165, .ref 167, .ref 168, .ref 169, .ref 170, .int 0, .int (-1), .ref 171, .ref 172, .ref 173, .ref 174, .ref 175, .ref 177, .ref 179, .int 0, .ref 181, .null, .null, .null, .null, .null])) rfl rfl rfl ?_
  refine ev_x (i := .aload_n 0) (len := 1) (p' := 308) (s' := [.ref 66]) rfl rfl rfl ?_
  refine ev_x (i := .sipush 4096) (len := 3) (p' := 311) (s' := [.int 4096, .ref 66]) rfl rfl rfl ?_
  refine ev_nx (i := .newarray .long) (len := 2) (p' := 313) (s' := [.ref 182, .ref 66]) (n' := 182) (k := 182) (x := .inl (1, 4096, .inr (.inl fun _ => 0))) (A' := nc + 1 + 1 + 1 + 1 + 1 + 1 + 1 + 1 + 1 + 1 + 1 + 1 + 1 + 35 + 1 + 35 + 1 + 1 + 1 + 1 + 1 + 1 + 1 + 1 + 1 + 1 + 1 + 1 + 1 + 1 + 1 + 1 + 1 + 1 + 1 + 1 + 1 + 1 + 1 + 1 + 1 + 1 + 1 + 1 + 1 + 1 + 1 + 1) (B' := ns + 2 + 16 + 2 + 16 + 2 + 16 + 2 + 16 + 2 + 16 + 2 + 16 + 30 + 2670 + 30 + 2670 + 2 + 16 + 2 + 16 + 2 + 16 + 2 + 16 + 2 + 16 + 2 + 16 + 16400 + 16400 + 2 + 16 + 12 + 60 + 60 + 60 + 6144 + 512 + 512 + 512 + 2 + 16 + 2 + 16 + 2 + 16 + 4096 + 4096) rfl rfl rfl (by decide) ?_
  refine ev_px (i := .putfield 114) (len := 3) (p' := 316) (s' := []) (o' := .inr (10, [.int 0, .ref 67, .ref 69, .ref 71, .ref 73, .ref 75, .ref 77, .int 0, .int 0, .ref 79, .ref 115, .int 0, .int (-1), .ref 151, .ref 153, .ref 155, .int 0, .int 0, .ref 157, .ref 159, .ref 161, .ref 163, .ref 164, .int 0, .ref 165, .ref 167, .ref 168, .ref 169, .ref 170, .int 0, .int (-1), .ref 171, .ref 172, .ref 173, .ref 174, .ref 175, .ref 177, .ref 179, .int 0, .ref 181, .ref 182, .null, .null, .null, .null])) rfl rfl rfl ?_
  refine ev_x (i := .aload_n 0) (len := 1) (p' := 317) (s' := [.ref 66]) rfl rfl rfl ?_
  refine ev_x (i := .sipush 4096) (len := 3) (p' := 320) (s' := [.int 4096, .ref 66]) rfl rfl rfl ?_
  refine ev_nx (i := .newarray .long) (len := 2) (p' := 322) (s' := [.ref 183, .ref 66]) (n' := 183) (k := 183) (x := .inl (1, 4096, .inr (.inl fun _ => 0))) (A' := nc + 1 + 1 + 1 + 1 + 1 + 1 + 1 + 1 + 1 + 1 + 1 + 1 + 1 + 35 + 1 + 35 + 1 + 1 + 1 + 1 + 1 + 1 + 1 + 1 + 1 + 1 + 1 + 1 + 1 + 1 + 1 + 1 + 1 + 1 + 1 + 1 + 1 + 1 + 1 + 1 + 1 + 1 + 1 + 1 + 1 + 1 + 1 + 1 + 1) (B' := ns + 2 + 16 + 2 + 16 + 2 + 16 + 2 + 16 + 2 + 16 + 2 + 16 + 30 + 2670 + 30 + 2670 + 2 + 16 + 2 + 16 + 2 + 16 + 2 + 16 + 2 + 16 + 2 + 16 + 16400 + 16400 + 2 + 16 + 12 + 60 + 60 + 60 + 6144 + 512 + 512 + 512 + 2 + 16 + 2 + 16 + 2 + 16 + 4096 + 4096 + 4096) rfl rfl rfl (by decide) ?_
  refine ev_px (i := .putfield 117) (len := 3) (p' := 325) (s' := []) (o' := .inr (10, [.int 0, .ref 67, .ref 69, .ref 71, .ref 73, .ref 75, .ref 77, .int 0, .int 0, .ref 79, .ref 115, .int 0, .int (-1), .ref 151, .ref 153, .ref 155, .int 0, .int 0, .ref 157, .ref 159, .ref 161, .ref 163, .ref 164, .int 0, .ref 165, .ref 167, .ref 168, .ref 169, .ref 170, .int 0, .int (-1), .ref 171, .ref 172, .ref 173, .ref 174, .ref 175, .ref 177, .ref 179, .int 0, .ref 181, .ref 182, .ref 183, .null, .null, .null])) rfl rfl rfl ?_
  refine ev_x (i := .aload_n 0) (len := 1) (p' := 326) (s' := [.ref 66]) rfl rfl rfl ?_
  refine ev_x (i := .bipush 12) (len := 2) (p' := 328) (s' := [.int 12, .ref 66]) rfl rfl rfl ?_
  refine ev_nx (i := .newarray .int) (len := 2) (p' := 330) (s' := [.ref 184, .ref 66]) (n' := 184) (k := 184) (x := .inl (0, 12, .inl fun _ => 0)) (A' := nc + 1 + 1 + 1 + 1 + 1 + 1 + 1 + 1 + 1 + 1 + 1 + 1 + 1 + 35 + 1 + 35 + 1 + 1 + 1 + 1 + 1 + 1 + 1 + 1 + 1 + 1 + 1 + 1 + 1 + 1 + 1 + 1 + 1 + 1 + 1 + 1 + 1 + 1 + 1 + 1 + 1 + 1 + 1 + 1 + 1 + 1 + 1 + 1 + 1 + 1) (B' := ns + 2 + 16 + 2 + 16 + 2 + 16 + 2 + 16 + 2 + 16 + 2 + 16 + 30 + 2670 + 30 + 2670 + 2 + 16 + 2 + 16 + 2 + 16 + 2 + 16 + 2 + 16 + 2 + 16 + 16400 + 16400 + 2 + 16 + 12 + 60 + 60 + 60 + 6144 + 512 + 512 + 512 + 2 + 16 + 2 + 16 + 2 + 16 + 4096 + 4096 + 4096 + 12) rfl rfl rfl (by decide) ?_
  refine ev_px (i := .putfield 120) (len := 3) (p' := 333) (s' := []) (o' := .inr (10, [.int 0, .ref 67, .ref 69, .ref 71, .ref 73, .ref 75, .ref 77, .int 0, .int 0, .ref 79, .ref 115, .int 0, .int (-1), .ref 151, .ref 153, .ref 155, .int 0, .int 0, .ref 157, .ref 159, .ref 161, .ref 163, .ref 164, .int 0, .ref 165, .ref 167, .ref 168, .ref 169, .ref 170, .int 0, .int (-1), .ref 171, .ref 172, .ref 173, .ref 174, .ref 175, .ref 177, .ref 179, .int 0, .ref 181, .ref 182, .ref 183, .ref 184, .null, .null])) rfl rfl rfl ?_
  refine ev_x (i := .aload_n 0) (len := 1) (p' := 334) (s' := [.ref 66]) rfl rfl rfl ?_
  refine ev_x (i := .bipush 8) (len := 2) (p' := 336) (s' := [.int 8, .ref 66]) rfl rfl rfl ?_
  refine ev_nx (i := .newarray .long) (len := 2) (p' := 338) (s' := [.ref 185, .ref 66]) (n' := 185) (k := 185) (x := .inl (1, 8, .inr (.inl fun _ => 0))) (A' := nc + 1 + 1 + 1 + 1 + 1 + 1 + 1 + 1 + 1 + 1 + 1 + 1 + 1 + 35 + 1 + 35 + 1 + 1 + 1 + 1 + 1 + 1 + 1 + 1 + 1 + 1 + 1 + 1 + 1 + 1 + 1 + 1 + 1 + 1 + 1 + 1 + 1 + 1 + 1 + 1 + 1 + 1 + 1 + 1 + 1 + 1 + 1 + 1 + 1 + 1 + 1) (B' := ns + 2 + 16 + 2 + 16 + 2 + 16 + 2 + 16 + 2 + 16 + 2 + 16 + 30 + 2670 + 30 + 2670 + 2 + 16 + 2 + 16 + 2 + 16 + 2 + 16 + 2 + 16 + 2 + 16 + 16400 + 16400 + 2 + 16 + 12 + 60 + 60 + 60 + 6144 + 512 + 512 + 512 + 2 + 16 + 2 + 16 + 2 + 16 + 4096 + 4096 + 4096 + 12 + 8) rfl rfl rfl (by decide) ?_
  refine ev_px (i := .putfield 123) (len := 3) (p' := 341) (s' := []) (o' := .inr (10, [.int 0, .ref 67, .ref 69, .ref 71, .ref 73, .ref 75, .ref 77, .int 0, .int 0, .ref 79, .ref 115, .int 0, .int (-1), .ref 151, .ref 153, .ref 155, .int 0, .int 0, .ref 157, .ref 159, .ref 161, .ref 163, .ref 164, .int 0, .ref 165, .ref 167, .ref 168, .ref 169, .ref 170, .int 0, .int (-1), .ref 171, .ref 172, .ref 173, .ref 174, .ref 175, .ref 177, .ref 179, .int 0, .ref 181, .ref 182, .ref 183, .ref 184, .ref 185, .null])) rfl rfl rfl ?_
  refine ev_x (i := .aload_n 0) (len := 1) (p' := 342) (s' := [.ref 66]) rfl rfl rfl ?_
  refine ev_x (i := .bipush 8) (len := 2) (p' := 344) (s' := [.int 8, .ref 66]) rfl rfl rfl ?_
  refine ev_nx (i := .newarray .long) (len := 2) (p' := 346) (s' := [.ref 186, .ref 66]) (n' := 186) (k := 186) (x := .inl (1, 8, .inr (.inl fun _ => 0))) (A' := nc + 1 + 1 + 1 + 1 + 1 + 1 + 1 + 1 + 1 + 1 + 1 + 1 + 1 + 35 + 1 + 35 + 1 + 1 + 1 + 1 + 1 + 1 + 1 + 1 + 1 + 1 + 1 + 1 + 1 + 1 + 1 + 1 + 1 + 1 + 1 + 1 + 1 + 1 + 1 + 1 + 1 + 1 + 1 + 1 + 1 + 1 + 1 + 1 + 1 + 1 + 1 + 1) (B' := ns + 2 + 16 + 2 + 16 + 2 + 16 + 2 + 16 + 2 + 16 + 2 + 16 + 30 + 2670 + 30 + 2670 + 2 + 16 + 2 + 16 + 2 + 16 + 2 + 16 + 2 + 16 + 2 + 16 + 16400 + 16400 + 2 + 16 + 12 + 60 + 60 + 60 + 6144 + 512 + 512 + 512 + 2 + 16 + 2 + 16 + 2 + 16 + 4096 + 4096 + 4096 + 12 + 8 + 8) rfl rfl rfl (by decide) ?_
  refine ev_px (i := .putfield 126) (len := 3) (p' := 349) (s' := []) (o' := .inr (10, [.int 0, .ref 67, .ref 69, .ref 71, .ref 73, .ref 75, .ref 77, .int 0, .int 0, .ref 79, .ref 115, .int 0, .int (-1), .ref 151, .ref 153, .ref 155, .int 0, .int 0, .ref 157, .ref 159, .ref 161, .ref 163, .ref 164, .int 0, .ref 165, .ref 167, .ref 168, .ref 169, .ref 170, .int 0, .int (-1), .ref 171, .ref 172, .ref 173, .ref 174, .ref 175, .ref 177, .ref 179, .int 0, .ref 181, .ref 182, .ref 183, .ref 184, .ref 185, .ref 186])) rfl rfl rfl ?_
  refine ev_hp (hp4 (F' := hA f cl_66) (A' := nc + 120) (B' := ns + 58676) (by unfold cl_66; simp only [hA_app, hA_1, hA_0]) (by omega) (by omega)) ?_
  exact ev_vret rfl rfl rfl
