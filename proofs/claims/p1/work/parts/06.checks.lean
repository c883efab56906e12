/-- a field's link, by its place -/
def tk_F (own : String) (ini : Bool) (ps : List (Nat × Nat)) (q : Nat × (Nat × Nat × FieldType × Bool)) : Bool := match tb_cl[q.2.1]? with
  | some c => decide (q.2.2.1 < c.2.2) && (decide (parseFieldDescriptor (c.2.1 q.2.2.1).2.2.1 = some q.2.2.2.1) && (decide ((c.2.1 q.2.2.1).2.2.2 = q.2.2.2.2) &&
    ((tb_w ((vz_lk ps q.1).getD 0) (.fieldLink own q.1 (c.2.1 q.2.2.1).1 (c.2.1 q.2.2.1).2.1 (c.2.1 q.2.2.1).2.2.1) && (!(q.2.2.2.2 && ini) || decide ((c.2.1 q.2.2.1).1 = own))) ||
     (!(q.2.2.2.2 && ini) && (tb_wn ((vz_lk ps q.1).getD 0) (.fieldLinkNest own q.1 (c.2.1 q.2.2.1).1 (c.2.1 q.2.2.1).2.1 (c.2.1 q.2.2.1).2.2.1 "GameText") || tb_wn ((vz_lk ps q.1).getD 0) (.fieldLinkNest own q.1 (c.2.1 q.2.2.1).1 (c.2.1 q.2.2.1).2.1 (c.2.1 q.2.2.1).2.2.1 "GameTextModel"))))))
  | none => false
/-- new, by its place -/
def tk_N (own : String) (ps : List (Nat × Nat × Nat × Nat)) (q : Nat × (Nat × List Value)) : Bool := match tb_cl[q.2.1]?, vz_lk ps q.1 with
  | some c, some p => tb_w p.1 (.classLink own q.1 c.1) && (tb_w p.2.1 (.instantiable c.1 c.2.2) && (tb_w p.2.2 (.initialized c.1) && (decide (q.2.2.length = c.2.2) && ((List.range c.2.2).all (fun j => decide ((parseFieldDescriptor (c.2.1 j).2.2.1).map defaultValue = some (vp_V q.2.2 j))) && q.2.2.all (fun v => match v with | .ref _ => false | _ => true)))))
  | _, _ => false
/-- constants -/
def tk_K (own : String) (ps : List (Nat × Nat)) (q : Nat × Value) : Bool := match q.2 with
  | .int x => tb_w ((vz_lk ps q.1).getD 0) (.constant own q.1 x)
  | .long x => tb_w ((vz_lk ps q.1).getD 0) (.constantLong own q.1 x)
  | _ => true
/-- the words of a method that is called: kind 0 static, 1 by a receiver, 2 a constructor; its arguments -/
def tk_M (m : tb_M) (k n : Nat) (p : Nat × Nat × Nat × Bool) : Bool :=
  tb_w p.1 (.initialized m.2.2.2.2.2.2.cls) && (decide (m.2.2.2.2.2.2.cls ≠ "java/lang/invoke/MethodHandle" ∧ m.2.2.2.2.2.2.cls ≠ "java/lang/invoke/VarHandle") && (decide ((parseMethodDescriptor m.2.2.2.2.2.2.desc).map (fun d => d.parameters.length) = some n) && (match k with
    | 0 => tb_w p.2.1 (.static m.2.2.2.2.2.2)
    | 1 => tb_w p.2.1 (.instanceMethod m.2.2.2.2.2.2) && ((bif p.2.2.2 then decide ((lw_privs[p.2.2.1]?).map (·.1) = some m.2.2.2.2.2.2) && goodWord (.selects m.2.2.2.2.2.2.cls m.2.2.2.2.2.2 m.2.2.2.2.2.2) else tb_w p.2.2.1 (.selects m.2.2.2.2.2.2.cls m.2.2.2.2.2.2 m.2.2.2.2.2.2)) && decide ((tb_cl[m.2.1]?).map (·.1) = some m.2.2.2.2.2.2.cls))
    | 2 => tb_w p.2.1 (.instanceMethod m.2.2.2.2.2.2) && (decide (m.2.2.2.2.2.2.name = "<init>") && decide (m.2.2.2.2.2.1 = none))
    | _ => false)))
/-- a call's link -/
def tk_L (own : String) (ps : List (Nat × Nat)) (q : Nat × (Nat × Nat × Nat)) : Bool := match q.2.1 with
  | 3 => tb_w ((vz_lk ps q.1).getD 0) (.methodLink own q.1 Lib.objectInit)
  | 5 => tb_w ((vz_lk ps q.1).getD 0) (.methodLink own q.1 arraycopyName)
  | 6 => true
  | 7 => true
  | 9 => true
  | _ => tb_w ((vz_lk ps q.1).getD 0) (.methodLink own q.1 (tb_at q.2.2.1).1.2.2.2.2.2.2) || (tb_wn ((vz_lk ps q.1).getD 0) (.methodLinkNest own q.1 (tb_at q.2.2.1).1.2.2.2.2.2.2 "GameText") || tb_wn ((vz_lk ps q.1).getD 0) (.methodLinkNest own q.1 (tb_at q.2.2.1).1.2.2.2.2.2.2 "GameTextModel"))
