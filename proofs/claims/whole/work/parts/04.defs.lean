def az_ty (ci : Nat) : Nat → FieldType := match ci with
  | 0 => tyX0 | 1 => tyX1 | 2 => tyX2 | 3 => tyX3 | 4 => tyX4 | 5 => tyX5 | 6 => tyX6 | _ => tyX7
def az_nf (ci : Nat) : Nat := match ci with
  | 0 => 16 | 1 => 3 | 2 => 9 | 3 => 4 | 4 => 4 | 5 => 6 | 6 => 15 | _ => 46
def az_isr (t : FieldType) : Nat := match t with
  | .object _ => 1 | .array _ => 1 | _ => 0
def az_rf (ci k : Nat) : Nat := az_isr (az_ty ci k)
def az_TB : List Cond := lw_tbl.filter goodWord
def az_NW : List Cond := tables_1.filter (fun w => match w with | .fieldLinkNest _ _ _ _ _ _ => true | .methodLinkNest _ _ _ _ => true | _ => false)
/-- field k of class ci (tag tg) is what entry 'index' of class own names -/
def az_FL (own : String) (index ci k : Nat) : Prop := ∃ (C : String) (T : u_T) (N : Nat) (ref : String), vwCl[ci]? = some (C, T, N) ∧ N = az_nf ci ∧ ci < 8 ∧ k < N ∧ ref = (T k).1 ∧ (∀ w ∈ u_ws C T N, w ∈ az_TB) ∧
  (∀ j, j < N → parseFieldDescriptor (T j).2.2.1 = some (az_ty ci j)) ∧ (∀ a, a < N → ∀ b, b < N → a ≠ b → (T a).2.1 ≠ (T b).2.1) ∧
  (Cond.fieldLink own index ref (T k).2.1 (T k).2.2.1 ∈ az_TB ∨ ∃ host, Cond.fieldLinkNest own index ref (T k).2.1 (T k).2.2.1 host ∈ az_NW) ∧ (T k).2.2.2 = false
/-- the same of a final field, in a constructor of its own class -/
def az_FF (own : String) (index ci k : Nat) : Prop := ∃ (C : String) (T : u_T) (N : Nat) (ref : String), vwCl[ci]? = some (C, T, N) ∧ N = az_nf ci ∧ ci < 8 ∧ k < N ∧ ref = (T k).1 ∧ (∀ w ∈ u_ws C T N, w ∈ az_TB) ∧
  (∀ j, j < N → parseFieldDescriptor (T j).2.2.1 = some (az_ty ci j)) ∧ (∀ a, a < N → ∀ b, b < N → a ≠ b → (T a).2.1 ≠ (T b).2.1) ∧
  (Cond.fieldLink own index ref (T k).2.1 (T k).2.2.1 ∈ az_TB ∨ ∃ host, Cond.fieldLinkNest own index ref (T k).2.1 (T k).2.2.1 host ∈ az_NW) ∧ (T k).2.2.2 = true
def az_hd (y : MethodName) (n : Nat) : Prop := y.cls ≠ "java/lang/invoke/MethodHandle" ∧ y.cls ≠ "java/lang/invoke/VarHandle" ∧ (parseMethodDescriptor y.desc).map (fun d => d.parameters.length) = some n
/-- entry 'idx' of class own names the method y: a virtual one, a static one, a constructor -/
def az_MV (own : String) (idx : Nat) (y : MethodName) (cc : ByteArray) (nL : Nat) (ret : Option FieldType) (n : Nat) : Prop :=
  (Cond.methodLink own idx y ∈ az_TB ∨ ∃ host, Cond.methodLinkNest own idx y host ∈ az_NW) ∧ Cond.instanceMethod y ∈ az_TB ∧ Cond.selects y.cls y y ∈ az_TB ∧ Cond.initialized y.cls ∈ az_TB ∧ Cond.code y cc nL ret ∈ az_TB ∧ az_hd y n
def az_MS (own : String) (idx : Nat) (y : MethodName) (cc : ByteArray) (nL : Nat) (ret : Option FieldType) (n : Nat) : Prop :=
  Cond.methodLink own idx y ∈ az_TB ∧ Cond.static y ∈ az_TB ∧ Cond.initialized y.cls ∈ az_TB ∧ Cond.code y cc nL ret ∈ az_TB ∧ az_hd y n
def az_MI (own : String) (idx : Nat) (y : MethodName) (cc : ByteArray) (nL : Nat) (n : Nat) : Prop :=
  (Cond.methodLink own idx y ∈ az_TB ∨ ∃ host, Cond.methodLinkNest own idx y host ∈ az_NW) ∧ y.name = "<init>" ∧ Cond.instanceMethod y ∈ az_TB ∧ Cond.initialized y.cls ∈ az_TB ∧ Cond.code y cc nL none ∈ az_TB ∧ az_hd y n
def az_NC (own : String) (index ci : Nat) : Prop := ∃ (C : String) (T : u_T) (N : Nat), vwCl[ci]? = some (C, T, N) ∧ N = az_nf ci ∧ ci < 8 ∧ (∀ w ∈ u_ws C T N, w ∈ az_TB) ∧ (∀ j, j < N → parseFieldDescriptor (T j).2.2.1 = some (az_ty ci j)) ∧
  Cond.classLink own index C ∈ az_TB ∧ Cond.instantiable C N ∈ az_TB ∧ Cond.initialized C ∈ az_TB ∧ ∀ j, j < N → defaultValue (az_ty ci j) = if az_rf ci j = 1 then .null else .int 0
