/-! ===== the words that all methods share ===== -/
/-- the words of the tables that all methods share -/
def xG : List Cond := lw_tbl.filter goodWord
theorem xG_sub {w : Cond} (h : w ∈ xG) : w ∈ lw_tbl := (List.mem_filter.mp h).1
theorem xG_in {w : Cond} (h : w ∈ lw_tbl) (hg : goodWord w = true) : w ∈ xG := List.mem_filter.mpr ⟨h, hg⟩
theorem xG_good : GoodIn xG xG := fun w hw => ⟨hw, good_of_word (List.mem_filter.mp hw).2⟩
theorem xT_in (i : Nat) {w : Cond} (h : tables_1[i]? = some w) (hg : goodWord w = true) : w ∈ xG := xG_in (List.mem_append_right _ (List.mem_of_getElem? h)) hg
/-- a method: its name, code, locals, return -/
abbrev xMt : Type := MethodName × ByteArray × Nat × Option FieldType
/-- a callee: its words -/
def xCee (M' : xMt) (n : Nat) : Prop := Cond.code M'.1 M'.2.1 M'.2.2.1 M'.2.2.2 ∈ xG ∧ Cond.initialized M'.1.cls ∈ xG ∧ (M'.1.cls ≠ "java/lang/invoke/MethodHandle" ∧ M'.1.cls ≠ "java/lang/invoke/VarHandle" ∧ (parseMethodDescriptor M'.1.desc).map (fun d => d.parameters.length) = some n) ∧ M'.2.2.1 ≤ 21
/-- the types of a class's fields -/
def xTy (ci : Nat) : Nat → FieldType := match ci with
  | 0 => tyX0
  | 1 => tyX1
  | 2 => tyX2
  | 3 => tyX3
  | 4 => tyX4
  | 5 => tyX5
  | _ => tyX6
def xNf (ci : Nat) : Nat := match ci with
  | 0 => 16
  | 1 => 3
  | 2 => 6
  | 3 => 4
  | 4 => 12
  | 5 => 9
  | _ => 52
