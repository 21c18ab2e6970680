/-! ===== the pure machine: values, memory, its picture in the heap ===== -/
abbrev xV : Type := Int ⊕ (Int ⊕ (Option Nat ⊕ (Nat ⊕ Unit)))
abbrev vi (x : Int) : xV := .inl x
abbrev vl (x : Int) : xV := .inr (.inl x)
abbrev vq (q : Option Nat) : xV := .inr (.inr (.inl q))
abbrev vr (k : Nat) : xV := .inr (.inr (.inl (some k)))
abbrev vn : xV := .inr (.inr (.inl none))
abbrev vo (k : Nat) : xV := .inr (.inr (.inr (.inl k)))
abbrev vu : xV := .inr (.inr (.inr (.inr ())))
def i32 (x : Int) : Prop := -2147483648 ≤ x ∧ x < 2147483648
def i64 (x : Int) : Prop := -9223372036854775808 ≤ x ∧ x < 9223372036854775808
abbrev xKd : Type := Option (Nat ⊕ (FieldType × Nat))
abbrev xSh : Type := Nat × (Nat → xKd) × (Nat → Nat → Option Nat) × (Nat × (Nat → Int32))
abbrev xMem : Type := xSh × (Nat → Nat → Int)
def gN (Γ : xSh) : Nat := Γ.1
def gK (Γ : xSh) : Nat → xKd := Γ.2.1
def gF (Γ : xSh) : Nat → Nat → Option Nat := Γ.2.2.1
/-- the script: how long, what it holds -/
def gS (Γ : xSh) : Nat × (Nat → Int32) := Γ.2.2.2
def gLen (Γ : xSh) (a : Nat) : Nat := match gK Γ a with
  | some (.inr q) => q.2
  | _ => 0
def upd2 (σ : Nat → Nat → Int) (a j : Nat) (v : Int) : Nat → Nat → Int := fun k i => if k = a ∧ i = j then v else σ k i
abbrev xGh : Type := Nat → Nat × ClassId
/-- base, the classes' numbers, addresses of old objects, the script, the bytes of the texts -/
abbrev xWd : Type := Nat × va_G × (Nat → Nat) × (Nat × (Nat → Int32)) × (Nat → Nat)
def cV (w : xWd) (g : xGh) : xV → Value
  | .inl x => .int (Int32.ofInt x)
  | .inr (.inl x) => .long (Int64.ofInt x)
  | .inr (.inr (.inl (some k))) => .ref (g k).1
  | .inr (.inr (.inl none)) => .null
  | .inr (.inr (.inr (.inl k))) => .ref (w.2.2.1 k)
  | .inr (.inr (.inr (.inr _))) => .null
def cR (w : xWd) (g : xGh) : xV → Option Value
  | .inr (.inr (.inr (.inr _))) => none
  | v => some (cV w g v)
def xVok (n : Nat) : xV → Prop
  | .inl x => i32 x
  | .inr (.inl x) => i64 x
  | .inr (.inr (.inl (some k))) => k < n
  | _ => True
def xFld (g : xGh) (ty : FieldType) (x : Int) (q : Option Nat) : Value := match ty with
  | .long => .long (Int64.ofInt x)
  | .object _ => va_rf (q.map fun k => (g k).1)
  | .array _ => va_rf (q.map fun k => (g k).1)
  | _ => .int (Int32.ofInt x)
def xArr (g : xGh) (ty : FieldType) (f : Nat → Int) (q : Nat → Option Nat) : (Nat → Int32) ⊕ (Nat → Int64) ⊕ (Nat → UInt32) ⊕ (Nat → UInt64) ⊕ (Nat → Option Nat) := match ty with
  | .object _ => .inr (.inr (.inr (.inr (fun j => (q j).map fun k => (g k).1))))
  | .array _ => .inr (.inr (.inr (.inr (fun j => (q j).map fun k => (g k).1))))
  | _ => .inl (fun j => Int32.ofInt (f j))
def xCell (g : xGh) (μ : xMem) (k : Nat) : va_E := match gK μ.1 k with
  | some (.inl ci) => .inr (ci, (List.range (xNf ci)).map fun j => xFld g (xTy ci j) (μ.2 k j) (gF μ.1 k j))
  | some (.inr q) => .inl ((g k).2, q.2, xArr g q.1 (μ.2 k) (gF μ.1 k))
  | none => .inr (0, [])
def xW (g : xGh) (μ : xMem) : va_W := (List.range (gN μ.1)).map fun k => ((g k).1, xCell g μ k)
theorem xW_get {g : xGh} {μ : xMem} {k : Nat} (h : k < gN μ.1) : (xW g μ)[k]? = some ((g k).1, xCell g μ k) := by
  simp [xW, h]
theorem xW_len (g : xGh) (μ : xMem) : (xW g μ).length = gN μ.1 := by simp [xW]
/-- what was there before the law began: the script, KIND_ABOVE, the texts of the class -/
def xKA : Nat → Int32 := fun k => ([-1, 0, 0, 1, 2, 0] : List Int32).getD k 0
def xStr : List (String × Nat × String) := [("CrystalByTheMinute", 52, "prices 5 ; joys 10 ; pays wished * 8 ;"), ("CrystalByTheMinute$Tape", 108, "prices"), ("CrystalByTheMinute$Tape", 110, "joys"), ("CrystalByTheMinute$Tape", 112, "pays"), ("CrystalByTheMinute$Tape", 114, "or"), ("CrystalByTheMinute$Tape", 116, "and"), ("CrystalByTheMinute$Tape", 118, "not"), ("CrystalByTheMinute$Tape", 120, "hour"), ("CrystalByTheMinute$Tape", 122, "number"), ("CrystalByTheMinute$Tape", 124, "means"), ("CrystalByTheMinute$Tape", 126, "wished"), ("CrystalByTheMinute$Tape", 128, "asked"), ("CrystalByTheMinute$Tape", 130, "clients")]
def xByt : List (List Int32) := [[112, 114, 105, 99, 101, 115, 32, 53, 32, 59, 32, 106, 111, 121, 115, 32, 49, 48, 32, 59, 32, 112, 97, 121, 115, 32, 119, 105, 115, 104, 101, 100, 32, 42, 32, 56, 32, 59], [112, 114, 105, 99, 101, 115], [106, 111, 121, 115], [112, 97, 121, 115], [111, 114], [97, 110, 100], [110, 111, 116], [104, 111, 117, 114], [110, 117, 109, 98, 101, 114], [109, 101, 97, 110, 115], [119, 105, 115, 104, 101, 100], [97, 115, 107, 101, 100], [99, 108, 105, 101, 110, 116, 115]]
def xLen : List Nat := [38, 6, 4, 4, 2, 3, 3, 4, 6, 5, 6, 5, 7]
/-- what the tables say of arrays of arrays, arrays of ours, constructors of nest mates -/
def xAO (U : State) : Prop := (Cond.arrayOver (.array .int)).before #[] U = true
theorem xAO.spec {U : State} (h : xAO U) : ∃ (comp c : ClassId) (k : Class), U.vm.findClass (FieldType.array .int).toString = some comp ∧ (U.vm.classes.findIdx? fun (x : Class) => match x.kind with | .array component _ => component == comp | _ => false) = some c ∧ U.vm.classes[c]? = some k ∧ k.kind = .array comp (.array .int) ∧ U.vm.findClass ("[" ++ (FieldType.array .int).toString) = some c := by
  unfold xAO Cond.before at h
  simp only [Cond.holds, Cond.value, beq_iff_eq] at h
  obtain ⟨comp, hc, h⟩ := Option.bind_eq_some_iff.mp h
  obtain ⟨c, hi, h⟩ := Option.bind_eq_some_iff.mp h
  obtain ⟨k, hk, hb⟩ := Option.map_eq_some_iff.mp h
  obtain ⟨hlt, hp, -⟩ := Array.findIdx?_eq_some_iff_getElem.mp hi
  have hkk : U.vm.classes[c] = k := (Array.getElem?_eq_some_iff.mp hk).2
  rw [hkk] at hp
  cases hkind : k.kind with
  | array component ty =>
    rw [hkind] at hb hp
    simp at hb hp
    exact ⟨comp, c, k, hc, hi, hk, by rw [hkind, hp, hb.1], hb.2⟩
  | _ => rw [hkind] at hb; simp at hb
theorem xAO.moved {u U : State} (hvm : u.vm.Alike U.vm) (h : xAO u) : xAO U := by
  obtain ⟨comp, c, k, h1, h2, h3, h4, h5⟩ := h.spec
  obtain ⟨k', hk', he⟩ := hvm.2.2 _ _ h3
  have hi : (U.vm.classes.findIdx? fun (x : Class) => match x.kind with | .array component _ => component == comp | _ => false) = some c := by
    have e1 := va_idx_bare U.vm comp
    have e2 := va_idx_bare u.vm comp
    first | rw [hvm.bare_eq] at e1 | rw [← hvm.bare_eq] at e1
    exact e1.symm.trans (e2.trans h2)
  have hkind : k'.kind = .array comp (.array .int) := by rw [he]; exact h4
  have f1 : U.vm.findClass (FieldType.array .int).toString = some comp := by rw [hvm.findClass]; exact h1
  have f2 : U.vm.findClass ("[" ++ (FieldType.array .int).toString) = some c := by rw [hvm.findClass]; exact h5
  unfold xAO Cond.before
  simp only [Cond.holds, Cond.value, beq_iff_eq]
  rw [f1, Option.bind_some, Option.bind_eq_some_iff]
  exact ⟨c, hi, by simp [hk', hkind, f2]⟩
def xNw (s : State) : Prop := va_AO "CrystalByTheMinute$Text" s ∧ va_AO "CrystalByTheMinute$Sheet" s ∧ xAO s ∧ va_Nw (.methodLinkNest "CrystalByTheMinute" 17 yX2_init "CrystalByTheMinute") s ∧ va_Nw (.methodLinkNest "CrystalByTheMinute" 24 yX0_init "CrystalByTheMinute") s ∧ va_Nw (.methodLinkNest "CrystalByTheMinute" 35 yX3_init "CrystalByTheMinute") s ∧ va_Nw (.methodLinkNest "CrystalByTheMinute" 36 yX1_init "CrystalByTheMinute") s
theorem xNw.warm {s U : State} (hW : s.WarmedH U.vm) (h : xNw s) : xNw U := by
  obtain ⟨h1, h2, h3, h4, h5, h6, h7⟩ := h
  exact ⟨h1.moved hW.alike, h2.moved hW.alike, h3.moved hW.alike, va_Nw.warmM hW h4, va_Nw.warmM hW h5, va_Nw.warmM hW h6, va_Nw.warmM hW h7⟩
theorem xNw.same {u U : State} (hv : U.vm = u.vm) (h : xNw u) : xNw U := by
  have hW : u.vm.Alike U.vm := by rw [hv]; exact Vm.Alike.refl _
  obtain ⟨h1, h2, h3, h4, h5, h6, h7⟩ := h
  exact ⟨h1.moved hW, h2.moved hW, h3.moved hW, va_Nw.same rfl hv.symm h4, va_Nw.same rfl hv.symm h5, va_Nw.same rfl hv.symm h6, va_Nw.same rfl hv.symm h7⟩
def xOld (w : xWd) (s : State) (H : Heap) : Prop :=
  (va_X (w.2.2.1 0) w.2.2.2.1.1 w.2.2.2.1.2 s H ∧ w.2.2.1 0 < w.1) ∧
  (va_Z "CrystalByTheMinute" "KIND_ABOVE" "[I" (.ref (w.2.2.1 1)) (fun q => w.1 ≤ q) s H ∧ va_T .int (w.2.2.1 1) 6 (fun j => .int (xKA j)) (fun q => w.1 ≤ q) s H ∧ w.2.2.1 1 < w.1) ∧
  va_Z "java/lang/String" "COMPACT_STRINGS" "Z" (.int 1) (fun q => w.1 ≤ q) s H ∧
  vk_S 13 xLen xByt (fun i => w.2.2.1 (i + 2)) (fun i => w.2.2.1 (i + 15)) (fun q => w.1 ≤ q) s H ∧
  (∀ (i : Nat) (q : String × Nat × String), xStr[i]? = some q → vk_R q.1 q.2.1 q.2.2 (w.2.2.1 (i + 2)) s) ∧
  (va_Z "jdk/internal/util/Preconditions" "SIOOBE_FORMATTER" "Ljava/util/function/BiFunction;" .null (fun q => w.1 ≤ q) s H ∨ va_Z "jdk/internal/util/Preconditions" "SIOOBE_FORMATTER" "Ljava/util/function/BiFunction;" (.ref (w.2.2.1 28)) (fun q => w.1 ≤ q) s H) ∧ xNw s
def xWf (μ : xMem) : Prop := (∀ k j, i32 (μ.2 k j)) ∧ (∀ k j q, gF μ.1 k j = some q → q < gN μ.1) ∧ ∀ k, gN μ.1 ≤ k → gK μ.1 k = none
def xSim (w : xWd) (g : xGh) (μ : xMem) (s : State) (H : Heap) : Prop :=
  va_P w.2.1 vwCl (xW g μ) H ∧ va_D (fun q => w.1 ≤ q) (xW g μ) ∧ w.1 ≤ H.size ∧ (va_K w.2.1 vwCl [] s ∧ w.2.2.2.1 = gS μ.1) ∧
  (∀ (k : Nat) (ty : FieldType) (n : Nat), gK μ.1 k = some (.inr (ty, n)) → ArrOfT s (g k).2 ty ∧ va_RA s (g k).2 ty) ∧ xWf μ ∧ xOld w s H
theorem xWf.lt {μ : xMem} (h : xWf μ) {k : Nat} {q : Nat ⊕ (FieldType × Nat)} (hk : gK μ.1 k = some q) : k < gN μ.1 := by
  rcases Nat.lt_or_ge k (gN μ.1) with h1 | h1
  · exact h1
  · rw [h.2.2 k h1] at hk
    cases hk
theorem xOld.warm {w : xWd} {s U : State} {H : Heap} (hW : s.WarmedH U.vm) (h : xOld w s H) : xOld w U H := by
  obtain ⟨⟨h1, h2⟩, ⟨h3, h4, h5⟩, h6, h7, h8, h9, h10⟩ := h
  exact ⟨⟨h1.moved hW.alike, h2⟩, ⟨h3.moved hW.alike, h4.moved hW.alike, h5⟩, h6.moved hW.alike, h7.moved hW.alike, fun i q hq => (h8 i q hq).warm hW, h9.imp (fun z => z.moved hW.alike) (fun z => z.moved hW.alike), h10.warm hW⟩
theorem xOld.same {w : xWd} {u U : State} {H : Heap} (hv : U.vm = u.vm) (h : xOld w u H) : xOld w U H := by
  have hW : u.vm.Alike U.vm := by rw [hv]; exact Vm.Alike.refl _
  obtain ⟨⟨h1, h2⟩, ⟨h3, h4, h5⟩, h6, h7, h8, h9, h10⟩ := h
  exact ⟨⟨h1.moved hW, h2⟩, ⟨h3.moved hW, h4.moved hW, h5⟩, h6.moved hW, h7.moved hW, fun i q hq => (h8 i q hq).same hv, h9.imp (fun z => z.moved hW) (fun z => z.moved hW), h10.same hv⟩
theorem xOld.kept {w : xWd} {s : State} {H H1 : Heap} (h : xOld w s H) (hb : w.1 ≤ H.size) (hq : ∀ q : Nat, q < H.size → ¬ w.1 ≤ q → H1[q]? = H[q]?) : xOld w s H1 := by
  obtain ⟨⟨h1, h2⟩, ⟨h3, h4, h5⟩, h6, h7, h8, h9, h10⟩ := h
  exact ⟨⟨h1.kept (hq _ (by omega) (by omega)), h2⟩, ⟨h3.kept hq, h4.kept hq, h5⟩, h6.kept hq, h7.kept hq, h8, h9.imp (fun z => z.kept hq) (fun z => z.kept hq), h10⟩
theorem xSim.warm {w : xWd} {g : xGh} {μ : xMem} {s U : State} {H : Heap} (hW : s.WarmedH U.vm) (h : xSim w g μ s H) : xSim w g μ U H := by
  obtain ⟨h1, h2, h3, h4, h5, h6, h7⟩ := h
  exact ⟨h1, h2, h3, ⟨h4.1.moved hW.alike, h4.2⟩, fun k ty n hk => ⟨arrOfT_moved hW.alike (h5 k ty n hk).1, (h5 k ty n hk).2.moved hW.alike⟩, h6, h7.warm hW⟩
theorem xSim.back {w : xWd} {g : xGh} {μ : xMem} {s U : State} {H : Heap} (hW : s.vm.Alike U.vm) (h : xSim w g μ s H) (ho : xOld w U H) : xSim w g μ U H := by
  obtain ⟨h1, h2, h3, h4, h5, h6, h7⟩ := h
  exact ⟨h1, h2, h3, ⟨h4.1.moved hW, h4.2⟩, fun k ty n hk => ⟨arrOfT_moved hW (h5 k ty n hk).1, (h5 k ty n hk).2.moved hW⟩, h6, ho⟩
theorem xSim.same {w : xWd} {g : xGh} {μ : xMem} {u U : State} {H : Heap} (hv : U.vm = u.vm) (h : xSim w g μ u H) : xSim w g μ U H := h.back (by rw [hv]; exact Vm.Alike.refl _) (h.2.2.2.2.2.2.same hv)
def xCx (M : xMt) (p : Program) (s : State) (m : MethodId) (args : Array Value) (meth : Method) (c : Code) : Prop :=
  p.tables.exec = Jvm.exec ∧ c.code = M.2.1 ∧ c.maxLocals = M.2.2.1 ∧ s.vm.findClass M.1.cls = some m.cls ∧ (∀ w ∈ xG, w.before args s = true) ∧ meth.sig.returnType = M.2.2.2 ∧ meth.locks = false ∧ meth.name = M.1.name
def xLv (w : xWd) (g : xGh) : Nat → List xV → List (Nat × Value)
  | _, [] => []
  | i, .inr (.inr (.inr (.inr _))) :: l => xLv w g (i + 1) l
  | i, v :: l => (i, cV w g v) :: xLv w g (i + 1) l
theorem xLv_mem {w : xWd} {g : xGh} {q : Nat × Value} : ∀ (l : List xV) (i : Nat), q ∈ xLv w g i l ↔ ∃ (j : Nat) (v : xV), l[j]? = some v ∧ v ≠ vu ∧ q = (i + j, cV w g v)
  | [], i => by simp [xLv]
  | x :: l, i => by
    have ih := xLv_mem (w := w) (g := g) (q := q) l (i + 1)
    have key : q ∈ xLv w g i (x :: l) ↔ ((x ≠ vu ∧ q = (i, cV w g x)) ∨ q ∈ xLv w g (i + 1) l) := by
      rcases x with x | x | (_ | x) | x | x <;> simp [xLv, vu]
    rw [key, ih]
    constructor
    · rintro (⟨h1, h2⟩ | ⟨j, v, h1, h2, h3⟩)
      · exact ⟨0, x, rfl, h1, h2⟩
      · exact ⟨j + 1, v, by simpa using h1, h2, by rw [h3]; congr 1; omega⟩
    · rintro ⟨j, v, h1, h2, h3⟩
      cases j with
      | zero => simp at h1; subst h1; exact Or.inl ⟨h2, h3⟩
      | succ j => exact Or.inr ⟨j, v, by simpa using h1, h2, by rw [h3]; congr 1; omega⟩
def xLoc (w : xWd) (g : xGh) (n : Nat) (nL : Nat) (ls : List xV) (lsM : Array Slot) : Prop := lv_has lsM nL (xLv w g 0 ls) ∧ ls.length = nL ∧ ∀ v ∈ ls, xVok n v
theorem xLoc.get {w : xWd} {g : xGh} {n nL : Nat} {ls : List xV} {lsM : Array Slot} (h : xLoc w g n nL ls lsM) {i : Nat} {v : xV} (hi : ls[i]? = some v) (hv : v ≠ vu) : lsM[i]? = some (.val (cV w g v)) :=
  h.1.2.2 (i, cV w g v) ((xLv_mem ls 0).mpr ⟨i, v, hi, hv, by simp⟩)
/-- what comes of a method -/
def xQc (w : xWd) (g0 : xGh) (n0 : Nat) (Q : xV → xMem → Prop) : Array Value → State → Outcome → State → Prop := fun _ st o t =>
  (∃ (r : xV) (μ : xMem) (g : xGh), o = .returned (cR w g r) ∧ Q r μ ∧ (∀ k, k < n0 → g k = g0 k) ∧ n0 ≤ gN μ.1 ∧ xSim w g μ t t.heap ∧ xVok (gN μ.1) r) ∧ va_F (fun q => w.1 ≤ q) st t
/-- from here the method comes to its end with Q -/
def xR (M : xMt) (d : Nat) (b : Nat × Nat) (pc : Nat) (ls st : List xV) (μ : xMem) (Q : xV → xMem → Prop) : Prop :=
  ∀ (p : Program) (l : Launch) (e : Env) (s : State) (m : MethodId) (args : Array Value) (below : List Frame) (meth : Method) (c : Code) (Rm : Room) (w : xWd) (g0 : xGh) (n0 : Nat) (g : xGh) (H : Heap) (locs : List Loc) (cells slots : Nat) (lsM : Array Slot),
    xCx M p s m args meth c → d ≤ Rm.frames → 40 * d ≤ Rm.locals → cells + b.1 ≤ Rm.cells → slots + b.2 ≤ Rm.slots →
    (∀ k, k < n0 → g k = g0 k) → n0 ≤ gN μ.1 → xSim w g μ s H → va_S (fun q => w.1 ≤ q) s.heap H locs → w.1 ≤ s.heap.size →
    xLoc w g (gN μ.1) M.2.2.1 ls lsM → (∀ v ∈ st, xVok (gN μ.1) v) →
    W p l e Rm s m args below meth c H locs cells slots (MQ below (xQc w g0 n0 Q) args s Rm.cells Rm.slots (fun q => w.1 ≤ q)) (F0 m pc lsM (st.map (cV w g)))
abbrev xP : Type := Nat × Nat → List xV → List xV → xMem → Prop
def Snd (M : xMt) (d pc : Nat) (Q : xV → xMem → Prop) (k : xP) : Prop := ∀ b ls st μ, k b ls st μ → xR M d b pc ls st μ Q
/-- a call of a method comes to its end with Q -/
def xRM (M : xMt) (d : Nat) (b : Nat × Nat) (as : List xV) (μ : xMem) (Q : xV → xMem → Prop) : Prop :=
  ∀ (l : Launch) (w : xWd) (g0 : xGh), Met l M.1 (.code M.1 M.2.1 M.2.2.1 M.2.2.2 :: xG) { frames := d, cells := b.1, slots := b.2, locals := 40 * d }
    (va_Pc (as.map (cV w g0)) (fun U => xSim w g0 μ U U.heap ∧ w.1 ≤ U.heap.size ∧ ∀ v ∈ as, xVok (gN μ.1) v)) (xQc w g0 (gN μ.1) Q) b.1 b.2 (fun q => w.1 ≤ q)
