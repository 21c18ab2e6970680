/-! ===== the start: what the premises say of what is old, by its places: printed by wip/whole/gen/start.py ===== -/
abbrev NL : List Cond := flatC (Jvm.Cond.and given_1 narrow_1)
theorem tb_in (i : Nat) {w : Cond} (h : tables_1[i]? = some w) : w ∈ lw_tbl := List.mem_append_right _ (List.mem_of_getElem? h)
def sTm (i : Nat) : Term := .string (xStr.getD i ("", 0, "")).1 (xStr.getD i ("", 0, "")).2.1
def sPos : List Nat := [32, 74, 85, 95, 106, 116, 128, 141, 156, 174, 192, 212, 232]
def rPos : List Nat := [211, 286, 287, 288, 289, 290, 291, 292, 293, 294, 295, 296, 297]
abbrev kaT : Term := .static "CrystalByTheMinute" "KIND_ABOVE" "[I"
theorem st_ex : ∀ i, i < 13 → NL[sPos.getD i 0]? = some (.exactly (sTm i) "java/lang/String") := by decide +kernel
theorem st_co : ∀ i, i < 13 → NL[sPos.getD i 0 + 1]? = some (.eq (.field (sTm i) "java/lang/String" "coder" "B") (.int 0)) := by decide +kernel
theorem st_ar : ∀ i, i < 13 → NL[sPos.getD i 0 + 2]? = some (.arrayOf (.field (sTm i) "java/lang/String" "value" "[B") .byte) := by decide +kernel
theorem st_le : ∀ i, i < 13 → NL[sPos.getD i 0 + 3]? = some (.eq (.length (.field (sTm i) "java/lang/String" "value" "[B")) (.int (Int32.ofNat (xLen.getD i 0)))) := by decide +kernel
theorem st_el : ∀ i, i < 13 → ∀ j, j < xLen.getD i 0 → NL[sPos.getD i 0 + 4 + j]? = some (.eq (.elem (.field (sTm i) "java/lang/String" "value" "[B") (.int (Int32.ofNat j))) (.int ((xByt.getD i []).getD j 0))) := by decide +kernel
theorem st_ne : ∀ j, j < 13 → ∀ i, i < j → NL[sPos.getD j 0 + 4 + xLen.getD j 0 + i]? = some (.not (.eq (sTm i) (sTm j))) := by decide +kernel
theorem st_rf : ∀ i, i < 13 → tables_1[rPos.getD i 0]? = some (.stringRef (xStr.getD i ("", 0, "")).1 (xStr.getD i ("", 0, "")).2.1 (xStr.getD i ("", 0, "")).2.2) := by decide +kernel
theorem ka_ar : NL[10]? = some (.arrayOf kaT .int) := by decide +kernel
theorem ka_le : NL[11]? = some (.eq (.length kaT) (.int (Int32.ofNat 6))) := by decide +kernel
theorem ka_el : ∀ j, j < 6 → NL[12 + j]? = some (.eq (.elem kaT (.int (Int32.ofNat j))) (.int (xKA j))) := by decide +kernel
theorem cs_eq : NL[4]? = some (.eq (.static "java/lang/String" "COMPACT_STRINGS" "Z") (.int 1)) := by decide +kernel
theorem si_rf : NL[5]? = some (.isRef (.static "jdk/internal/util/Preconditions" "SIOOBE_FORMATTER" "Ljava/util/function/BiFunction;")) := by decide +kernel
theorem xNw_of {args : Array Value} {s : State} (hts : ∀ w ∈ lw_tbl, w.before args s = true) : xNw s :=
  ⟨va_AO.of (hts (.arrayOver (.object "CrystalByTheMinute$Text")) (tb_in 24 (by decide +kernel))), va_AO.of (hts (.arrayOver (.object "CrystalByTheMinute$Sheet")) (tb_in 117 (by decide +kernel))), hts (.arrayOver (.array .int)) (tb_in 59 (by decide +kernel)),
   va_tabs rfl rfl (hts (.methodLinkNest "CrystalByTheMinute" 17 yX2_init "CrystalByTheMinute") (tb_in 27 (by decide +kernel))), va_tabs rfl rfl (hts (.methodLinkNest "CrystalByTheMinute" 24 yX0_init "CrystalByTheMinute") (tb_in 54 (by decide +kernel))), va_tabs rfl rfl (hts (.methodLinkNest "CrystalByTheMinute" 35 yX3_init "CrystalByTheMinute") (tb_in 119 (by decide +kernel))), va_tabs rfl rfl (hts (.methodLinkNest "CrystalByTheMinute" 36 yX1_init "CrystalByTheMinute") (tb_in 137 (by decide +kernel)))⟩
theorem old_of {args : Array Value} {s : State} {b L : Nat} {xs : Nat → Int32} (hts : ∀ w ∈ lw_tbl, w.before args s = true) (hs : ∀ c ∈ NL, c.before args s = true) (hX : va_X b L xs s s.heap) (hbl : b < s.heap.size) : ∃ ad : Nat → Nat, ad 0 = b ∧ ∀ (D : va_G) (k : Nat → Nat), xOld (s.heap.size, D, ad, (L, xs), k) s s.heap := by
  have hA : ∀ a : Nat, a < s.heap.size → ¬ (fun q : Nat => s.heap.size ≤ q) a := fun a h => Nat.not_le.mpr h
  have pl : ∀ (k : Nat) (c : Cond), NL[k]? = some c → c.before args s = true := fun k c h => hs c (List.mem_of_getElem? h)
  obtain ⟨adK, adV, hS, hE⟩ := vk_Sof (N := 13) (tm := sTm) (len := xLen) (byt := xByt) (A := fun q : Nat => s.heap.size ≤ q) (args := args) (s := s) (by decide) (fun i hi => pl _ _ (st_ex i hi)) (fun i hi => pl _ _ (st_co i hi)) (fun i hi => pl _ _ (st_ar i hi)) (fun i hi => pl _ _ (st_le i hi)) (fun i hi j hj => pl _ _ (st_el i hi j hj)) (fun i j hi hj hij => by
    rcases Nat.lt_or_gt_of_ne hij with z | z
    · exact Or.inl (pl _ _ (st_ne j hj i z))
    · exact Or.inr (pl _ _ (st_ne i hi j z))) hA
  obtain ⟨t1, e1, hT⟩ := va_Tof (tm := kaT) (ty := .int) (N := 6) (f := fun j => .int (xKA j)) (A := fun q : Nat => s.heap.size ≤ q) (args := args) (s := s) (by decide) (pl _ _ ka_ar) (va_eqt (pl _ _ ka_le)) (fun j hj => va_eqt (pl _ _ (ka_el j hj))) hA
  have hZ1 := va_Zref (A := fun q : Nat => s.heap.size ≤ q) (hts (.laysStatic "CrystalByTheMinute" "KIND_ABOVE" "[I") (tb_in 728 (by decide +kernel))) (hts (.initialized "CrystalByTheMinute") (tb_in 1 (by decide +kernel))) e1 hA
  have hZ0 := va_Zof (A := fun q : Nat => s.heap.size ≤ q) (hts (.laysStatic "java/lang/String" "COMPACT_STRINGS" "Z") (tb_in 221 (by decide +kernel))) (hts (.initialized "java/lang/String") (tb_in 7 (by decide +kernel))) (va_eqi (pl _ _ cs_eq)) hA
  have hZ2 := va_Zqof (A := fun q : Nat => s.heap.size ≤ q) (hts (.laysStatic "jdk/internal/util/Preconditions" "SIOOBE_FORMATTER" "Ljava/util/function/BiFunction;") (tb_in 237 (by decide +kernel))) (hts (.initialized "jdk/internal/util/Preconditions") (tb_in 9 (by decide +kernel))) (pl _ _ si_rf) hA
  obtain ⟨t28, hZ2⟩ : ∃ t : Nat, va_Z "jdk/internal/util/Preconditions" "SIOOBE_FORMATTER" "Ljava/util/function/BiFunction;" .null (fun q : Nat => s.heap.size ≤ q) s s.heap ∨ va_Z "jdk/internal/util/Preconditions" "SIOOBE_FORMATTER" "Ljava/util/function/BiFunction;" (.ref t) (fun q : Nat => s.heap.size ≤ q) s s.heap := by
    rcases hZ2 with h | ⟨t, h⟩
    · exact ⟨0, Or.inl h⟩
    · exact ⟨t, Or.inr h⟩
  have ht1 : t1 < s.heap.size := Nat.lt_of_not_le hT.out
  let ad : Nat → Nat := fun k => if k = 0 then b else if k = 1 then t1 else if k < 15 then adK (k - 2) else if k < 28 then adV (k - 15) else t28
  have k1 : ∀ i, i < 13 → ad (i + 2) = adK i := fun i hi => by
    show (if i + 2 = 0 then b else if i + 2 = 1 then t1 else if i + 2 < 15 then adK (i + 2 - 2) else if i + 2 < 28 then adV (i + 2 - 15) else t28) = _
    rw [if_neg (by omega), if_neg (by omega), if_pos (by omega), Nat.add_sub_cancel]
  have k2 : ∀ i, i < 13 → ad (i + 15) = adV i := fun i hi => by
    show (if i + 15 = 0 then b else if i + 15 = 1 then t1 else if i + 15 < 15 then adK (i + 15 - 2) else if i + 15 < 28 then adV (i + 15 - 15) else t28) = _
    rw [if_neg (by omega), if_neg (by omega), if_neg (by omega), if_pos (by omega), Nat.add_sub_cancel]
  refine ⟨ad, rfl, fun D k => ⟨⟨hX, hbl⟩, ⟨hZ1, hT, ht1⟩, hZ0, ⟨fun i hi => ?_, fun i j hi hj e => ?_⟩, fun i q hq => ?_, hZ2, xNw_of hts⟩⟩
  · show va_O "java/lang/String" (ad (i + 2)) _ s s.heap ∧ va_OF "java/lang/String" "coder" "B" (.int 0) (ad (i + 2)) _ s s.heap ∧ va_OF "java/lang/String" "value" "[B" (.ref (ad (i + 15))) (ad (i + 2)) _ s s.heap ∧ va_T .byte (ad (i + 15)) (xLen.getD i 0) (fun j => .int ((xByt.getD i []).getD j 0)) _ s s.heap
    rw [k1 i hi, k2 i hi]
    exact hS.1 i hi
  · have e : ad (i + 2) = ad (j + 2) := e
    rw [k1 i hi, k1 j hj] at e
    exact hS.2 i j hi hj e
  · have hi : i < 13 := (List.getElem?_eq_some_iff.mp hq).1
    have eq : xStr.getD i ("", 0, "") = q := by rw [List.getD_eq_getElem?_getD, hq]; rfl
    show vk_R q.1 q.2.1 q.2.2 (ad (i + 2)) s
    rw [k1 i hi, ← eq]
    exact vk_R.of (hts _ (tb_in _ (st_rf i hi))) (hE i hi)
