/-- an array class of the tables -/
theorem law_arr {s : State} {args : Array Value} {ty : FieldType} (h : (Cond.arrayClass ty).before args s = true) : ∃ cA : ClassId, ArrOfT s cA ty ∧ s.vm.findClass ("[" ++ ty.toString) = some cA := by
  obtain ⟨cA, kA, comp, h1, h2, h3⟩ := Cond.arrayClass_spec h
  exact ⟨cA, fun n z => ⟨fun k q => (by cases q), kA, h2, comp, h3⟩, h1⟩
set_option maxRecDepth 100000 in
theorem law_f1 : ∀ i, i < 11 → (Cond.exactly (.string "EggReasons$HouseReader" (poW.getD i 0)) "java/lang/String") ∈ flatC (Jvm.Cond.and given_1 narrow_1) := by decide +kernel
set_option maxRecDepth 100000 in
theorem law_f2 : ∀ i, i < 11 → (Cond.eq (.field (.string "EggReasons$HouseReader" (poW.getD i 0)) "java/lang/String" "coder" "B") (.int 0)) ∈ flatC (Jvm.Cond.and given_1 narrow_1) := by decide +kernel
set_option maxRecDepth 100000 in
theorem law_f3 : ∀ i, i < 11 → (Cond.arrayOf (.field (.string "EggReasons$HouseReader" (poW.getD i 0)) "java/lang/String" "value" "[B") .byte) ∈ flatC (Jvm.Cond.and given_1 narrow_1) := by decide +kernel
set_option maxRecDepth 100000 in
theorem law_f4 : ∀ i, i < 11 → (Cond.eq (.length (.field (.string "EggReasons$HouseReader" (poW.getD i 0)) "java/lang/String" "value" "[B")) (.int (Int32.ofNat (lenW.getD i 0)))) ∈ flatC (Jvm.Cond.and given_1 narrow_1) := by decide +kernel
set_option maxRecDepth 100000 in
theorem law_f5 : ∀ i, i < 11 → ∀ j, j < lenW.getD i 0 → (Cond.eq (.elem (.field (.string "EggReasons$HouseReader" (poW.getD i 0)) "java/lang/String" "value" "[B") (.int (Int32.ofNat j))) (.int ((bytW.getD i []).getD j 0))) ∈ flatC (Jvm.Cond.and given_1 narrow_1) := by decide +kernel
set_option maxRecDepth 100000 in
theorem law_f6 : ∀ i, i < 11 → ∀ j, j < 11 → i ≠ j → (Cond.not (Cond.eq (.string "EggReasons$HouseReader" (poW.getD i 0)) (.string "EggReasons$HouseReader" (poW.getD j 0)))) ∈ flatC (Jvm.Cond.and given_1 narrow_1) ∨ (Cond.not (Cond.eq (.string "EggReasons$HouseReader" (poW.getD j 0)) (.string "EggReasons$HouseReader" (poW.getD i 0)))) ∈ flatC (Jvm.Cond.and given_1 narrow_1) := by decide +kernel
set_option maxRecDepth 100000 in
theorem law_f7 : ∀ i, i < 11 → (Cond.stringRef "EggReasons$HouseReader" (poW.getD i 0) (txW.getD i "")) ∈ lw_tbl := by decide +kernel
set_option maxRecDepth 100000 in
theorem law_f8 : ∀ j, j < 6 → (Cond.eq (.elem (.static "EggReasons$Kinds" "ABOVE" "[I") (.int (Int32.ofNat j))) (.int (([-1, 0, 0, 0, 1, 2] : List Int32).getD j 0))) ∈ flatC (Jvm.Cond.and given_1 narrow_1) := by decide +kernel
theorem law_ab : ∀ j, j < 6 → (Value.int (([-1, 0, 0, 0, 1, 2] : List Int32).getD j 0)) = abN j := fun j hj => by
  rcases (show j = 0 ∨ j = 1 ∨ j = 2 ∨ j = 3 ∨ j = 4 ∨ j = 5 by omega) with rfl | rfl | rfl | rfl | rfl | rfl <;> rfl
