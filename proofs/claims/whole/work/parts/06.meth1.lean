set_option maxRecDepth 20000
abbrev mi_X7_undo : MI := (yX7_undo, cX7_undo, 2, some .int, 4)
theorem ok_X7_undo : mOK mi_X7_undo := ⟨by decide +kernel, wTbl_4 74 (by rfl) (by decide +kernel), by decide, ⟨by decide +kernel, by decide +kernel⟩, wTbl_1 8 (by rfl) (by decide +kernel)⟩
abbrev mi_X7_setLattice : MI := (yX7_setLattice, cX7_setLattice, 4, some .int, 4)
theorem ok_X7_setLattice : mOK mi_X7_setLattice := ⟨by decide +kernel, wTbl_4 78 (by rfl) (by decide +kernel), by decide, ⟨by decide +kernel, by decide +kernel⟩, wTbl_1 8 (by rfl) (by decide +kernel)⟩
abbrev mi_X7_in : MI := (yX7_in, cX7_in, 3, some .boolean, 0)
theorem ok_X7_in : mOK mi_X7_in := ⟨by decide +kernel, wTbl_4 81 (by rfl) (by decide +kernel), by decide, ⟨by decide +kernel, by decide +kernel⟩, wTbl_1 8 (by rfl) (by decide +kernel)⟩
abbrev mi_X7_save : MI := (yX7_save, cX7_save, 2, none, 0)
theorem ok_X7_save : mOK mi_X7_save := ⟨by decide +kernel, wTbl_4 85 (by rfl) (by decide +kernel), by decide, ⟨by decide +kernel, by decide +kernel⟩, wTbl_1 8 (by rfl) (by decide +kernel)⟩
abbrev mi_X7_addGenerator : MI := (yX7_addGenerator, cX7_addGenerator, 4, some .int, 4)
theorem ok_X7_addGenerator : mOK mi_X7_addGenerator := ⟨by decide +kernel, wTbl_4 89 (by rfl) (by decide +kernel), by decide, ⟨by decide +kernel, by decide +kernel⟩, wTbl_1 8 (by rfl) (by decide +kernel)⟩
abbrev mi_X7_isMovement : MI := (yX7_isMovement, cX7_isMovement, 4, some .boolean, 1)
theorem ok_X7_isMovement : mOK mi_X7_isMovement := ⟨by decide +kernel, wTbl_4 93 (by rfl) (by decide +kernel), by decide, ⟨by decide +kernel, by decide +kernel⟩, wTbl_1 8 (by rfl) (by decide +kernel)⟩
abbrev mi_X7_removeGenerator : MI := (yX7_removeGenerator, cX7_removeGenerator, 3, some .int, 4)
theorem ok_X7_removeGenerator : mOK mi_X7_removeGenerator := ⟨by decide +kernel, wTbl_4 97 (by rfl) (by decide +kernel), by decide, ⟨by decide +kernel, by decide +kernel⟩, wTbl_1 8 (by rfl) (by decide +kernel)⟩
abbrev mi_X7_isGenerator : MI := (yX7_isGenerator, cX7_isGenerator, 2, some .boolean, 1)
theorem ok_X7_isGenerator : mOK mi_X7_isGenerator := ⟨by decide +kernel, wTbl_4 101 (by rfl) (by decide +kernel), by decide, ⟨by decide +kernel, by decide +kernel⟩, wTbl_1 8 (by rfl) (by decide +kernel)⟩
abbrev mi_X7_setGenerator : MI := (yX7_setGenerator, cX7_setGenerator, 6, some .int, 4)
theorem ok_X7_setGenerator : mOK mi_X7_setGenerator := ⟨by decide +kernel, wTbl_4 105 (by rfl) (by decide +kernel), by decide, ⟨by decide +kernel, by decide +kernel⟩, wTbl_1 8 (by rfl) (by decide +kernel)⟩
abbrev mi_X7_generator : MI := (yX7_generator, cX7_generator, 2, some .int, 0)
theorem ok_X7_generator : mOK mi_X7_generator := ⟨by decide +kernel, wTbl_4 109 (by rfl) (by decide +kernel), by decide, ⟨by decide +kernel, by decide +kernel⟩, wTbl_1 8 (by rfl) (by decide +kernel)⟩
abbrev mi_X7_order : MI := (yX7_order, cX7_order, 1, some .int, 0)
theorem ok_X7_order : mOK mi_X7_order := ⟨by decide +kernel, wTbl_4 113 (by rfl) (by decide +kernel), by decide, ⟨by decide +kernel, by decide +kernel⟩, wTbl_1 8 (by rfl) (by decide +kernel)⟩
abbrev mi_X7_element : MI := (yX7_element, cX7_element, 4, some .int, 1)
theorem ok_X7_element : mOK mi_X7_element := ⟨by decide +kernel, wTbl_4 117 (by rfl) (by decide +kernel), by decide, ⟨by decide +kernel, by decide +kernel⟩, wTbl_1 8 (by rfl) (by decide +kernel)⟩
abbrev mi_X7_contains : MI := (yX7_contains, cX7_contains, 2, some .int, 2)
theorem ok_X7_contains : mOK mi_X7_contains := ⟨by decide +kernel, wTbl_4 121 (by rfl) (by decide +kernel), by decide, ⟨by decide +kernel, by decide +kernel⟩, wTbl_1 8 (by rfl) (by decide +kernel)⟩
abbrev mi_X7_isCode : MI := (yX7_isCode, cX7_isCode, 2, some .boolean, 1)
theorem ok_X7_isCode : mOK mi_X7_isCode := ⟨by decide +kernel, wTbl_4 125 (by rfl) (by decide +kernel), by decide, ⟨by decide +kernel, by decide +kernel⟩, wTbl_1 8 (by rfl) (by decide +kernel)⟩
abbrev mi_X7_product : MI := (yX7_product, cX7_product, 3, some .int, 3)
theorem ok_X7_product : mOK mi_X7_product := ⟨by decide +kernel, wTbl_4 129 (by rfl) (by decide +kernel), by decide, ⟨by decide +kernel, by decide +kernel⟩, wTbl_1 8 (by rfl) (by decide +kernel)⟩
abbrev mi_X7_orderOf : MI := (yX7_orderOf, cX7_orderOf, 4, some .int, 3)
theorem ok_X7_orderOf : mOK mi_X7_orderOf := ⟨by decide +kernel, wTbl_4 133 (by rfl) (by decide +kernel), by decide, ⟨by decide +kernel, by decide +kernel⟩, wTbl_1 8 (by rfl) (by decide +kernel)⟩
abbrev mi_X7_kindOf : MI := (yX7_kindOf, cX7_kindOf, 2, some .int, 4)
theorem ok_X7_kindOf : mOK mi_X7_kindOf := ⟨by decide +kernel, wTbl_4 137 (by rfl) (by decide +kernel), by decide, ⟨by decide +kernel, by decide +kernel⟩, wTbl_1 8 (by rfl) (by decide +kernel)⟩
abbrev mi_X7_kindOfCode : MI := (yX7_kindOfCode, cX7_kindOfCode, 3, some .int, 3)
theorem ok_X7_kindOfCode : mOK mi_X7_kindOfCode := ⟨by decide +kernel, wTbl_4 141 (by rfl) (by decide +kernel), by decide, ⟨by decide +kernel, by decide +kernel⟩, wTbl_1 8 (by rfl) (by decide +kernel)⟩
abbrev mi_X7_isTurn : MI := (yX7_isTurn, cX7_isTurn, 2, some .boolean, 0)
theorem ok_X7_isTurn : mOK mi_X7_isTurn := ⟨by decide +kernel, wTbl_4 145 (by rfl) (by decide +kernel), by decide, ⟨by decide +kernel, by decide +kernel⟩, wTbl_1 8 (by rfl) (by decide +kernel)⟩
abbrev mi_X7_isReflection : MI := (yX7_isReflection, cX7_isReflection, 8, some .boolean, 2)
theorem ok_X7_isReflection : mOK mi_X7_isReflection := ⟨by decide +kernel, wTbl_4 149 (by rfl) (by decide +kernel), by decide, ⟨by decide +kernel, by decide +kernel⟩, wTbl_1 8 (by rfl) (by decide +kernel)⟩
abbrev mi_X7_divisor : MI := (yX7_divisor, cX7_divisor, 5, some .int, 0)
theorem ok_X7_divisor : mOK mi_X7_divisor := ⟨by decide +kernel, wTbl_4 152 (by rfl) (by decide +kernel), by decide, ⟨by decide +kernel, by decide +kernel⟩, wTbl_1 8 (by rfl) (by decide +kernel)⟩
abbrev mi_X7_count : MI := (yX7_count, cX7_count, 4, some .int, 4)
theorem ok_X7_count : mOK mi_X7_count := ⟨by decide +kernel, wTbl_4 156 (by rfl) (by decide +kernel), by decide, ⟨by decide +kernel, by decide +kernel⟩, wTbl_1 8 (by rfl) (by decide +kernel)⟩
abbrev mi_X7_isAbelian : MI := (yX7_isAbelian, cX7_isAbelian, 1, some .int, 4)
theorem ok_X7_isAbelian : mOK mi_X7_isAbelian := ⟨by decide +kernel, wTbl_4 160 (by rfl) (by decide +kernel), by decide, ⟨by decide +kernel, by decide +kernel⟩, wTbl_1 8 (by rfl) (by decide +kernel)⟩
abbrev mi_X7_commutingPairs : MI := (yX7_commutingPairs, cX7_commutingPairs, 4, some .int, 3)
theorem ok_X7_commutingPairs : mOK mi_X7_commutingPairs := ⟨by decide +kernel, wTbl_4 164 (by rfl) (by decide +kernel), by decide, ⟨by decide +kernel, by decide +kernel⟩, wTbl_1 8 (by rfl) (by decide +kernel)⟩
abbrev mi_X7_conjugacyClasses : MI := (yX7_conjugacyClasses, cX7_conjugacyClasses, 1, some .int, 4)
theorem ok_X7_conjugacyClasses : mOK mi_X7_conjugacyClasses := ⟨by decide +kernel, wTbl_4 168 (by rfl) (by decide +kernel), by decide, ⟨by decide +kernel, by decide +kernel⟩, wTbl_1 8 (by rfl) (by decide +kernel)⟩
abbrev mi_X7_linearParts : MI := (yX7_linearParts, cX7_linearParts, 1, some .int, 5)
theorem ok_X7_linearParts : mOK mi_X7_linearParts := ⟨by decide +kernel, wTbl_4 172 (by rfl) (by decide +kernel), by decide, ⟨by decide +kernel, by decide +kernel⟩, wTbl_1 8 (by rfl) (by decide +kernel)⟩
abbrev mi_X7_partSet : MI := (yX7_partSet, cX7_partSet, 5, some .int, 4)
theorem ok_X7_partSet : mOK mi_X7_partSet := ⟨by decide +kernel, wTbl_4 176 (by rfl) (by decide +kernel), by decide, ⟨by decide +kernel, by decide +kernel⟩, wTbl_1 8 (by rfl) (by decide +kernel)⟩
abbrev mi_X7_ones : MI := (yX7_ones, cX7_ones, 3, some .int, 0)
theorem ok_X7_ones : mOK mi_X7_ones := ⟨by decide +kernel, wTbl_4 179 (by rfl) (by decide +kernel), by decide, ⟨by decide +kernel, by decide +kernel⟩, wTbl_1 8 (by rfl) (by decide +kernel)⟩
abbrev mi_X7_rotationOrder : MI := (yX7_rotationOrder, cX7_rotationOrder, 1, some .int, 6)
theorem ok_X7_rotationOrder : mOK mi_X7_rotationOrder := ⟨by decide +kernel, wTbl_4 183 (by rfl) (by decide +kernel), by decide, ⟨by decide +kernel, by decide +kernel⟩, wTbl_1 8 (by rfl) (by decide +kernel)⟩
abbrev mi_X7_greatestTurn : MI := (yX7_greatestTurn, cX7_greatestTurn, 5, some .int, 5)
theorem ok_X7_greatestTurn : mOK mi_X7_greatestTurn := ⟨by decide +kernel, wTbl_4 187 (by rfl) (by decide +kernel), by decide, ⟨by decide +kernel, by decide +kernel⟩, wTbl_1 8 (by rfl) (by decide +kernel)⟩
abbrev mi_X7_orderOfPart : MI := (yX7_orderOfPart, cX7_orderOfPart, 4, some .int, 0)
theorem ok_X7_orderOfPart : mOK mi_X7_orderOfPart := ⟨by decide +kernel, wTbl_4 191 (by rfl) (by decide +kernel), by decide, ⟨by decide +kernel, by decide +kernel⟩, wTbl_1 8 (by rfl) (by decide +kernel)⟩
abbrev mi_X7_mirrorDirections : MI := (yX7_mirrorDirections, cX7_mirrorDirections, 1, some .int, 6)
theorem ok_X7_mirrorDirections : mOK mi_X7_mirrorDirections := ⟨by decide +kernel, wTbl_4 195 (by rfl) (by decide +kernel), by decide, ⟨by decide +kernel, by decide +kernel⟩, wTbl_1 8 (by rfl) (by decide +kernel)⟩
abbrev mi_X7_directions : MI := (yX7_directions, cX7_directions, 1, some .int, 5)
theorem ok_X7_directions : mOK mi_X7_directions := ⟨by decide +kernel, wTbl_4 199 (by rfl) (by decide +kernel), by decide, ⟨by decide +kernel, by decide +kernel⟩, wTbl_1 8 (by rfl) (by decide +kernel)⟩
abbrev mi_X7_isCentered : MI := (yX7_isCentered, cX7_isCentered, 1, some .int, 6)
theorem ok_X7_isCentered : mOK mi_X7_isCentered := ⟨by decide +kernel, wTbl_4 203 (by rfl) (by decide +kernel), by decide, ⟨by decide +kernel, by decide +kernel⟩, wTbl_1 8 (by rfl) (by decide +kernel)⟩
abbrev mi_X7_isCenteredNow : MI := (yX7_isCenteredNow, cX7_isCenteredNow, 4, some .boolean, 5)
theorem ok_X7_isCenteredNow : mOK mi_X7_isCenteredNow := ⟨by decide +kernel, wTbl_4 207 (by rfl) (by decide +kernel), by decide, ⟨by decide +kernel, by decide +kernel⟩, wTbl_1 8 (by rfl) (by decide +kernel)⟩
abbrev mi_X7_isCenteredBy : MI := (yX7_isCenteredBy, cX7_isCenteredBy, 4, some .boolean, 4)
theorem ok_X7_isCenteredBy : mOK mi_X7_isCenteredBy := ⟨by decide +kernel, wTbl_4 211 (by rfl) (by decide +kernel), by decide, ⟨by decide +kernel, by decide +kernel⟩, wTbl_1 8 (by rfl) (by decide +kernel)⟩
abbrev mi_X7_isHalved : MI := (yX7_isHalved, cX7_isHalved, 6, some .boolean, 3)
theorem ok_X7_isHalved : mOK mi_X7_isHalved := ⟨by decide +kernel, wTbl_4 215 (by rfl) (by decide +kernel), by decide, ⟨by decide +kernel, by decide +kernel⟩, wTbl_1 8 (by rfl) (by decide +kernel)⟩
abbrev mi_X7_isLatticeVector : MI := (yX7_isLatticeVector, cX7_isLatticeVector, 3, some .boolean, 2)
theorem ok_X7_isLatticeVector : mOK mi_X7_isLatticeVector := ⟨by decide +kernel, wTbl_4 219 (by rfl) (by decide +kernel), by decide, ⟨by decide +kernel, by decide +kernel⟩, wTbl_1 8 (by rfl) (by decide +kernel)⟩
abbrev mi_X7_type : MI := (yX7_type, cX7_type, 4, some .int, 6)
theorem ok_X7_type : mOK mi_X7_type := ⟨by decide +kernel, wTbl_4 223 (by rfl) (by decide +kernel), by decide, ⟨by decide +kernel, by decide +kernel⟩, wTbl_1 8 (by rfl) (by decide +kernel)⟩
abbrev mi_X7_isShortestFixed : MI := (yX7_isShortestFixed, cX7_isShortestFixed, 9, some .boolean, 5)
theorem ok_X7_isShortestFixed : mOK mi_X7_isShortestFixed := ⟨by decide +kernel, wTbl_4 227 (by rfl) (by decide +kernel), by decide, ⟨by decide +kernel, by decide +kernel⟩, wTbl_1 8 (by rfl) (by decide +kernel)⟩
abbrev mi_X7_leastSquared : MI := (yX7_leastSquared, cX7_leastSquared, 6, some .int, 3)
theorem ok_X7_leastSquared : mOK mi_X7_leastSquared := ⟨by decide +kernel, wTbl_4 231 (by rfl) (by decide +kernel), by decide, ⟨by decide +kernel, by decide +kernel⟩, wTbl_1 8 (by rfl) (by decide +kernel)⟩
abbrev mi_X7_squared : MI := (yX7_squared, cX7_squared, 3, some .int, 0)
theorem ok_X7_squared : mOK mi_X7_squared := ⟨by decide +kernel, wTbl_4 235 (by rfl) (by decide +kernel), by decide, ⟨by decide +kernel, by decide +kernel⟩, wTbl_1 8 (by rfl) (by decide +kernel)⟩
abbrev mi_X7_orbitSize : MI := (yX7_orbitSize, cX7_orbitSize, 3, some .int, 4)
theorem ok_X7_orbitSize : mOK mi_X7_orbitSize := ⟨by decide +kernel, wTbl_4 239 (by rfl) (by decide +kernel), by decide, ⟨by decide +kernel, by decide +kernel⟩, wTbl_1 8 (by rfl) (by decide +kernel)⟩
abbrev mi_X7_isCell : MI := (yX7_isCell, cX7_isCell, 3, some .boolean, 1)
theorem ok_X7_isCell : mOK mi_X7_isCell := ⟨by decide +kernel, wTbl_5 3 (by rfl) (by decide +kernel), by decide, ⟨by decide +kernel, by decide +kernel⟩, wTbl_1 8 (by rfl) (by decide +kernel)⟩
abbrev mi_X7_orbit : MI := (yX7_orbit, cX7_orbit, 4, some .int, 3)
theorem ok_X7_orbit : mOK mi_X7_orbit := ⟨by decide +kernel, wTbl_5 7 (by rfl) (by decide +kernel), by decide, ⟨by decide +kernel, by decide +kernel⟩, wTbl_1 8 (by rfl) (by decide +kernel)⟩
abbrev mi_X7_sends : MI := (yX7_sends, cX7_sends, 6, some .int, 2)
theorem ok_X7_sends : mOK mi_X7_sends := ⟨by decide +kernel, wTbl_5 11 (by rfl) (by decide +kernel), by decide, ⟨by decide +kernel, by decide +kernel⟩, wTbl_1 8 (by rfl) (by decide +kernel)⟩
abbrev mi_X7_many : MI := (yX7_many, cX7_many, 3, some .int, 0)
theorem ok_X7_many : mOK mi_X7_many := ⟨by decide +kernel, wTbl_5 14 (by rfl) (by decide +kernel), by decide, ⟨by decide +kernel, by decide +kernel⟩, wTbl_1 8 (by rfl) (by decide +kernel)⟩
abbrev mi_X7_orbitFirst : MI := (yX7_orbitFirst, cX7_orbitFirst, 3, some .int, 4)
theorem ok_X7_orbitFirst : mOK mi_X7_orbitFirst := ⟨by decide +kernel, wTbl_5 18 (by rfl) (by decide +kernel), by decide, ⟨by decide +kernel, by decide +kernel⟩, wTbl_1 8 (by rfl) (by decide +kernel)⟩
abbrev mi_X7_first : MI := (yX7_first, cX7_first, 2, some .int, 0)
theorem ok_X7_first : mOK mi_X7_first := ⟨by decide +kernel, wTbl_5 21 (by rfl) (by decide +kernel), by decide, ⟨by decide +kernel, by decide +kernel⟩, wTbl_1 8 (by rfl) (by decide +kernel)⟩
abbrev mi_X7_stabilizerOrder : MI := (yX7_stabilizerOrder, cX7_stabilizerOrder, 3, some .int, 4)
theorem ok_X7_stabilizerOrder : mOK mi_X7_stabilizerOrder := ⟨by decide +kernel, wTbl_5 25 (by rfl) (by decide +kernel), by decide, ⟨by decide +kernel, by decide +kernel⟩, wTbl_1 8 (by rfl) (by decide +kernel)⟩
abbrev mi_X7_stabilizer : MI := (yX7_stabilizer, cX7_stabilizer, 4, some .int, 3)
theorem ok_X7_stabilizer : mOK mi_X7_stabilizer := ⟨by decide +kernel, wTbl_5 29 (by rfl) (by decide +kernel), by decide, ⟨by decide +kernel, by decide +kernel⟩, wTbl_1 8 (by rfl) (by decide +kernel)⟩
abbrev mi_X7_orbitCount : MI := (yX7_orbitCount, cX7_orbitCount, 1, some .int, 5)
theorem ok_X7_orbitCount : mOK mi_X7_orbitCount := ⟨by decide +kernel, wTbl_5 33 (by rfl) (by decide +kernel), by decide, ⟨by decide +kernel, by decide +kernel⟩, wTbl_1 8 (by rfl) (by decide +kernel)⟩
abbrev mi_X7_orbits : MI := (yX7_orbits, cX7_orbits, 3, some .int, 4)
theorem ok_X7_orbits : mOK mi_X7_orbits := ⟨by decide +kernel, wTbl_5 37 (by rfl) (by decide +kernel), by decide, ⟨by decide +kernel, by decide +kernel⟩, wTbl_1 8 (by rfl) (by decide +kernel)⟩
abbrev mi_X7_isSymmorphic : MI := (yX7_isSymmorphic, cX7_isSymmorphic, 4, some .int, 5)
theorem ok_X7_isSymmorphic : mOK mi_X7_isSymmorphic := ⟨by decide +kernel, wTbl_5 41 (by rfl) (by decide +kernel), by decide, ⟨by decide +kernel, by decide +kernel⟩, wTbl_1 8 (by rfl) (by decide +kernel)⟩
abbrev mi_X7_invariantColorings : MI := (yX7_invariantColorings, cX7_invariantColorings, 2, some .long, 5)
theorem ok_X7_invariantColorings : mOK mi_X7_invariantColorings := ⟨by decide +kernel, wTbl_5 45 (by rfl) (by decide +kernel), by decide, ⟨by decide +kernel, by decide +kernel⟩, wTbl_1 8 (by rfl) (by decide +kernel)⟩
abbrev mi_X7_power : MI := (yX7_power, cX7_power, 5, some .long, 0)
theorem ok_X7_power : mOK mi_X7_power := ⟨by decide +kernel, wTbl_5 48 (by rfl) (by decide +kernel), by decide, ⟨by decide +kernel, by decide +kernel⟩, wTbl_1 8 (by rfl) (by decide +kernel)⟩
abbrev mi_X7_coloringClasses : MI := (yX7_coloringClasses, cX7_coloringClasses, 5, some .long, 4)
theorem ok_X7_coloringClasses : mOK mi_X7_coloringClasses := ⟨by decide +kernel, wTbl_5 53 (by rfl) (by decide +kernel), by decide, ⟨by decide +kernel, by decide +kernel⟩, wTbl_1 8 (by rfl) (by decide +kernel)⟩
abbrev mi_X7_cycles : MI := (yX7_cycles, cX7_cycles, 6, some .int, 3)
theorem ok_X7_cycles : mOK mi_X7_cycles := ⟨by decide +kernel, wTbl_5 57 (by rfl) (by decide +kernel), by decide, ⟨by decide +kernel, by decide +kernel⟩, wTbl_1 8 (by rfl) (by decide +kernel)⟩
theorem v_X6_57 : vOK RX6 57 0 mi_X6_refresh := ⟨wTbl_1 160 (by rfl) (by decide +kernel), wTbl_1 162 (by rfl) (by decide +kernel), wTbl_s 0 (n := 6) (by rfl), by decide +kernel⟩
theorem v_X6_64 : vOK RX6 64 2 mi_X4_save := ⟨wTbl_2 80 (by rfl) (by decide +kernel), wTbl_2 81 (by rfl) (by decide +kernel), wTbl_2 82 (by rfl) (by decide +kernel), by decide +kernel⟩
theorem v_X6_67 : vOK RX6 67 2 mi_X5_choose := ⟨wTbl_2 93 (by rfl) (by decide +kernel), wTbl_2 94 (by rfl) (by decide +kernel), wTbl_2 95 (by rfl) (by decide +kernel), by decide +kernel⟩
theorem v_X6_71 : vOK RX6 71 0 mi_X2_clear := ⟨wTbl_2 97 (by rfl) (by decide +kernel), wTbl_2 98 (by rfl) (by decide +kernel), wTbl_2 99 (by rfl) (by decide +kernel), by decide +kernel⟩
theorem v_X6_74 : vOK RX6 74 3 mi_X5_hasMovement := ⟨wTbl_2 105 (by rfl) (by decide +kernel), wTbl_2 106 (by rfl) (by decide +kernel), wTbl_2 107 (by rfl) (by decide +kernel), by decide +kernel⟩
theorem v_X6_78 : vOK RX6 78 0 mi_X2_isFull := ⟨wTbl_2 117 (by rfl) (by decide +kernel), wTbl_2 118 (by rfl) (by decide +kernel), wTbl_2 119 (by rfl) (by decide +kernel), by decide +kernel⟩
theorem v_X6_82 : vOK RX6 82 3 mi_X5_codeOf := ⟨wTbl_2 121 (by rfl) (by decide +kernel), wTbl_1 239 (by rfl) (by decide +kernel), wTbl_2 0 (by rfl) (by decide +kernel), by decide +kernel⟩
theorem v_X6_86 : vOK RX6 86 1 mi_X2_append := ⟨wTbl_2 122 (by rfl) (by decide +kernel), wTbl_2 123 (by rfl) (by decide +kernel), wTbl_2 124 (by rfl) (by decide +kernel), by decide +kernel⟩
theorem v_X6_90 : vOK RX6 90 0 mi_X3_size := ⟨wTbl_2 131 (by rfl) (by decide +kernel), wTbl_2 16 (by rfl) (by decide +kernel), wTbl_2 17 (by rfl) (by decide +kernel), by decide +kernel⟩
theorem v_X6_94 : vOK RX6 94 1 mi_X2_has := ⟨wTbl_2 136 (by rfl) (by decide +kernel), wTbl_2 137 (by rfl) (by decide +kernel), wTbl_2 138 (by rfl) (by decide +kernel), by decide +kernel⟩
theorem v_X6_98 : vOK RX6 98 1 mi_X2_removeAt := ⟨wTbl_2 140 (by rfl) (by decide +kernel), wTbl_2 141 (by rfl) (by decide +kernel), wTbl_2 142 (by rfl) (by decide +kernel), by decide +kernel⟩
theorem v_X6_101 : vOK RX6 101 1 mi_X2_codeAt := ⟨wTbl_2 150 (by rfl) (by decide +kernel), wTbl_1 179 (by rfl) (by decide +kernel), wTbl_1 180 (by rfl) (by decide +kernel), by decide +kernel⟩
theorem v_X6_105 : vOK RX6 105 2 mi_X2_replace := ⟨wTbl_2 151 (by rfl) (by decide +kernel), wTbl_2 128 (by rfl) (by decide +kernel), wTbl_2 129 (by rfl) (by decide +kernel), by decide +kernel⟩
theorem v_X6_108 : vOK RX6 108 0 mi_X4_isEmpty := ⟨wTbl_2 156 (by rfl) (by decide +kernel), wTbl_2 157 (by rfl) (by decide +kernel), wTbl_2 158 (by rfl) (by decide +kernel), by decide +kernel⟩
theorem v_X6_111 : vOK RX6 111 2 mi_X4_restore := ⟨wTbl_2 160 (by rfl) (by decide +kernel), wTbl_2 161 (by rfl) (by decide +kernel), wTbl_2 162 (by rfl) (by decide +kernel), by decide +kernel⟩
theorem v_X6_117 : vOK RX6 117 1 mi_X3_elementAt := ⟨wTbl_2 181 (by rfl) (by decide +kernel), wTbl_2 20 (by rfl) (by decide +kernel), wTbl_2 21 (by rfl) (by decide +kernel), by decide +kernel⟩
theorem v_X6_120 : vOK RX6 120 1 mi_X5_hasCode := ⟨wTbl_2 186 (by rfl) (by decide +kernel), wTbl_2 187 (by rfl) (by decide +kernel), wTbl_2 188 (by rfl) (by decide +kernel), by decide +kernel⟩
theorem v_X6_123 : vOK RX6 123 1 mi_X3_has := ⟨wTbl_2 194 (by rfl) (by decide +kernel), wTbl_2 195 (by rfl) (by decide +kernel), wTbl_2 196 (by rfl) (by decide +kernel), by decide +kernel⟩
theorem s_X6_124 : sOK RX6 124 1 mi_X6_oneIf := ⟨wTbl_2 198 (by rfl) (by decide +kernel), wTbl_2 199 (by rfl) (by decide +kernel), by decide +kernel⟩
theorem v_X6_128 : vOK RX6 128 2 mi_X5_times := ⟨wTbl_2 205 (by rfl) (by decide +kernel), wTbl_1 184 (by rfl) (by decide +kernel), wTbl_1 185 (by rfl) (by decide +kernel), by decide +kernel⟩
theorem v_X6_132 : vOK RX6 132 1 mi_X5_factorsToIdentity := ⟨wTbl_2 210 (by rfl) (by decide +kernel), wTbl_2 211 (by rfl) (by decide +kernel), wTbl_2 212 (by rfl) (by decide +kernel), by decide +kernel⟩
theorem v_X6_135 : vOK RX6 135 1 mi_X5_kindNumber := ⟨wTbl_2 219 (by rfl) (by decide +kernel), wTbl_2 29 (by rfl) (by decide +kernel), wTbl_2 30 (by rfl) (by decide +kernel), by decide +kernel⟩
theorem v_X6_138 : vOK RX6 138 1 mi_X1_elementsOfKind := ⟨wTbl_2 224 (by rfl) (by decide +kernel), wTbl_2 225 (by rfl) (by decide +kernel), wTbl_2 226 (by rfl) (by decide +kernel), by decide +kernel⟩
theorem v_X6_141 : vOK RX6 141 0 mi_X3_commutes := ⟨wTbl_2 232 (by rfl) (by decide +kernel), wTbl_2 233 (by rfl) (by decide +kernel), wTbl_2 234 (by rfl) (by decide +kernel), by decide +kernel⟩
theorem v_X6_144 : vOK RX6 144 0 mi_X3_countConjugacyClasses := ⟨wTbl_3 0 (by rfl) (by decide +kernel), wTbl_3 1 (by rfl) (by decide +kernel), wTbl_3 2 (by rfl) (by decide +kernel), by decide +kernel⟩
theorem v_X6_147 : vOK RX6 147 0 mi_X1_countParts := ⟨wTbl_3 24 (by rfl) (by decide +kernel), wTbl_3 25 (by rfl) (by decide +kernel), wTbl_3 26 (by rfl) (by decide +kernel), by decide +kernel⟩
theorem v_X6_150 : vOK RX6 150 0 mi_X1_greatestTurnOrder := ⟨wTbl_3 35 (by rfl) (by decide +kernel), wTbl_3 36 (by rfl) (by decide +kernel), wTbl_3 37 (by rfl) (by decide +kernel), by decide +kernel⟩
theorem v_X6_153 : vOK RX6 153 0 mi_X1_countMirrorParts := ⟨wTbl_3 55 (by rfl) (by decide +kernel), wTbl_3 56 (by rfl) (by decide +kernel), wTbl_3 57 (by rfl) (by decide +kernel), by decide +kernel⟩
theorem v_X6_156 : vOK RX6 156 0 mi_X1_hasCentering := ⟨wTbl_3 63 (by rfl) (by decide +kernel), wTbl_3 64 (by rfl) (by decide +kernel), wTbl_3 65 (by rfl) (by decide +kernel), by decide +kernel⟩
theorem v_X6_159 : vOK RX6 159 0 mi_X1_typeNumber := ⟨wTbl_3 88 (by rfl) (by decide +kernel), wTbl_3 89 (by rfl) (by decide +kernel), wTbl_3 90 (by rfl) (by decide +kernel), by decide +kernel⟩
theorem v_X6_162 : vOK RX6 162 2 mi_X5_hasCell := ⟨wTbl_3 135 (by rfl) (by decide +kernel), wTbl_2 114 (by rfl) (by decide +kernel), wTbl_2 115 (by rfl) (by decide +kernel), by decide +kernel⟩
theorem v_X6_166 : vOK RX6 166 2 mi_X5_cellOf := ⟨wTbl_3 136 (by rfl) (by decide +kernel), wTbl_2 3 (by rfl) (by decide +kernel), wTbl_2 4 (by rfl) (by decide +kernel), by decide +kernel⟩
theorem v_X6_169 : vOK RX6 169 1 mi_X0_sizeOfOrbit := ⟨wTbl_3 137 (by rfl) (by decide +kernel), wTbl_3 138 (by rfl) (by decide +kernel), wTbl_3 139 (by rfl) (by decide +kernel), by decide +kernel⟩
theorem v_X6_172 : vOK RX6 172 1 mi_X0_leastOfOrbit := ⟨wTbl_3 145 (by rfl) (by decide +kernel), wTbl_3 146 (by rfl) (by decide +kernel), wTbl_3 147 (by rfl) (by decide +kernel), by decide +kernel⟩
theorem v_X6_175 : vOK RX6 175 1 mi_X0_sizeOfStabilizer := ⟨wTbl_3 153 (by rfl) (by decide +kernel), wTbl_3 154 (by rfl) (by decide +kernel), wTbl_3 155 (by rfl) (by decide +kernel), by decide +kernel⟩
theorem v_X6_178 : vOK RX6 178 0 mi_X0_orbits := ⟨wTbl_3 164 (by rfl) (by decide +kernel), wTbl_3 165 (by rfl) (by decide +kernel), wTbl_3 166 (by rfl) (by decide +kernel), by decide +kernel⟩
theorem v_X6_181 : vOK RX6 181 1 mi_X0_hasStabilizerOf := ⟨wTbl_3 172 (by rfl) (by decide +kernel), wTbl_3 173 (by rfl) (by decide +kernel), wTbl_3 174 (by rfl) (by decide +kernel), by decide +kernel⟩
theorem s_X6_186 : sOK RX6 186 2 mi_X6_power := ⟨wTbl_3 182 (by rfl) (by decide +kernel), wTbl_3 183 (by rfl) (by decide +kernel), by decide +kernel⟩
theorem v_X6_190 : vOK RX6 190 1 mi_X0_countColoringClasses := ⟨wTbl_3 189 (by rfl) (by decide +kernel), wTbl_3 190 (by rfl) (by decide +kernel), wTbl_3 191 (by rfl) (by decide +kernel), by decide +kernel⟩
theorem v_X6_194 : vOK RX6 194 0 mi_X3_rebuild := ⟨wTbl_1 164 (by rfl) (by decide +kernel), wTbl_1 165 (by rfl) (by decide +kernel), wTbl_1 166 (by rfl) (by decide +kernel), by decide +kernel⟩
theorem v_X6_197 : vOK RX6 197 0 mi_X1_survey := ⟨wTbl_2 10 (by rfl) (by decide +kernel), wTbl_2 11 (by rfl) (by decide +kernel), wTbl_2 12 (by rfl) (by decide +kernel), by decide +kernel⟩
theorem v_X6_200 : vOK RX6 200 0 mi_X0_findOrbits := ⟨wTbl_2 37 (by rfl) (by decide +kernel), wTbl_2 38 (by rfl) (by decide +kernel), wTbl_2 39 (by rfl) (by decide +kernel), by decide +kernel⟩
theorem n_X0_40 : nOK RX0 40 1 mi_X6_clearMarks := ⟨List.mem_of_getElem? (i := 8) (by rfl), wTbl_1 169 (by rfl) (by decide +kernel), by decide +kernel⟩
theorem v_X0_48 : vOK RX0 48 0 mi_X5_cellCount := ⟨wTbl_2 42 (by rfl) (by decide +kernel), wTbl_1 192 (by rfl) (by decide +kernel), wTbl_1 193 (by rfl) (by decide +kernel), by decide +kernel⟩
theorem v_X0_54 : vOK RX0 54 1 mi_X0_findOrbit := ⟨wTbl_2 43 (by rfl) (by decide +kernel), wTbl_2 45 (by rfl) (by decide +kernel), wTbl_s 6 (n := 10) (by rfl), by decide +kernel⟩
theorem v_X0_61 : vOK RX0 61 1 mi_X0_reach := ⟨wTbl_2 47 (by rfl) (by decide +kernel), wTbl_2 49 (by rfl) (by decide +kernel), wTbl_s 7 (n := 10) (by rfl), by decide +kernel⟩
theorem v_X0_69 : vOK RX0 69 1 mi_X2_codeAt := ⟨wTbl_2 52 (by rfl) (by decide +kernel), wTbl_1 179 (by rfl) (by decide +kernel), wTbl_1 180 (by rfl) (by decide +kernel), by decide +kernel⟩
theorem v_X0_73 : vOK RX0 73 2 mi_X5_imageOfCell := ⟨wTbl_2 53 (by rfl) (by decide +kernel), wTbl_2 54 (by rfl) (by decide +kernel), wTbl_2 55 (by rfl) (by decide +kernel), by decide +kernel⟩
theorem n_X0_77 : nOK RX0 77 2 mi_X6_isInside := ⟨List.mem_of_getElem? (i := 9) (by rfl), wTbl_1 176 (by rfl) (by decide +kernel), by decide +kernel⟩
theorem v_X0_81 : vOK RX0 81 0 mi_X3_size := ⟨wTbl_3 157 (by rfl) (by decide +kernel), wTbl_2 16 (by rfl) (by decide +kernel), wTbl_2 17 (by rfl) (by decide +kernel), by decide +kernel⟩
theorem v_X0_85 : vOK RX0 85 1 mi_X0_sizeOfOrbit := ⟨wTbl_3 158 (by rfl) (by decide +kernel), wTbl_3 138 (by rfl) (by decide +kernel), wTbl_3 139 (by rfl) (by decide +kernel), by decide +kernel⟩
theorem n_X0_88 : nOK RX0 88 2 mi_X6_quotient := ⟨List.mem_of_getElem? (i := 12) (by rfl), wTbl_1 196 (by rfl) (by decide +kernel), by decide +kernel⟩
theorem v_X0_91 : vOK RX0 91 1 mi_X0_sizeOfStabilizer := ⟨wTbl_3 176 (by rfl) (by decide +kernel), wTbl_3 154 (by rfl) (by decide +kernel), wTbl_3 155 (by rfl) (by decide +kernel), by decide +kernel⟩
theorem v_X0_94 : vOK RX0 94 1 mi_X3_elementAt := ⟨wTbl_3 193 (by rfl) (by decide +kernel), wTbl_2 20 (by rfl) (by decide +kernel), wTbl_2 21 (by rfl) (by decide +kernel), by decide +kernel⟩
theorem v_X0_97 : vOK RX0 97 1 mi_X0_countCycles := ⟨wTbl_3 194 (by rfl) (by decide +kernel), wTbl_3 196 (by rfl) (by decide +kernel), wTbl_s 23 (n := 10) (by rfl), by decide +kernel⟩
theorem n_X0_100 : nOK RX0 100 2 mi_X6_power := ⟨List.mem_of_getElem? (i := 13) (by rfl), wTbl_3 183 (by rfl) (by decide +kernel), by decide +kernel⟩
theorem v_X0_104 : vOK RX0 104 1 mi_X0_fillImages := ⟨wTbl_3 198 (by rfl) (by decide +kernel), wTbl_3 200 (by rfl) (by decide +kernel), wTbl_s 24 (n := 10) (by rfl), by decide +kernel⟩
theorem v_X0_107 : vOK RX0 107 1 mi_X0_walkCycle := ⟨wTbl_3 208 (by rfl) (by decide +kernel), wTbl_3 210 (by rfl) (by decide +kernel), wTbl_s 25 (n := 10) (by rfl), by decide +kernel⟩
theorem v_X0_110 : vOK RX0 110 1 mi_X5_partOf := ⟨wTbl_3 202 (by rfl) (by decide +kernel), wTbl_1 188 (by rfl) (by decide +kernel), wTbl_1 189 (by rfl) (by decide +kernel), by decide +kernel⟩
theorem v_X0_113 : vOK RX0 113 2 mi_X5_entry := ⟨wTbl_3 203 (by rfl) (by decide +kernel), wTbl_1 214 (by rfl) (by decide +kernel), wTbl_1 215 (by rfl) (by decide +kernel), by decide +kernel⟩
theorem v_X0_116 : vOK RX0 116 1 mi_X5_shiftX := ⟨wTbl_3 204 (by rfl) (by decide +kernel), wTbl_1 199 (by rfl) (by decide +kernel), wTbl_1 200 (by rfl) (by decide +kernel), by decide +kernel⟩
theorem v_X0_119 : vOK RX0 119 1 mi_X5_shiftY := ⟨wTbl_3 205 (by rfl) (by decide +kernel), wTbl_1 206 (by rfl) (by decide +kernel), wTbl_1 207 (by rfl) (by decide +kernel), by decide +kernel⟩
theorem v_X0_125 : vOK RX0 125 1 mi_X5_wrap := ⟨wTbl_3 206 (by rfl) (by decide +kernel), wTbl_1 223 (by rfl) (by decide +kernel), wTbl_1 224 (by rfl) (by decide +kernel), by decide +kernel⟩
theorem v_X0_128 : vOK RX0 128 2 mi_X5_cellOf := ⟨wTbl_3 207 (by rfl) (by decide +kernel), wTbl_2 3 (by rfl) (by decide +kernel), wTbl_2 4 (by rfl) (by decide +kernel), by decide +kernel⟩
theorem n_X1_30 : nOK RX1 30 1 mi_X6_clearMarks := ⟨List.mem_of_getElem? (i := 6) (by rfl), wTbl_1 169 (by rfl) (by decide +kernel), by decide +kernel⟩
theorem v_X1_34 : vOK RX1 34 0 mi_X3_size := ⟨wTbl_2 15 (by rfl) (by decide +kernel), wTbl_2 16 (by rfl) (by decide +kernel), wTbl_2 17 (by rfl) (by decide +kernel), by decide +kernel⟩
theorem v_X1_40 : vOK RX1 40 1 mi_X3_elementAt := ⟨wTbl_2 19 (by rfl) (by decide +kernel), wTbl_2 20 (by rfl) (by decide +kernel), wTbl_2 21 (by rfl) (by decide +kernel), by decide +kernel⟩
theorem v_X1_44 : vOK RX1 44 1 mi_X1_note := ⟨wTbl_2 23 (by rfl) (by decide +kernel), wTbl_2 25 (by rfl) (by decide +kernel), wTbl_s 4 (n := 5) (by rfl), by decide +kernel⟩
theorem v_X1_48 : vOK RX1 48 1 mi_X5_partOf := ⟨wTbl_2 27 (by rfl) (by decide +kernel), wTbl_1 188 (by rfl) (by decide +kernel), wTbl_1 189 (by rfl) (by decide +kernel), by decide +kernel⟩
theorem v_X1_53 : vOK RX1 53 1 mi_X5_kindNumber := ⟨wTbl_2 28 (by rfl) (by decide +kernel), wTbl_2 29 (by rfl) (by decide +kernel), wTbl_2 30 (by rfl) (by decide +kernel), by decide +kernel⟩
theorem n_X1_56 : nOK RX1 56 2 mi_X6_isInside := ⟨List.mem_of_getElem? (i := 7) (by rfl), wTbl_1 176 (by rfl) (by decide +kernel), by decide +kernel⟩
theorem n_X1_60 : nOK RX1 60 1 mi_X6_countMarks := ⟨List.mem_of_getElem? (i := 11) (by rfl), wTbl_3 29 (by rfl) (by decide +kernel), by decide +kernel⟩
theorem v_X1_64 : vOK RX1 64 0 mi_X5_turns := ⟨wTbl_3 39 (by rfl) (by decide +kernel), wTbl_1 235 (by rfl) (by decide +kernel), wTbl_1 236 (by rfl) (by decide +kernel), by decide +kernel⟩
theorem v_X1_67 : vOK RX1 67 1 mi_X1_occurs := ⟨wTbl_3 40 (by rfl) (by decide +kernel), wTbl_3 42 (by rfl) (by decide +kernel), wTbl_s 12 (n := 5) (by rfl), by decide +kernel⟩
theorem v_X1_71 : vOK RX1 71 1 mi_X5_turnOrder := ⟨wTbl_3 44 (by rfl) (by decide +kernel), wTbl_3 45 (by rfl) (by decide +kernel), wTbl_3 46 (by rfl) (by decide +kernel), by decide +kernel⟩
theorem s_X1_74 : sOK RX1 74 2 mi_J9_max_7cf53 := ⟨wTbl_3 48 (by rfl) (by decide +kernel), wTbl_3 49 (by rfl) (by decide +kernel), by decide +kernel⟩
theorem v_X1_80 : vOK RX1 80 0 mi_X5_parts := ⟨wTbl_3 103 (by rfl) (by decide +kernel), wTbl_2 110 (by rfl) (by decide +kernel), wTbl_2 111 (by rfl) (by decide +kernel), by decide +kernel⟩
theorem v_X1_83 : vOK RX1 83 1 mi_X1_keepsHalfSums := ⟨wTbl_3 67 (by rfl) (by decide +kernel), wTbl_3 69 (by rfl) (by decide +kernel), wTbl_s 13 (n := 5) (by rfl), by decide +kernel⟩
theorem v_X1_90 : vOK RX1 90 3 mi_X1_keepsHalfSum := ⟨wTbl_3 71 (by rfl) (by decide +kernel), wTbl_3 73 (by rfl) (by decide +kernel), wTbl_s 14 (n := 5) (by rfl), by decide +kernel⟩
theorem v_X1_94 : vOK RX1 94 2 mi_X3_hasTranslation := ⟨wTbl_3 77 (by rfl) (by decide +kernel), wTbl_3 78 (by rfl) (by decide +kernel), wTbl_3 79 (by rfl) (by decide +kernel), by decide +kernel⟩
theorem v_X1_97 : vOK RX1 97 3 mi_X5_imageX := ⟨wTbl_3 75 (by rfl) (by decide +kernel), wTbl_1 210 (by rfl) (by decide +kernel), wTbl_1 211 (by rfl) (by decide +kernel), by decide +kernel⟩
theorem v_X1_101 : vOK RX1 101 3 mi_X5_imageY := ⟨wTbl_3 76 (by rfl) (by decide +kernel), wTbl_1 227 (by rfl) (by decide +kernel), wTbl_1 228 (by rfl) (by decide +kernel), by decide +kernel⟩
theorem v_X1_104 : vOK RX1 104 0 mi_X1_countMirrorParts := ⟨wTbl_3 92 (by rfl) (by decide +kernel), wTbl_3 56 (by rfl) (by decide +kernel), wTbl_3 57 (by rfl) (by decide +kernel), by decide +kernel⟩
theorem v_X1_107 : vOK RX1 107 0 mi_X1_hasCentering := ⟨wTbl_3 93 (by rfl) (by decide +kernel), wTbl_3 64 (by rfl) (by decide +kernel), wTbl_3 65 (by rfl) (by decide +kernel), by decide +kernel⟩
theorem v_X1_111 : vOK RX1 111 0 mi_X1_greatestTurnOrder := ⟨wTbl_3 94 (by rfl) (by decide +kernel), wTbl_3 36 (by rfl) (by decide +kernel), wTbl_3 37 (by rfl) (by decide +kernel), by decide +kernel⟩
theorem v_X1_114 : vOK RX1 114 2 mi_X1_typeWithoutTurns := ⟨wTbl_3 95 (by rfl) (by decide +kernel), wTbl_3 97 (by rfl) (by decide +kernel), wTbl_s 15 (n := 5) (by rfl), by decide +kernel⟩
theorem v_X1_118 : vOK RX1 118 2 mi_X1_typeWithHalfTurns := ⟨wTbl_3 104 (by rfl) (by decide +kernel), wTbl_3 106 (by rfl) (by decide +kernel), wTbl_s 17 (n := 5) (by rfl), by decide +kernel⟩
theorem v_X1_121 : vOK RX1 121 0 mi_X1_typeWithThirdTurns := ⟨wTbl_3 108 (by rfl) (by decide +kernel), wTbl_3 110 (by rfl) (by decide +kernel), wTbl_s 18 (n := 5) (by rfl), by decide +kernel⟩
theorem v_X1_124 : vOK RX1 124 1 mi_X1_typeWithQuarterTurns := ⟨wTbl_3 127 (by rfl) (by decide +kernel), wTbl_3 129 (by rfl) (by decide +kernel), wTbl_s 22 (n := 5) (by rfl), by decide +kernel⟩
theorem v_X1_127 : vOK RX1 127 0 mi_X1_hasReversal := ⟨wTbl_3 99 (by rfl) (by decide +kernel), wTbl_3 101 (by rfl) (by decide +kernel), wTbl_s 16 (n := 5) (by rfl), by decide +kernel⟩
theorem v_X1_130 : vOK RX1 130 0 mi_X1_fixesShortestVector := ⟨wTbl_3 112 (by rfl) (by decide +kernel), wTbl_3 114 (by rfl) (by decide +kernel), wTbl_s 19 (n := 5) (by rfl), by decide +kernel⟩
theorem v_X1_133 : vOK RX1 133 0 mi_X1_leastSquaredLength := ⟨wTbl_3 116 (by rfl) (by decide +kernel), wTbl_3 118 (by rfl) (by decide +kernel), wTbl_s 20 (n := 5) (by rfl), by decide +kernel⟩
theorem s_X1_136 : sOK RX1 136 2 mi_X1_squaredLength := ⟨wTbl_3 120 (by rfl) (by decide +kernel), wTbl_3 121 (by rfl) (by decide +kernel), by decide +kernel⟩
theorem v_X1_139 : vOK RX1 139 2 mi_X1_isFixedByReversal := ⟨wTbl_3 123 (by rfl) (by decide +kernel), wTbl_3 125 (by rfl) (by decide +kernel), wTbl_s 21 (n := 5) (by rfl), by decide +kernel⟩
theorem n_X2_19 : nOK RX2 19 2 mi_X6_isInside := ⟨List.mem_of_getElem? (i := 2) (by rfl), wTbl_1 176 (by rfl) (by decide +kernel), by decide +kernel⟩
theorem v_X2_23 : vOK RX2 23 0 mi_X2_isFull := ⟨wTbl_2 126 (by rfl) (by decide +kernel), wTbl_2 118 (by rfl) (by decide +kernel), wTbl_2 119 (by rfl) (by decide +kernel), by decide +kernel⟩
theorem v_X2_27 : vOK RX2 27 2 mi_X2_replace := ⟨wTbl_2 127 (by rfl) (by decide +kernel), wTbl_2 128 (by rfl) (by decide +kernel), wTbl_2 129 (by rfl) (by decide +kernel), by decide +kernel⟩
theorem v_X2_31 : vOK RX2 31 1 mi_X2_has := ⟨wTbl_2 144 (by rfl) (by decide +kernel), wTbl_2 137 (by rfl) (by decide +kernel), wTbl_2 138 (by rfl) (by decide +kernel), by decide +kernel⟩
theorem v_X2_35 : vOK RX2 35 1 mi_X2_codeAt := ⟨wTbl_2 145 (by rfl) (by decide +kernel), wTbl_1 179 (by rfl) (by decide +kernel), wTbl_1 180 (by rfl) (by decide +kernel), by decide +kernel⟩
theorem n_X3_37 : nOK RX3 37 2 mi_X6_isInside := ⟨List.mem_of_getElem? (i := 1) (by rfl), wTbl_1 176 (by rfl) (by decide +kernel), by decide +kernel⟩
theorem v_X3_41 : vOK RX3 41 1 mi_X5_wrap := ⟨wTbl_3 81 (by rfl) (by decide +kernel), wTbl_1 223 (by rfl) (by decide +kernel), wTbl_1 224 (by rfl) (by decide +kernel), by decide +kernel⟩
theorem v_X3_47 : vOK RX3 47 3 mi_X5_codeOf := ⟨wTbl_3 82 (by rfl) (by decide +kernel), wTbl_1 239 (by rfl) (by decide +kernel), wTbl_2 0 (by rfl) (by decide +kernel), by decide +kernel⟩
theorem v_X3_51 : vOK RX3 51 1 mi_X3_has := ⟨wTbl_3 83 (by rfl) (by decide +kernel), wTbl_2 195 (by rfl) (by decide +kernel), wTbl_2 196 (by rfl) (by decide +kernel), by decide +kernel⟩
theorem n_X3_55 : nOK RX3 55 1 mi_X6_clearMarks := ⟨List.mem_of_getElem? (i := 0) (by rfl), wTbl_1 169 (by rfl) (by decide +kernel), by decide +kernel⟩
theorem v_X3_59 : vOK RX3 59 1 mi_X3_admit := ⟨wTbl_1 171 (by rfl) (by decide +kernel), wTbl_1 173 (by rfl) (by decide +kernel), wTbl_s 1 (n := 8) (by rfl), by decide +kernel⟩
theorem v_X3_68 : vOK RX3 68 1 mi_X2_codeAt := ⟨wTbl_1 178 (by rfl) (by decide +kernel), wTbl_1 179 (by rfl) (by decide +kernel), wTbl_1 180 (by rfl) (by decide +kernel), by decide +kernel⟩
theorem v_X3_71 : vOK RX3 71 2 mi_X5_times := ⟨wTbl_1 183 (by rfl) (by decide +kernel), wTbl_1 184 (by rfl) (by decide +kernel), wTbl_1 185 (by rfl) (by decide +kernel), by decide +kernel⟩
theorem v_X3_75 : vOK RX3 75 0 mi_X3_listByCode := ⟨wTbl_2 6 (by rfl) (by decide +kernel), wTbl_2 8 (by rfl) (by decide +kernel), wTbl_s 3 (n := 8) (by rfl), by decide +kernel⟩
theorem v_X3_78 : vOK RX3 78 1 mi_X3_classify := ⟨wTbl_3 4 (by rfl) (by decide +kernel), wTbl_3 6 (by rfl) (by decide +kernel), wTbl_s 9 (n := 8) (by rfl), by decide +kernel⟩
theorem v_X3_84 : vOK RX3 84 1 mi_X3_admitToClass := ⟨wTbl_3 8 (by rfl) (by decide +kernel), wTbl_3 10 (by rfl) (by decide +kernel), wTbl_s 10 (n := 8) (by rfl), by decide +kernel⟩
theorem v_X3_87 : vOK RX3 87 1 mi_X5_inverseOf := ⟨wTbl_3 12 (by rfl) (by decide +kernel), wTbl_3 13 (by rfl) (by decide +kernel), wTbl_3 14 (by rfl) (by decide +kernel), by decide +kernel⟩
theorem v_X4_20 : vOK RX4 20 0 mi_X4_forgetOldest := ⟨wTbl_2 84 (by rfl) (by decide +kernel), wTbl_2 86 (by rfl) (by decide +kernel), wTbl_s 8 (n := 2) (by rfl), by decide +kernel⟩
theorem n_X4_23 : nOK RX4 23 2 mi_X6_isInside := ⟨List.mem_of_getElem? (i := 10) (by rfl), wTbl_1 176 (by rfl) (by decide +kernel), by decide +kernel⟩
theorem s_X4_27 : sOK RX4 27 3 mi_X4_write := ⟨wTbl_2 89 (by rfl) (by decide +kernel), wTbl_2 90 (by rfl) (by decide +kernel), by decide +kernel⟩
theorem s_X4_31 : sOK RX4 31 3 mi_X4_read := ⟨wTbl_2 164 (by rfl) (by decide +kernel), wTbl_2 165 (by rfl) (by decide +kernel), by decide +kernel⟩
theorem v_X4_47 : vOK RX4 47 1 mi_X2_codeAt := ⟨wTbl_2 92 (by rfl) (by decide +kernel), wTbl_1 179 (by rfl) (by decide +kernel), wTbl_1 180 (by rfl) (by decide +kernel), by decide +kernel⟩
theorem v_X4_51 : vOK RX4 51 2 mi_X5_choose := ⟨wTbl_2 167 (by rfl) (by decide +kernel), wTbl_2 94 (by rfl) (by decide +kernel), wTbl_2 95 (by rfl) (by decide +kernel), by decide +kernel⟩
theorem v_X4_55 : vOK RX4 55 2 mi_X2_replace := ⟨wTbl_2 168 (by rfl) (by decide +kernel), wTbl_2 128 (by rfl) (by decide +kernel), wTbl_2 129 (by rfl) (by decide +kernel), by decide +kernel⟩
theorem v_X5_18 : vOK RX5 18 0 mi_X5_turns := ⟨wTbl_1 234 (by rfl) (by decide +kernel), wTbl_1 235 (by rfl) (by decide +kernel), wTbl_1 236 (by rfl) (by decide +kernel), by decide +kernel⟩
theorem v_X5_22 : vOK RX5 22 0 mi_X5_parts := ⟨wTbl_2 109 (by rfl) (by decide +kernel), wTbl_2 110 (by rfl) (by decide +kernel), wTbl_2 111 (by rfl) (by decide +kernel), by decide +kernel⟩
theorem v_X5_25 : vOK RX5 25 0 mi_X5_cellCount := ⟨wTbl_1 191 (by rfl) (by decide +kernel), wTbl_1 192 (by rfl) (by decide +kernel), wTbl_1 193 (by rfl) (by decide +kernel), by decide +kernel⟩
theorem n_X5_28 : nOK RX5 28 2 mi_X6_isInside := ⟨List.mem_of_getElem? (i := 5) (by rfl), wTbl_1 176 (by rfl) (by decide +kernel), by decide +kernel⟩
theorem v_X5_32 : vOK RX5 32 2 mi_X5_hasCell := ⟨wTbl_2 113 (by rfl) (by decide +kernel), wTbl_2 114 (by rfl) (by decide +kernel), wTbl_2 115 (by rfl) (by decide +kernel), by decide +kernel⟩
theorem v_X5_35 : vOK RX5 35 0 mi_X5_codes := ⟨wTbl_2 190 (by rfl) (by decide +kernel), wTbl_2 191 (by rfl) (by decide +kernel), wTbl_2 192 (by rfl) (by decide +kernel), by decide +kernel⟩
theorem v_X5_38 : vOK RX5 38 2 mi_X5_cellOf := ⟨wTbl_2 2 (by rfl) (by decide +kernel), wTbl_2 3 (by rfl) (by decide +kernel), wTbl_2 4 (by rfl) (by decide +kernel), by decide +kernel⟩
theorem n_X5_42 : nOK RX5 42 2 mi_X6_quotient := ⟨List.mem_of_getElem? (i := 3) (by rfl), wTbl_1 196 (by rfl) (by decide +kernel), by decide +kernel⟩
theorem n_X5_45 : nOK RX5 45 2 mi_X6_remainder := ⟨List.mem_of_getElem? (i := 4) (by rfl), wTbl_1 203 (by rfl) (by decide +kernel), by decide +kernel⟩
theorem v_X5_55 : vOK RX5 55 2 mi_X5_entry := ⟨wTbl_1 213 (by rfl) (by decide +kernel), wTbl_1 214 (by rfl) (by decide +kernel), wTbl_1 215 (by rfl) (by decide +kernel), by decide +kernel⟩
theorem v_X5_58 : vOK RX5 58 1 mi_X5_partOf := ⟨wTbl_1 187 (by rfl) (by decide +kernel), wTbl_1 188 (by rfl) (by decide +kernel), wTbl_1 189 (by rfl) (by decide +kernel), by decide +kernel⟩
theorem v_X5_62 : vOK RX5 62 3 mi_X5_imageX := ⟨wTbl_1 209 (by rfl) (by decide +kernel), wTbl_1 210 (by rfl) (by decide +kernel), wTbl_1 211 (by rfl) (by decide +kernel), by decide +kernel⟩
theorem v_X5_66 : vOK RX5 66 1 mi_X5_shiftX := ⟨wTbl_1 198 (by rfl) (by decide +kernel), wTbl_1 199 (by rfl) (by decide +kernel), wTbl_1 200 (by rfl) (by decide +kernel), by decide +kernel⟩
theorem v_X5_69 : vOK RX5 69 1 mi_X5_wrap := ⟨wTbl_1 222 (by rfl) (by decide +kernel), wTbl_1 223 (by rfl) (by decide +kernel), wTbl_1 224 (by rfl) (by decide +kernel), by decide +kernel⟩
theorem v_X5_72 : vOK RX5 72 3 mi_X5_imageY := ⟨wTbl_1 226 (by rfl) (by decide +kernel), wTbl_1 227 (by rfl) (by decide +kernel), wTbl_1 228 (by rfl) (by decide +kernel), by decide +kernel⟩
theorem v_X5_75 : vOK RX5 75 1 mi_X5_shiftY := ⟨wTbl_1 205 (by rfl) (by decide +kernel), wTbl_1 206 (by rfl) (by decide +kernel), wTbl_1 207 (by rfl) (by decide +kernel), by decide +kernel⟩
theorem v_X5_78 : vOK RX5 78 2 mi_X5_timesPart := ⟨wTbl_1 230 (by rfl) (by decide +kernel), wTbl_1 232 (by rfl) (by decide +kernel), wTbl_s 2 (n := 2) (by rfl), by decide +kernel⟩
theorem v_X5_81 : vOK RX5 81 3 mi_X5_codeOf := ⟨wTbl_1 238 (by rfl) (by decide +kernel), wTbl_1 239 (by rfl) (by decide +kernel), wTbl_2 0 (by rfl) (by decide +kernel), by decide +kernel⟩
theorem v_X5_84 : vOK RX5 84 1 mi_X5_inversePart := ⟨wTbl_3 16 (by rfl) (by decide +kernel), wTbl_3 18 (by rfl) (by decide +kernel), wTbl_s 11 (n := 2) (by rfl), by decide +kernel⟩
theorem v_X5_87 : vOK RX5 87 2 mi_X5_times := ⟨wTbl_2 214 (by rfl) (by decide +kernel), wTbl_1 184 (by rfl) (by decide +kernel), wTbl_1 185 (by rfl) (by decide +kernel), by decide +kernel⟩
theorem v_X5_90 : vOK RX5 90 1 mi_X5_isReflection := ⟨wTbl_2 32 (by rfl) (by decide +kernel), wTbl_2 34 (by rfl) (by decide +kernel), wTbl_s 5 (n := 2) (by rfl), by decide +kernel⟩
theorem v_X7_29 : vOK RX7 29 0 mi_X7_derive := ⟨wTbl_3 219 (by rfl) (by decide +kernel), wTbl_3 221 (by rfl) (by decide +kernel), wTbl_s 26 (n := 9) (by rfl), by decide +kernel⟩
theorem v_X7_32 : vOK RX7 32 2 mi_X7_entry := ⟨wTbl_3 235 (by rfl) (by decide +kernel), wTbl_3 237 (by rfl) (by decide +kernel), wTbl_s 30 (n := 9) (by rfl), by decide +kernel⟩
theorem v_X7_40 : vOK RX7 40 5 mi_X7_putPart := ⟨wTbl_3 227 (by rfl) (by decide +kernel), wTbl_3 229 (by rfl) (by decide +kernel), wTbl_s 28 (n := 9) (by rfl), by decide +kernel⟩
theorem v_X7_44 : vOK RX7 44 3 mi_X7_putProduct := ⟨wTbl_3 231 (by rfl) (by decide +kernel), wTbl_3 233 (by rfl) (by decide +kernel), wTbl_s 29 (n := 9) (by rfl), by decide +kernel⟩
theorem v_X7_48 : vOK RX7 48 2 mi_X7_numberOfProduct := ⟨wTbl_3 239 (by rfl) (by decide +kernel), wTbl_4 1 (by rfl) (by decide +kernel), wTbl_s 31 (n := 9) (by rfl), by decide +kernel⟩
theorem v_X7_51 : vOK RX7 51 0 mi_X7_cells := ⟨wTbl_4 15 (by rfl) (by decide +kernel), wTbl_4 17 (by rfl) (by decide +kernel), wTbl_s 35 (n := 9) (by rfl), by decide +kernel⟩
theorem v_X7_55 : vOK RX7 55 1 mi_X7_modulo := ⟨wTbl_4 39 (by rfl) (by decide +kernel), wTbl_4 41 (by rfl) (by decide +kernel), wTbl_s 41 (n := 9) (by rfl), by decide +kernel⟩
theorem v_X7_59 : vOK RX7 59 1 mi_X7_partOf := ⟨wTbl_4 11 (by rfl) (by decide +kernel), wTbl_4 13 (by rfl) (by decide +kernel), wTbl_s 34 (n := 9) (by rfl), by decide +kernel⟩
theorem v_X7_62 : vOK RX7 62 1 mi_X7_uOf := ⟨wTbl_4 19 (by rfl) (by decide +kernel), wTbl_4 21 (by rfl) (by decide +kernel), wTbl_s 36 (n := 9) (by rfl), by decide +kernel⟩
theorem v_X7_65 : vOK RX7 65 1 mi_X7_vOf := ⟨wTbl_4 23 (by rfl) (by decide +kernel), wTbl_4 25 (by rfl) (by decide +kernel), wTbl_s 37 (n := 9) (by rfl), by decide +kernel⟩
theorem v_X7_68 : vOK RX7 68 3 mi_X7_imageX := ⟨wTbl_4 27 (by rfl) (by decide +kernel), wTbl_4 29 (by rfl) (by decide +kernel), wTbl_s 38 (n := 9) (by rfl), by decide +kernel⟩
theorem v_X7_72 : vOK RX7 72 3 mi_X7_imageY := ⟨wTbl_4 31 (by rfl) (by decide +kernel), wTbl_4 33 (by rfl) (by decide +kernel), wTbl_s 39 (n := 9) (by rfl), by decide +kernel⟩
theorem v_X7_75 : vOK RX7 75 3 mi_X7_codeOf := ⟨wTbl_4 35 (by rfl) (by decide +kernel), wTbl_4 37 (by rfl) (by decide +kernel), wTbl_s 40 (n := 9) (by rfl), by decide +kernel⟩
theorem s_X7_78 : sOK RX7 78 3 mi_X7_in := ⟨wTbl_4 79 (by rfl) (by decide +kernel), wTbl_4 80 (by rfl) (by decide +kernel), by decide +kernel⟩
theorem s_X7_82 : sOK RX7 82 2 mi_X7_divisor := ⟨wTbl_4 150 (by rfl) (by decide +kernel), wTbl_4 151 (by rfl) (by decide +kernel), by decide +kernel⟩
theorem v_X7_85 : vOK RX7 85 1 mi_X7_isTurn := ⟨wTbl_4 142 (by rfl) (by decide +kernel), wTbl_4 144 (by rfl) (by decide +kernel), wTbl_s 47 (n := 9) (by rfl), by decide +kernel⟩
theorem v_X7_89 : vOK RX7 89 1 mi_X7_isReflection := ⟨wTbl_4 146 (by rfl) (by decide +kernel), wTbl_4 148 (by rfl) (by decide +kernel), wTbl_s 48 (n := 9) (by rfl), by decide +kernel⟩
theorem v_X7_95 : vOK RX7 95 0 mi_X7_makeParts := ⟨wTbl_3 223 (by rfl) (by decide +kernel), wTbl_3 225 (by rfl) (by decide +kernel), wTbl_s 27 (n := 9) (by rfl), by decide +kernel⟩
theorem v_X7_98 : vOK RX7 98 1 mi_X7_addElement := ⟨wTbl_4 3 (by rfl) (by decide +kernel), wTbl_4 5 (by rfl) (by decide +kernel), wTbl_s 32 (n := 9) (by rfl), by decide +kernel⟩
theorem v_X7_102 : vOK RX7 102 2 mi_X7_times := ⟨wTbl_4 7 (by rfl) (by decide +kernel), wTbl_4 9 (by rfl) (by decide +kernel), wTbl_s 33 (n := 9) (by rfl), by decide +kernel⟩
theorem v_X7_108 : vOK RX7 108 0 mi_X7_save := ⟨wTbl_4 82 (by rfl) (by decide +kernel), wTbl_4 84 (by rfl) (by decide +kernel), wTbl_s 42 (n := 9) (by rfl), by decide +kernel⟩
