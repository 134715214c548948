theorem inX0 : ∀ w ∈ u_ws RX0 TX0 3, w ∈ zGW := by decide +kernel
theorem inX1 : ∀ w ∈ u_ws RX1 TX1 2, w ∈ zGW := by decide +kernel
theorem inX2 : ∀ w ∈ u_ws RX2 TX2 8, w ∈ zGW := by decide +kernel
theorem inX3 : ∀ w ∈ u_ws RX3 TX3 2, w ∈ zGW := by decide +kernel
theorem inX4 : ∀ w ∈ u_ws RX4 TX4 2, w ∈ zGW := by decide +kernel
theorem inX5 : ∀ w ∈ u_ws RX5 TX5 6, w ∈ zGW := by decide +kernel
theorem kiX0 : Cond.instantiable RX0 3 ∈ zGW ∧ Cond.initialized RX0 ∈ zGW := ⟨zGW_in 70 (by decide +kernel) (by decide +kernel), zGW_in 26 (by decide +kernel) (by decide +kernel)⟩
theorem lyX0_0 : zFy 0 0 true (.array (.object "BlockTrees$State")) := by
  intro C T N h
  cases (show some (RX0, TX0, 3) = some (C, T, N) from h)
  exact ⟨⟨tyX0, tyX0_ok⟩, nmX0, by decide +kernel, by decide +kernel, by decide +kernel⟩
theorem lyX0_1 : zFy 0 1 false .int := by
  intro C T N h
  cases (show some (RX0, TX0, 3) = some (C, T, N) from h)
  exact ⟨⟨tyX0, tyX0_ok⟩, nmX0, by decide +kernel, by decide +kernel, by decide +kernel⟩
theorem lyX0_2 : zFy 0 2 false .int := by
  intro C T N h
  cases (show some (RX0, TX0, 3) = some (C, T, N) from h)
  exact ⟨⟨tyX0, tyX0_ok⟩, nmX0, by decide +kernel, by decide +kernel, by decide +kernel⟩
theorem kiX1 : Cond.instantiable RX1 2 ∈ zGW ∧ Cond.initialized RX1 ∈ zGW := ⟨zGW_in 47 (by decide +kernel) (by decide +kernel), zGW_in 25 (by decide +kernel) (by decide +kernel)⟩
theorem lyX1_0 : zFy 1 0 true (.array .int) := by
  intro C T N h
  cases (show some (RX1, TX1, 2) = some (C, T, N) from h)
  exact ⟨⟨tyX1, tyX1_ok⟩, nmX1, by decide +kernel, by decide +kernel, by decide +kernel⟩
theorem lyX1_1 : zFy 1 1 true (.array .int) := by
  intro C T N h
  cases (show some (RX1, TX1, 2) = some (C, T, N) from h)
  exact ⟨⟨tyX1, tyX1_ok⟩, nmX1, by decide +kernel, by decide +kernel, by decide +kernel⟩
theorem kiX2 : Cond.instantiable RX2 8 ∈ zGW ∧ Cond.initialized RX2 ∈ zGW := ⟨zGW_in 92 (by decide +kernel) (by decide +kernel), zGW_in 27 (by decide +kernel) (by decide +kernel)⟩
theorem lyX2_0 : zFy 2 0 true (.array .char) := by
  intro C T N h
  cases (show some (RX2, TX2, 8) = some (C, T, N) from h)
  exact ⟨⟨tyX2, tyX2_ok⟩, nmX2, by decide +kernel, by decide +kernel, by decide +kernel⟩
theorem lyX2_1 : zFy 2 1 false .int := by
  intro C T N h
  cases (show some (RX2, TX2, 8) = some (C, T, N) from h)
  exact ⟨⟨tyX2, tyX2_ok⟩, nmX2, by decide +kernel, by decide +kernel, by decide +kernel⟩
theorem lyX2_2 : zFy 2 2 true (.object "BlockTrees$Matrix") := by
  intro C T N h
  cases (show some (RX2, TX2, 8) = some (C, T, N) from h)
  exact ⟨⟨tyX2, tyX2_ok⟩, nmX2, by decide +kernel, by decide +kernel, by decide +kernel⟩
theorem lyX2_3 : zFy 2 3 true (.array .int) := by
  intro C T N h
  cases (show some (RX2, TX2, 8) = some (C, T, N) from h)
  exact ⟨⟨tyX2, tyX2_ok⟩, nmX2, by decide +kernel, by decide +kernel, by decide +kernel⟩
theorem lyX2_4 : zFy 2 4 true (.array .int) := by
  intro C T N h
  cases (show some (RX2, TX2, 8) = some (C, T, N) from h)
  exact ⟨⟨tyX2, tyX2_ok⟩, nmX2, by decide +kernel, by decide +kernel, by decide +kernel⟩
theorem lyX2_5 : zFy 2 5 true (.array .int) := by
  intro C T N h
  cases (show some (RX2, TX2, 8) = some (C, T, N) from h)
  exact ⟨⟨tyX2, tyX2_ok⟩, nmX2, by decide +kernel, by decide +kernel, by decide +kernel⟩
theorem lyX2_6 : zFy 2 6 false .int := by
  intro C T N h
  cases (show some (RX2, TX2, 8) = some (C, T, N) from h)
  exact ⟨⟨tyX2, tyX2_ok⟩, nmX2, by decide +kernel, by decide +kernel, by decide +kernel⟩
theorem lyX2_7 : zFy 2 7 false .int := by
  intro C T N h
  cases (show some (RX2, TX2, 8) = some (C, T, N) from h)
  exact ⟨⟨tyX2, tyX2_ok⟩, nmX2, by decide +kernel, by decide +kernel, by decide +kernel⟩
theorem kiX3 : Cond.instantiable RX3 2 ∈ zGW ∧ Cond.initialized RX3 ∈ zGW := ⟨zGW_in 129 (by decide +kernel) (by decide +kernel), zGW_in 28 (by decide +kernel) (by decide +kernel)⟩
theorem lyX3_0 : zFy 3 0 true (.object "BlockTrees$State") := by
  intro C T N h
  cases (show some (RX3, TX3, 2) = some (C, T, N) from h)
  exact ⟨⟨tyX3, tyX3_ok⟩, nmX3, by decide +kernel, by decide +kernel, by decide +kernel⟩
theorem lyX3_1 : zFy 3 1 false .boolean := by
  intro C T N h
  cases (show some (RX3, TX3, 2) = some (C, T, N) from h)
  exact ⟨⟨tyX3, tyX3_ok⟩, nmX3, by decide +kernel, by decide +kernel, by decide +kernel⟩
theorem kiX4 : Cond.instantiable RX4 2 ∈ zGW ∧ Cond.initialized RX4 ∈ zGW := ⟨zGW_in 40 (by decide +kernel) (by decide +kernel), zGW_in 24 (by decide +kernel) (by decide +kernel)⟩
theorem lyX4_0 : zFy 4 0 true (.array (.object "BlockTrees$Matrix")) := by
  intro C T N h
  cases (show some (RX4, TX4, 2) = some (C, T, N) from h)
  exact ⟨⟨tyX4, tyX4_ok⟩, nmX4, by decide +kernel, by decide +kernel, by decide +kernel⟩
theorem lyX4_1 : zFy 4 1 false .int := by
  intro C T N h
  cases (show some (RX4, TX4, 2) = some (C, T, N) from h)
  exact ⟨⟨tyX4, tyX4_ok⟩, nmX4, by decide +kernel, by decide +kernel, by decide +kernel⟩
theorem kiX5 : Cond.instantiable RX5 6 ∈ zGW ∧ Cond.initialized RX5 ∈ zGW := ⟨zGW_in 32 (by decide +kernel) (by decide +kernel), zGW_in 23 (by decide +kernel) (by decide +kernel)⟩
theorem lyX5_0 : zFy 5 0 true (.object "BlockTrees$State") := by
  intro C T N h
  cases (show some (RX5, TX5, 6) = some (C, T, N) from h)
  exact ⟨⟨tyX5, tyX5_ok⟩, nmX5, by decide +kernel, by decide +kernel, by decide +kernel⟩
theorem lyX5_1 : zFy 5 1 true (.object "BlockTrees$History") := by
  intro C T N h
  cases (show some (RX5, TX5, 6) = some (C, T, N) from h)
  exact ⟨⟨tyX5, tyX5_ok⟩, nmX5, by decide +kernel, by decide +kernel, by decide +kernel⟩
theorem lyX5_2 : zFy 5 2 true (.array (.object "BlockTrees$Slot")) := by
  intro C T N h
  cases (show some (RX5, TX5, 6) = some (C, T, N) from h)
  exact ⟨⟨tyX5, tyX5_ok⟩, nmX5, by decide +kernel, by decide +kernel, by decide +kernel⟩
theorem lyX5_3 : zFy 5 3 true (.object "BlockTrees$Pad") := by
  intro C T N h
  cases (show some (RX5, TX5, 6) = some (C, T, N) from h)
  exact ⟨⟨tyX5, tyX5_ok⟩, nmX5, by decide +kernel, by decide +kernel, by decide +kernel⟩
theorem lyX5_4 : zFy 5 4 true (.object "BlockTrees$Matrix") := by
  intro C T N h
  cases (show some (RX5, TX5, 6) = some (C, T, N) from h)
  exact ⟨⟨tyX5, tyX5_ok⟩, nmX5, by decide +kernel, by decide +kernel, by decide +kernel⟩
theorem lyX5_5 : zFy 5 5 true (.array .int) := by
  intro C T N h
  cases (show some (RX5, TX5, 6) = some (C, T, N) from h)
  exact ⟨⟨tyX5, tyX5_ok⟩, nmX5, by decide +kernel, by decide +kernel, by decide +kernel⟩
theorem ka_int : Cond.arrayClass .int ∈ zGW := zGW_in 59 (by decide +kernel) (by decide +kernel)
theorem ka_char : Cond.arrayClass .char ∈ zGW := zGW_in 126 (by decide +kernel) (by decide +kernel)
theorem okX5_init : zOk yX5_init cX5_init 2 none 0 := ⟨⟨by decide +kernel, by decide +kernel⟩, by decide +kernel, by decide, zGW_in 35 (by decide +kernel) (by decide +kernel), zGW_in 23 (by decide +kernel) (by decide +kernel)⟩
theorem okX4_init : zOk yX4_init cX4_init 2 none 0 := ⟨⟨by decide +kernel, by decide +kernel⟩, by decide +kernel, by decide, zGW_in 43 (by decide +kernel) (by decide +kernel), zGW_in 24 (by decide +kernel) (by decide +kernel)⟩
theorem okX1_init : zOk yX1_init cX1_init 1 none 0 := ⟨⟨by decide +kernel, by decide +kernel⟩, by decide +kernel, by decide, zGW_in 50 (by decide +kernel) (by decide +kernel), zGW_in 25 (by decide +kernel) (by decide +kernel)⟩
theorem okX0_init : zOk yX0_init cX0_init 2 none 0 := ⟨⟨by decide +kernel, by decide +kernel⟩, by decide +kernel, by decide, zGW_in 73 (by decide +kernel) (by decide +kernel), zGW_in 26 (by decide +kernel) (by decide +kernel)⟩
theorem okX2_init : zOk yX2_init cX2_init 1 none 0 := ⟨⟨by decide +kernel, by decide +kernel⟩, by decide +kernel, by decide, zGW_in 95 (by decide +kernel) (by decide +kernel), zGW_in 27 (by decide +kernel) (by decide +kernel)⟩
theorem okX3_init : zOk yX3_init cX3_init 1 none 0 := ⟨⟨by decide +kernel, by decide +kernel⟩, by decide +kernel, by decide, zGW_in 132 (by decide +kernel) (by decide +kernel), zGW_in 28 (by decide +kernel) (by decide +kernel)⟩
theorem okX5_count : zOk yX5_count cX5_count 2 (some .int) 1 := ⟨⟨by decide +kernel, by decide +kernel⟩, by decide +kernel, by decide, zGW_in 167 (by decide +kernel) (by decide +kernel), zGW_in 23 (by decide +kernel) (by decide +kernel)⟩
theorem okX4_room : zOk yX4_room cX4_room 3 (some .int) 0 := ⟨⟨by decide +kernel, by decide +kernel⟩, by decide +kernel, by decide, zGW_in 171 (by decide +kernel) (by decide +kernel), zGW_in 24 (by decide +kernel) (by decide +kernel)⟩
theorem okX1_room : zOk yX1_room cX1_room 1 (some .int) 0 := ⟨⟨by decide +kernel, by decide +kernel⟩, by decide +kernel, by decide, zGW_in 175 (by decide +kernel) (by decide +kernel), zGW_in 25 (by decide +kernel) (by decide +kernel)⟩
theorem okX1_roomFrom : zOk yX1_roomFrom cX1_roomFrom 6 (some .int) 3 := ⟨⟨by decide +kernel, by decide +kernel⟩, by decide +kernel, by decide, zGW_in 179 (by decide +kernel) (by decide +kernel), zGW_in 25 (by decide +kernel) (by decide +kernel)⟩
theorem okX1_isCut : zOk yX1_isCut cX1_isCut 4 (some .boolean) 3 := ⟨⟨by decide +kernel, by decide +kernel⟩, by decide +kernel, by decide, zGW_in 183 (by decide +kernel) (by decide +kernel), zGW_in 25 (by decide +kernel) (by decide +kernel)⟩
theorem okX1_sortOf : zOk yX1_sortOf cX1_sortOf 4 (some .int) 3 := ⟨⟨by decide +kernel, by decide +kernel⟩, by decide +kernel, by decide, zGW_in 187 (by decide +kernel) (by decide +kernel), zGW_in 25 (by decide +kernel) (by decide +kernel)⟩
theorem okX1_numberOf : zOk yX1_numberOf cX1_numberOf 5 (some .int) 3 := ⟨⟨by decide +kernel, by decide +kernel⟩, by decide +kernel, by decide, zGW_in 190 (by decide +kernel) (by decide +kernel), zGW_in 25 (by decide +kernel) (by decide +kernel)⟩
theorem okX5_sizeAt : zOk yX5_sizeAt cX5_sizeAt 1 (some .int) 1 := ⟨⟨by decide +kernel, by decide +kernel⟩, by decide +kernel, by decide, zGW_in 193 (by decide +kernel) (by decide +kernel), zGW_in 23 (by decide +kernel) (by decide +kernel)⟩
theorem okX5_roomOfUncut : zOk yX5_roomOfUncut cX5_roomOfUncut 2 (some .int) 2 := ⟨⟨by decide +kernel, by decide +kernel⟩, by decide +kernel, by decide, zGW_in 196 (by decide +kernel) (by decide +kernel), zGW_in 23 (by decide +kernel) (by decide +kernel)⟩
theorem okX1_rowOfPart : zOk yX1_rowOfPart cX1_rowOfPart 3 (some .int) 3 := ⟨⟨by decide +kernel, by decide +kernel⟩, by decide +kernel, by decide, zGW_in 199 (by decide +kernel) (by decide +kernel), zGW_in 25 (by decide +kernel) (by decide +kernel)⟩
theorem okX1_columnOfPart : zOk yX1_columnOfPart cX1_columnOfPart 3 (some .int) 3 := ⟨⟨by decide +kernel, by decide +kernel⟩, by decide +kernel, by decide, zGW_in 202 (by decide +kernel) (by decide +kernel), zGW_in 25 (by decide +kernel) (by decide +kernel)⟩
theorem okX4_emptyOnes : zOk yX4_emptyOnes cX4_emptyOnes 3 (some .int) 0 := ⟨⟨by decide +kernel, by decide +kernel⟩, by decide +kernel, by decide, zGW_in 206 (by decide +kernel) (by decide +kernel), zGW_in 24 (by decide +kernel) (by decide +kernel)⟩
theorem okX5_undo : zOk yX5_undo cX5_undo 1 (some .int) 0 := ⟨⟨by decide +kernel, by decide +kernel⟩, by decide +kernel, by decide, zGW_in 211 (by decide +kernel) (by decide +kernel), zGW_in 23 (by decide +kernel) (by decide +kernel)⟩
theorem okX0_takeBack : zOk yX0_takeBack cX0_takeBack 2 none 1 := ⟨⟨by decide +kernel, by decide +kernel⟩, by decide +kernel, by decide, zGW_in 215 (by decide +kernel) (by decide +kernel), zGW_in 26 (by decide +kernel) (by decide +kernel)⟩
theorem okX4_become : zOk yX4_become cX4_become 3 none 1 := ⟨⟨by decide +kernel, by decide +kernel⟩, by decide +kernel, by decide, zGW_in 219 (by decide +kernel) (by decide +kernel), zGW_in 24 (by decide +kernel) (by decide +kernel)⟩
theorem okX1_become : zOk yX1_become cX1_become 2 none 1 := ⟨⟨by decide +kernel, by decide +kernel⟩, by decide +kernel, by decide, zGW_in 223 (by decide +kernel) (by decide +kernel), zGW_in 25 (by decide +kernel) (by decide +kernel)⟩
theorem okX5_save : zOk yX5_save cX5_save 2 (some .int) 1 := ⟨⟨by decide +kernel, by decide +kernel⟩, by decide +kernel, by decide, zGW_in 230 (by decide +kernel) (by decide +kernel), zGW_in 23 (by decide +kernel) (by decide +kernel)⟩
theorem okX5_isSlot : zOk yX5_isSlot cX5_isSlot 1 (some .boolean) 1 := ⟨⟨by decide +kernel, by decide +kernel⟩, by decide +kernel, by decide, zGW_in 233 (by decide +kernel) (by decide +kernel), zGW_in 23 (by decide +kernel) (by decide +kernel)⟩
theorem okX5_restore : zOk yX5_restore cX5_restore 2 (some .int) 1 := ⟨⟨by decide +kernel, by decide +kernel⟩, by decide +kernel, by decide, zGW_in 238 (by decide +kernel) (by decide +kernel), zGW_in 23 (by decide +kernel) (by decide +kernel)⟩
theorem okX0_keep : zOk yX0_keep cX0_keep 2 none 1 := ⟨⟨by decide +kernel, by decide +kernel⟩, by decide +kernel, by decide, zGW_in 242 (by decide +kernel) (by decide +kernel), zGW_in 26 (by decide +kernel) (by decide +kernel)⟩
theorem okL_cell : zOk yL_cell cL_cell 2 (some .int) 2 := ⟨⟨by decide +kernel, by decide +kernel⟩, by decide +kernel, by decide, zGW_in 245 (by decide +kernel) (by decide +kernel), zGW_in 22 (by decide +kernel) (by decide +kernel)⟩
theorem okL_low : zOk yL_low cL_low 2 (some .int) 2 := ⟨⟨by decide +kernel, by decide +kernel⟩, by decide +kernel, by decide, zGW_in 248 (by decide +kernel) (by decide +kernel), zGW_in 22 (by decide +kernel) (by decide +kernel)⟩
theorem okL_all : zOk yL_all cL_all 1 (some .long) 1 := ⟨⟨by decide +kernel, by decide +kernel⟩, by decide +kernel, by decide, zGW_in 252 (by decide +kernel) (by decide +kernel), zGW_in 22 (by decide +kernel) (by decide +kernel)⟩
theorem okL_told : zOk yL_told cL_told 5 (some .long) 2 := ⟨⟨by decide +kernel, by decide +kernel⟩, by decide +kernel, by decide, zGW_in 256 (by decide +kernel) (by decide +kernel), zGW_in 22 (by decide +kernel) (by decide +kernel)⟩
theorem okX5_at : zOk yX5_at cX5_at 4 (some .int) 3 := ⟨⟨by decide +kernel, by decide +kernel⟩, by decide +kernel, by decide, zGW_in 261 (by decide +kernel) (by decide +kernel), zGW_in 23 (by decide +kernel) (by decide +kernel)⟩
theorem okX5_isPlace : zOk yX5_isPlace cX5_isPlace 3 (some .boolean) 3 := ⟨⟨by decide +kernel, by decide +kernel⟩, by decide +kernel, by decide, zGW_in 264 (by decide +kernel) (by decide +kernel), zGW_in 23 (by decide +kernel) (by decide +kernel)⟩
theorem okX5_isMatrix : zOk yX5_isMatrix cX5_isMatrix 1 (some .boolean) 1 := ⟨⟨by decide +kernel, by decide +kernel⟩, by decide +kernel, by decide, zGW_in 267 (by decide +kernel) (by decide +kernel), zGW_in 23 (by decide +kernel) (by decide +kernel)⟩
theorem okX1_entryAt : zOk yX1_entryAt cX1_entryAt 3 (some .int) 2 := ⟨⟨by decide +kernel, by decide +kernel⟩, by decide +kernel, by decide, zGW_in 271 (by decide +kernel) (by decide +kernel), zGW_in 25 (by decide +kernel) (by decide +kernel)⟩
theorem okX1_cellOf : zOk yX1_cellOf cX1_cellOf 2 (some .int) 2 := ⟨⟨by decide +kernel, by decide +kernel⟩, by decide +kernel, by decide, zGW_in 274 (by decide +kernel) (by decide +kernel), zGW_in 25 (by decide +kernel) (by decide +kernel)⟩
theorem okX5_of : zOk yX5_of cX5_of 4 (some .int) 2 := ⟨⟨by decide +kernel, by decide +kernel⟩, by decide +kernel, by decide, zGW_in 279 (by decide +kernel) (by decide +kernel), zGW_in 23 (by decide +kernel) (by decide +kernel)⟩
theorem okX1_deepest : zOk yX1_deepest cX1_deepest 3 (some .int) 0 := ⟨⟨by decide +kernel, by decide +kernel⟩, by decide +kernel, by decide, zGW_in 284 (by decide +kernel) (by decide +kernel), zGW_in 25 (by decide +kernel) (by decide +kernel)⟩
theorem okX1_depthOf : zOk yX1_depthOf cX1_depthOf 4 (some .int) 2 := ⟨⟨by decide +kernel, by decide +kernel⟩, by decide +kernel, by decide, zGW_in 288 (by decide +kernel) (by decide +kernel), zGW_in 25 (by decide +kernel) (by decide +kernel)⟩
theorem okJ9_max_7cf53 : zOk yJ9_max_7cf53 cJ9_max_7cf53 2 (some .int) 2 := ⟨⟨by decide +kernel, by decide +kernel⟩, by decide +kernel, by decide, zGW_in 291 (by decide +kernel) (by decide +kernel), zGW_in 30 (by decide +kernel) (by decide +kernel)⟩
theorem okX1_blocksOf : zOk yX1_blocksOf cX1_blocksOf 2 (some .int) 1 := ⟨⟨by decide +kernel, by decide +kernel⟩, by decide +kernel, by decide, zGW_in 295 (by decide +kernel) (by decide +kernel), zGW_in 25 (by decide +kernel) (by decide +kernel)⟩
theorem okX1_blocksFrom : zOk yX1_blocksFrom cX1_blocksFrom 7 (some .int) 4 := ⟨⟨by decide +kernel, by decide +kernel⟩, by decide +kernel, by decide, zGW_in 299 (by decide +kernel) (by decide +kernel), zGW_in 25 (by decide +kernel) (by decide +kernel)⟩
theorem okX1_filledEntries : zOk yX1_filledEntries cX1_filledEntries 3 (some .int) 0 := ⟨⟨by decide +kernel, by decide +kernel⟩, by decide +kernel, by decide, zGW_in 303 (by decide +kernel) (by decide +kernel), zGW_in 25 (by decide +kernel) (by decide +kernel)⟩
theorem okX1_trace : zOk yX1_trace cX1_trace 3 (some .int) 0 := ⟨⟨by decide +kernel, by decide +kernel⟩, by decide +kernel, by decide, zGW_in 307 (by decide +kernel) (by decide +kernel), zGW_in 25 (by decide +kernel) (by decide +kernel)⟩
theorem okX1_greatest : zOk yX1_greatest cX1_greatest 3 (some .int) 0 := ⟨⟨by decide +kernel, by decide +kernel⟩, by decide +kernel, by decide, zGW_in 313 (by decide +kernel) (by decide +kernel), zGW_in 25 (by decide +kernel) (by decide +kernel)⟩
theorem okX1_least : zOk yX1_least cX1_least 3 (some .int) 0 := ⟨⟨by decide +kernel, by decide +kernel⟩, by decide +kernel, by decide, zGW_in 317 (by decide +kernel) (by decide +kernel), zGW_in 25 (by decide +kernel) (by decide +kernel)⟩
theorem okJ9_min_7cf53 : zOk yJ9_min_7cf53 cJ9_min_7cf53 2 (some .int) 2 := ⟨⟨by decide +kernel, by decide +kernel⟩, by decide +kernel, by decide, zGW_in 320 (by decide +kernel) (by decide +kernel), zGW_in 30 (by decide +kernel) (by decide +kernel)⟩
theorem okX1_isItsTurned : zOk yX1_isItsTurned cX1_isItsTurned 3 (some .boolean) 0 := ⟨⟨by decide +kernel, by decide +kernel⟩, by decide +kernel, by decide, zGW_in 324 (by decide +kernel) (by decide +kernel), zGW_in 25 (by decide +kernel) (by decide +kernel)⟩
theorem okL_act : zOk yL_act cL_act 6 (some .int) 3 := ⟨⟨by decide +kernel, by decide +kernel⟩, by decide +kernel, by decide, zGW_in 328 (by decide +kernel) (by decide +kernel), zGW_in 22 (by decide +kernel) (by decide +kernel)⟩
theorem okX5_shrink : zOk yX5_shrink cX5_shrink 3 (some .int) 1 := ⟨⟨by decide +kernel, by decide +kernel⟩, by decide +kernel, by decide, zGW_in 332 (by decide +kernel) (by decide +kernel), zGW_in 23 (by decide +kernel) (by decide +kernel)⟩
theorem okX5_beginChange : zOk yX5_beginChange cX5_beginChange 1 none 0 := ⟨⟨by decide +kernel, by decide +kernel⟩, by decide +kernel, by decide, zGW_in 336 (by decide +kernel) (by decide +kernel), zGW_in 23 (by decide +kernel) (by decide +kernel)⟩
theorem okX1_makeSmaller : zOk yX1_makeSmaller cX1_makeSmaller 1 (some .int) 0 := ⟨⟨by decide +kernel, by decide +kernel⟩, by decide +kernel, by decide, zGW_in 340 (by decide +kernel) (by decide +kernel), zGW_in 25 (by decide +kernel) (by decide +kernel)⟩
theorem okX1_makeSmallerFrom : zOk yX1_makeSmallerFrom cX1_makeSmallerFrom 7 (some .int) 3 := ⟨⟨by decide +kernel, by decide +kernel⟩, by decide +kernel, by decide, zGW_in 344 (by decide +kernel) (by decide +kernel), zGW_in 25 (by decide +kernel) (by decide +kernel)⟩
theorem okX1_makePartsSmaller : zOk yX1_makePartsSmaller cX1_makePartsSmaller 6 (some .int) 3 := ⟨⟨by decide +kernel, by decide +kernel⟩, by decide +kernel, by decide, zGW_in 348 (by decide +kernel) (by decide +kernel), zGW_in 25 (by decide +kernel) (by decide +kernel)⟩
theorem okX1_toldByOne : zOk yX1_toldByOne cX1_toldByOne 10 (some .int) 3 := ⟨⟨by decide +kernel, by decide +kernel⟩, by decide +kernel, by decide, zGW_in 352 (by decide +kernel) (by decide +kernel), zGW_in 25 (by decide +kernel) (by decide +kernel)⟩
theorem okX1_firstFilledRow : zOk yX1_firstFilledRow cX1_firstFilledRow 6 (some .int) 3 := ⟨⟨by decide +kernel, by decide +kernel⟩, by decide +kernel, by decide, zGW_in 356 (by decide +kernel) (by decide +kernel), zGW_in 25 (by decide +kernel) (by decide +kernel)⟩
theorem okX1_firstFilledColumn : zOk yX1_firstFilledColumn cX1_firstFilledColumn 6 (some .int) 3 := ⟨⟨by decide +kernel, by decide +kernel⟩, by decide +kernel, by decide, zGW_in 360 (by decide +kernel) (by decide +kernel), zGW_in 25 (by decide +kernel) (by decide +kernel)⟩
theorem okX1_setSort : zOk yX1_setSort cX1_setSort 5 none 4 := ⟨⟨by decide +kernel, by decide +kernel⟩, by decide +kernel, by decide, zGW_in 364 (by decide +kernel) (by decide +kernel), zGW_in 25 (by decide +kernel) (by decide +kernel)⟩
theorem okX5_clear : zOk yX5_clear cX5_clear 4 (some .int) 3 := ⟨⟨by decide +kernel, by decide +kernel⟩, by decide +kernel, by decide, zGW_in 368 (by decide +kernel) (by decide +kernel), zGW_in 23 (by decide +kernel) (by decide +kernel)⟩
theorem okX1_emptyBlockOf : zOk yX1_emptyBlockOf cX1_emptyBlockOf 4 (some .int) 2 := ⟨⟨by decide +kernel, by decide +kernel⟩, by decide +kernel, by decide, zGW_in 372 (by decide +kernel) (by decide +kernel), zGW_in 25 (by decide +kernel) (by decide +kernel)⟩
theorem okX5_firstOf : zOk yX5_firstOf cX5_firstOf 2 (some .int) 2 := ⟨⟨by decide +kernel, by decide +kernel⟩, by decide +kernel, by decide, zGW_in 375 (by decide +kernel) (by decide +kernel), zGW_in 23 (by decide +kernel) (by decide +kernel)⟩
theorem okX1_setEmpty : zOk yX1_setEmpty cX1_setEmpty 7 none 3 := ⟨⟨by decide +kernel, by decide +kernel⟩, by decide +kernel, by decide, zGW_in 380 (by decide +kernel) (by decide +kernel), zGW_in 25 (by decide +kernel) (by decide +kernel)⟩
theorem okX5_turn : zOk yX5_turn cX5_turn 2 (some .int) 1 := ⟨⟨by decide +kernel, by decide +kernel⟩, by decide +kernel, by decide, zGW_in 384 (by decide +kernel) (by decide +kernel), zGW_in 23 (by decide +kernel) (by decide +kernel)⟩
theorem okX1_transpose : zOk yX1_transpose cX1_transpose 3 none 0 := ⟨⟨by decide +kernel, by decide +kernel⟩, by decide +kernel, by decide, zGW_in 388 (by decide +kernel) (by decide +kernel), zGW_in 25 (by decide +kernel) (by decide +kernel)⟩
theorem okX1_swap : zOk yX1_swap cX1_swap 4 none 3 := ⟨⟨by decide +kernel, by decide +kernel⟩, by decide +kernel, by decide, zGW_in 391 (by decide +kernel) (by decide +kernel), zGW_in 25 (by decide +kernel) (by decide +kernel)⟩
theorem okX1_transposeSorts : zOk yX1_transposeSorts cX1_transposeSorts 5 none 1 := ⟨⟨by decide +kernel, by decide +kernel⟩, by decide +kernel, by decide, zGW_in 395 (by decide +kernel) (by decide +kernel), zGW_in 25 (by decide +kernel) (by decide +kernel)⟩
theorem okX5_add : zOk yX5_add cX5_add 4 (some .int) 3 := ⟨⟨by decide +kernel, by decide +kernel⟩, by decide +kernel, by decide, zGW_in 399 (by decide +kernel) (by decide +kernel), zGW_in 23 (by decide +kernel) (by decide +kernel)⟩
theorem okX5_isWithin : zOk yX5_isWithin cX5_isWithin 2 (some .boolean) 2 := ⟨⟨by decide +kernel, by decide +kernel⟩, by decide +kernel, by decide, zGW_in 402 (by decide +kernel) (by decide +kernel), zGW_in 23 (by decide +kernel) (by decide +kernel)⟩
theorem okX1_join : zOk yX1_join cX1_join 3 none 2 := ⟨⟨by decide +kernel, by decide +kernel⟩, by decide +kernel, by decide, zGW_in 406 (by decide +kernel) (by decide +kernel), zGW_in 25 (by decide +kernel) (by decide +kernel)⟩
theorem okX1_joinFrom : zOk yX1_joinFrom cX1_joinFrom 7 none 5 := ⟨⟨by decide +kernel, by decide +kernel⟩, by decide +kernel, by decide, zGW_in 410 (by decide +kernel) (by decide +kernel), zGW_in 25 (by decide +kernel) (by decide +kernel)⟩
theorem okX1_joinEntries : zOk yX1_joinEntries cX1_joinEntries 11 none 5 := ⟨⟨by decide +kernel, by decide +kernel⟩, by decide +kernel, by decide, zGW_in 414 (by decide +kernel) (by decide +kernel), zGW_in 25 (by decide +kernel) (by decide +kernel)⟩
theorem okX5_copy : zOk yX5_copy cX5_copy 3 (some .int) 2 := ⟨⟨by decide +kernel, by decide +kernel⟩, by decide +kernel, by decide, zGW_in 420 (by decide +kernel) (by decide +kernel), zGW_in 23 (by decide +kernel) (by decide +kernel)⟩
theorem okX5_wipe : zOk yX5_wipe cX5_wipe 2 (some .int) 0 := ⟨⟨by decide +kernel, by decide +kernel⟩, by decide +kernel, by decide, zGW_in 425 (by decide +kernel) (by decide +kernel), zGW_in 23 (by decide +kernel) (by decide +kernel)⟩
theorem okX5_put : zOk yX5_put cX5_put 5 (some .int) 1 := ⟨⟨by decide +kernel, by decide +kernel⟩, by decide +kernel, by decide, zGW_in 431 (by decide +kernel) (by decide +kernel), zGW_in 23 (by decide +kernel) (by decide +kernel)⟩
theorem okX5_signsIn : zOk yX5_signsIn cX5_signsIn 7 (some .int) 1 := ⟨⟨by decide +kernel, by decide +kernel⟩, by decide +kernel, by decide, zGW_in 434 (by decide +kernel) (by decide +kernel), zGW_in 23 (by decide +kernel) (by decide +kernel)⟩
theorem okX2_append : zOk yX2_append cX2_append 2 none 1 := ⟨⟨by decide +kernel, by decide +kernel⟩, by decide +kernel, by decide, zGW_in 441 (by decide +kernel) (by decide +kernel), zGW_in 27 (by decide +kernel) (by decide +kernel)⟩
theorem okX5_tell : zOk yX5_tell cX5_tell 2 (some .int) 1 := ⟨⟨by decide +kernel, by decide +kernel⟩, by decide +kernel, by decide, zGW_in 446 (by decide +kernel) (by decide +kernel), zGW_in 23 (by decide +kernel) (by decide +kernel)⟩
theorem okX2_read : zOk yX2_read cX2_read 1 (some .boolean) 0 := ⟨⟨by decide +kernel, by decide +kernel⟩, by decide +kernel, by decide, zGW_in 450 (by decide +kernel) (by decide +kernel), zGW_in 27 (by decide +kernel) (by decide +kernel)⟩
theorem okX2_readBlock : zOk yX2_readBlock cX2_readBlock 4 (some .boolean) 3 := ⟨⟨by decide +kernel, by decide +kernel⟩, by decide +kernel, by decide, zGW_in 454 (by decide +kernel) (by decide +kernel), zGW_in 27 (by decide +kernel) (by decide +kernel)⟩
theorem okX2_passes : zOk yX2_passes cX2_passes 2 (some .boolean) 1 := ⟨⟨by decide +kernel, by decide +kernel⟩, by decide +kernel, by decide, zGW_in 458 (by decide +kernel) (by decide +kernel), zGW_in 27 (by decide +kernel) (by decide +kernel)⟩
theorem okX2_readSame : zOk yX2_readSame cX2_readSame 5 (some .boolean) 3 := ⟨⟨by decide +kernel, by decide +kernel⟩, by decide +kernel, by decide, zGW_in 463 (by decide +kernel) (by decide +kernel), zGW_in 27 (by decide +kernel) (by decide +kernel)⟩
theorem okX2_readValue : zOk yX2_readValue cX2_readValue 3 (some .boolean) 0 := ⟨⟨by decide +kernel, by decide +kernel⟩, by decide +kernel, by decide, zGW_in 467 (by decide +kernel) (by decide +kernel), zGW_in 27 (by decide +kernel) (by decide +kernel)⟩
theorem okX2_digit : zOk yX2_digit cX2_digit 1 (some .int) 0 := ⟨⟨by decide +kernel, by decide +kernel⟩, by decide +kernel, by decide, zGW_in 471 (by decide +kernel) (by decide +kernel), zGW_in 27 (by decide +kernel) (by decide +kernel)⟩
theorem okX1_setThin : zOk yX1_setThin cX1_setThin 9 none 5 := ⟨⟨by decide +kernel, by decide +kernel⟩, by decide +kernel, by decide, zGW_in 475 (by decide +kernel) (by decide +kernel), zGW_in 25 (by decide +kernel) (by decide +kernel)⟩
theorem okX2_readProduct : zOk yX2_readProduct cX2_readProduct 5 (some .boolean) 3 := ⟨⟨by decide +kernel, by decide +kernel⟩, by decide +kernel, by decide, zGW_in 479 (by decide +kernel) (by decide +kernel), zGW_in 27 (by decide +kernel) (by decide +kernel)⟩
theorem okX2_readValues : zOk yX2_readValues cX2_readValues 7 (some .boolean) 2 := ⟨⟨by decide +kernel, by decide +kernel⟩, by decide +kernel, by decide, zGW_in 484 (by decide +kernel) (by decide +kernel), zGW_in 27 (by decide +kernel) (by decide +kernel)⟩
theorem okX2_readFull : zOk yX2_readFull cX2_readFull 5 (some .boolean) 3 := ⟨⟨by decide +kernel, by decide +kernel⟩, by decide +kernel, by decide, zGW_in 489 (by decide +kernel) (by decide +kernel), zGW_in 27 (by decide +kernel) (by decide +kernel)⟩
theorem okX1_setFull : zOk yX1_setFull cX1_setFull 8 none 4 := ⟨⟨by decide +kernel, by decide +kernel⟩, by decide +kernel, by decide, zGW_in 493 (by decide +kernel) (by decide +kernel), zGW_in 25 (by decide +kernel) (by decide +kernel)⟩
theorem okX2_readParts : zOk yX2_readParts cX2_readParts 7 (some .boolean) 3 := ⟨⟨by decide +kernel, by decide +kernel⟩, by decide +kernel, by decide, zGW_in 497 (by decide +kernel) (by decide +kernel), zGW_in 27 (by decide +kernel) (by decide +kernel)⟩
theorem okX5_entry : zOk yX5_entry cX5_entry 6 (some .int) 4 := ⟨⟨by decide +kernel, by decide +kernel⟩, by decide +kernel, by decide, zGW_in 506 (by decide +kernel) (by decide +kernel), zGW_in 23 (by decide +kernel) (by decide +kernel)⟩
theorem okX1_changeEntry : zOk yX1_changeEntry cX1_changeEntry 5 none 3 := ⟨⟨by decide +kernel, by decide +kernel⟩, by decide +kernel, by decide, zGW_in 510 (by decide +kernel) (by decide +kernel), zGW_in 25 (by decide +kernel) (by decide +kernel)⟩
theorem okX1_cutBlock : zOk yX1_cutBlock cX1_cutBlock 8 none 3 := ⟨⟨by decide +kernel, by decide +kernel⟩, by decide +kernel, by decide, zGW_in 514 (by decide +kernel) (by decide +kernel), zGW_in 25 (by decide +kernel) (by decide +kernel)⟩
theorem okL_holds : zOk yL_holds cL_holds 13 (some .boolean) 2 := ⟨⟨by decide +kernel, by decide +kernel⟩, by decide +kernel, by decide, zGW_in 517 (by decide +kernel) (by decide +kernel), zGW_in 22 (by decide +kernel) (by decide +kernel)⟩
theorem okX5_block : zOk yX5_block cX5_block 8 (some .int) 4 := ⟨⟨by decide +kernel, by decide +kernel⟩, by decide +kernel, by decide, zGW_in 521 (by decide +kernel) (by decide +kernel), zGW_in 23 (by decide +kernel) (by decide +kernel)⟩
theorem okX5_wouldTake : zOk yX5_wouldTake cX5_wouldTake 2 (some .int) 1 := ⟨⟨by decide +kernel, by decide +kernel⟩, by decide +kernel, by decide, zGW_in 531 (by decide +kernel) (by decide +kernel), zGW_in 23 (by decide +kernel) (by decide +kernel)⟩
theorem klL_13 : Cond.classLink RL 13 RX5 ∈ zGW := zGW_in 31 (by decide +kernel) (by decide +kernel)
theorem lkL_86 : zLi RL 86 yX5_init := ⟨zGW_in 33 (by decide +kernel) (by decide +kernel), zGW_in 34 (by decide +kernel) (by decide +kernel), rfl⟩
theorem loX5_3 : Cond.methodLink RX5 3 objectInit ∈ zGW ∧ Cond.instanceMethod objectInit ∈ zGW ∧ Cond.code objectInit ⟨#[0xb1]⟩ 1 none ∈ zGW := ⟨zGW_in 36 (by decide +kernel) (by decide +kernel), zGW_in 37 (by decide +kernel) (by decide +kernel), zGW_in 38 (by decide +kernel) (by decide +kernel)⟩
theorem klX5_9 : Cond.classLink RX5 9 RX4 ∈ zGW := zGW_in 39 (by decide +kernel) (by decide +kernel)
theorem lkX5_11 : zLi RX5 11 yX4_init := ⟨zGW_in 41 (by decide +kernel) (by decide +kernel), zGW_in 42 (by decide +kernel) (by decide +kernel), rfl⟩
theorem loX4_3 : Cond.methodLink RX4 3 objectInit ∈ zGW ∧ Cond.instanceMethod objectInit ∈ zGW ∧ Cond.code objectInit ⟨#[0xb1]⟩ 1 none ∈ zGW := ⟨zGW_in 44 (by decide +kernel) (by decide +kernel), zGW_in 37 (by decide +kernel) (by decide +kernel), zGW_in 38 (by decide +kernel) (by decide +kernel)⟩
theorem klX4_9 : Cond.classLink RX4 9 RX1 ∈ zGW := zGW_in 45 (by decide +kernel) (by decide +kernel)
theorem nkX4_21 : zNi RX4 21 yX1_init := ⟨zNW_in 48 (by decide +kernel) (by decide +kernel), zGW_in 49 (by decide +kernel) (by decide +kernel), rfl⟩
theorem loX1_3 : Cond.methodLink RX1 3 objectInit ∈ zGW ∧ Cond.instanceMethod objectInit ∈ zGW ∧ Cond.code objectInit ⟨#[0xb1]⟩ 1 none ∈ zGW := ⟨zGW_in 51 (by decide +kernel) (by decide +kernel), zGW_in 37 (by decide +kernel) (by decide +kernel), zGW_in 38 (by decide +kernel) (by decide +kernel)⟩
theorem lfX1_9 : zFl RX1 9 1 0 := ⟨RX1, TX1, 2, rfl, by decide, zGW_in 52 (by decide +kernel) (by decide +kernel), inX1⟩
theorem lfX1_15 : zFl RX1 15 1 1 := ⟨RX1, TX1, 2, rfl, by decide, zGW_in 53 (by decide +kernel) (by decide +kernel), inX1⟩
theorem lfX4_11 : zFl RX4 11 4 0 := ⟨RX4, TX4, 2, rfl, by decide, zGW_in 60 (by decide +kernel) (by decide +kernel), inX4⟩
theorem nfX5_59 : zFn RX5 59 4 0 := ⟨RX4, TX4, 2, rfl, by decide, zNW_in 61 (by decide +kernel) (by decide +kernel), inX4⟩
theorem lfX4_17 : zFl RX4 17 4 1 := ⟨RX4, TX4, 2, rfl, by decide, zGW_in 62 (by decide +kernel) (by decide +kernel), inX4⟩
theorem nfX5_160 : zFn RX5 160 4 1 := ⟨RX4, TX4, 2, rfl, by decide, zNW_in 63 (by decide +kernel) (by decide +kernel), inX4⟩
theorem klX5_16 : Cond.classLink RX5 16 RX0 ∈ zGW := zGW_in 69 (by decide +kernel) (by decide +kernel)
theorem lkX5_18 : zLi RX5 18 yX0_init := ⟨zGW_in 71 (by decide +kernel) (by decide +kernel), zGW_in 72 (by decide +kernel) (by decide +kernel), rfl⟩
theorem loX0_3 : Cond.methodLink RX0 3 objectInit ∈ zGW ∧ Cond.instanceMethod objectInit ∈ zGW ∧ Cond.code objectInit ⟨#[0xb1]⟩ 1 none ∈ zGW := ⟨zGW_in 74 (by decide +kernel) (by decide +kernel), zGW_in 37 (by decide +kernel) (by decide +kernel), zGW_in 38 (by decide +kernel) (by decide +kernel)⟩
theorem klX0_9 : Cond.classLink RX0 9 RX4 ∈ zGW := zGW_in 75 (by decide +kernel) (by decide +kernel)
theorem lkX0_24 : zLi RX0 24 yX4_init := ⟨zGW_in 77 (by decide +kernel) (by decide +kernel), zGW_in 42 (by decide +kernel) (by decide +kernel), rfl⟩
theorem lfX0_11 : zFl RX0 11 0 0 := ⟨RX0, TX0, 3, rfl, by decide, zGW_in 78 (by decide +kernel) (by decide +kernel), inX0⟩
theorem lfX0_17 : zFl RX0 17 0 1 := ⟨RX0, TX0, 3, rfl, by decide, zGW_in 79 (by decide +kernel) (by decide +kernel), inX0⟩
theorem lfX0_21 : zFl RX0 21 0 2 := ⟨RX0, TX0, 3, rfl, by decide, zGW_in 80 (by decide +kernel) (by decide +kernel), inX0⟩
theorem nfX5_163 : zFn RX5 163 0 2 := ⟨RX0, TX0, 3, rfl, by decide, zNW_in 81 (by decide +kernel) (by decide +kernel), inX0⟩
theorem klX5_23 : Cond.classLink RX5 23 RX3 ∈ zGW := zGW_in 89 (by decide +kernel) (by decide +kernel)
theorem klX5_29 : Cond.classLink RX5 29 RX2 ∈ zGW := zGW_in 91 (by decide +kernel) (by decide +kernel)
theorem nkX5_31 : zNi RX5 31 yX2_init := ⟨zNW_in 93 (by decide +kernel) (by decide +kernel), zGW_in 94 (by decide +kernel) (by decide +kernel), rfl⟩
theorem loX2_3 : Cond.methodLink RX2 3 objectInit ∈ zGW ∧ Cond.instanceMethod objectInit ∈ zGW ∧ Cond.code objectInit ⟨#[0xb1]⟩ 1 none ∈ zGW := ⟨zGW_in 96 (by decide +kernel) (by decide +kernel), zGW_in 37 (by decide +kernel) (by decide +kernel), zGW_in 38 (by decide +kernel) (by decide +kernel)⟩
theorem klX2_19 : Cond.classLink RX2 19 RX1 ∈ zGW := zGW_in 97 (by decide +kernel) (by decide +kernel)
theorem nkX2_21 : zNi RX2 21 yX1_init := ⟨zNW_in 98 (by decide +kernel) (by decide +kernel), zGW_in 49 (by decide +kernel) (by decide +kernel), rfl⟩
theorem lfX2_9 : zFl RX2 9 2 0 := ⟨RX2, TX2, 8, rfl, by decide, zGW_in 99 (by decide +kernel) (by decide +kernel), inX2⟩
theorem lfX2_15 : zFl RX2 15 2 1 := ⟨RX2, TX2, 8, rfl, by decide, zGW_in 100 (by decide +kernel) (by decide +kernel), inX2⟩
theorem nfX5_70 : zFn RX5 70 2 1 := ⟨RX2, TX2, 8, rfl, by decide, zNW_in 101 (by decide +kernel) (by decide +kernel), inX2⟩
theorem lfX2_22 : zFl RX2 22 2 2 := ⟨RX2, TX2, 8, rfl, by decide, zGW_in 102 (by decide +kernel) (by decide +kernel), inX2⟩
theorem nfX5_63 : zFn RX5 63 2 2 := ⟨RX2, TX2, 8, rfl, by decide, zNW_in 103 (by decide +kernel) (by decide +kernel), inX2⟩
theorem lfX2_26 : zFl RX2 26 2 3 := ⟨RX2, TX2, 8, rfl, by decide, zGW_in 104 (by decide +kernel) (by decide +kernel), inX2⟩
theorem lfX2_30 : zFl RX2 30 2 4 := ⟨RX2, TX2, 8, rfl, by decide, zGW_in 105 (by decide +kernel) (by decide +kernel), inX2⟩
theorem lfX2_33 : zFl RX2 33 2 5 := ⟨RX2, TX2, 8, rfl, by decide, zGW_in 106 (by decide +kernel) (by decide +kernel), inX2⟩
theorem lfX2_36 : zFl RX2 36 2 6 := ⟨RX2, TX2, 8, rfl, by decide, zGW_in 107 (by decide +kernel) (by decide +kernel), inX2⟩
theorem lfX2_39 : zFl RX2 39 2 7 := ⟨RX2, TX2, 8, rfl, by decide, zGW_in 108 (by decide +kernel) (by decide +kernel), inX2⟩
theorem klX5_36 : Cond.classLink RX5 36 RX1 ∈ zGW := zGW_in 127 (by decide +kernel) (by decide +kernel)
theorem nkX5_38 : zNi RX5 38 yX1_init := ⟨zNW_in 128 (by decide +kernel) (by decide +kernel), zGW_in 49 (by decide +kernel) (by decide +kernel), rfl⟩
theorem nkX5_47 : zNi RX5 47 yX3_init := ⟨zNW_in 130 (by decide +kernel) (by decide +kernel), zGW_in 131 (by decide +kernel) (by decide +kernel), rfl⟩
theorem loX3_1 : Cond.methodLink RX3 1 objectInit ∈ zGW ∧ Cond.instanceMethod objectInit ∈ zGW ∧ Cond.code objectInit ⟨#[0xb1]⟩ 1 none ∈ zGW := ⟨zGW_in 133 (by decide +kernel) (by decide +kernel), zGW_in 37 (by decide +kernel) (by decide +kernel), zGW_in 38 (by decide +kernel) (by decide +kernel)⟩
theorem klX3_7 : Cond.classLink RX3 7 RX4 ∈ zGW := zGW_in 134 (by decide +kernel) (by decide +kernel)
theorem lkX3_9 : zLi RX3 9 yX4_init := ⟨zGW_in 135 (by decide +kernel) (by decide +kernel), zGW_in 42 (by decide +kernel) (by decide +kernel), rfl⟩
theorem lfX3_10 : zFl RX3 10 3 0 := ⟨RX3, TX3, 2, rfl, by decide, zGW_in 136 (by decide +kernel) (by decide +kernel), inX3⟩
theorem nfX5_198 : zFn RX5 198 3 0 := ⟨RX3, TX3, 2, rfl, by decide, zNW_in 137 (by decide +kernel) (by decide +kernel), inX3⟩
theorem lfX3_16 : zFl RX3 16 3 1 := ⟨RX3, TX3, 2, rfl, by decide, zGW_in 138 (by decide +kernel) (by decide +kernel), inX3⟩
theorem nfX5_203 : zFn RX5 203 3 1 := ⟨RX3, TX3, 2, rfl, by decide, zNW_in 139 (by decide +kernel) (by decide +kernel), inX3⟩
theorem lfX5_12 : zFl RX5 12 5 0 := ⟨RX5, TX5, 6, rfl, by decide, zGW_in 145 (by decide +kernel) (by decide +kernel), inX5⟩
theorem lfX5_19 : zFl RX5 19 5 1 := ⟨RX5, TX5, 6, rfl, by decide, zGW_in 146 (by decide +kernel) (by decide +kernel), inX5⟩
theorem lfX5_25 : zFl RX5 25 5 2 := ⟨RX5, TX5, 6, rfl, by decide, zGW_in 147 (by decide +kernel) (by decide +kernel), inX5⟩
theorem lfX5_32 : zFl RX5 32 5 3 := ⟨RX5, TX5, 6, rfl, by decide, zGW_in 148 (by decide +kernel) (by decide +kernel), inX5⟩
theorem lfX5_39 : zFl RX5 39 5 4 := ⟨RX5, TX5, 6, rfl, by decide, zGW_in 149 (by decide +kernel) (by decide +kernel), inX5⟩
theorem lfX5_43 : zFl RX5 43 5 5 := ⟨RX5, TX5, 6, rfl, by decide, zGW_in 150 (by decide +kernel) (by decide +kernel), inX5⟩
theorem lkL_28 : zLv RL 28 yX5_count := ⟨zGW_in 164 (by decide +kernel) (by decide +kernel), zGW_in 165 (by decide +kernel) (by decide +kernel), zGW_in 166 (by decide +kernel) (by decide +kernel)⟩
theorem lkX5_156 : zLv RX5 156 yX4_room := ⟨zGW_in 168 (by decide +kernel) (by decide +kernel), zGW_in 169 (by decide +kernel) (by decide +kernel), zGW_in 170 (by decide +kernel) (by decide +kernel)⟩
theorem lkX4_26 : zLv RX4 26 yX1_room := ⟨zGW_in 172 (by decide +kernel) (by decide +kernel), zGW_in 173 (by decide +kernel) (by decide +kernel), zGW_in 174 (by decide +kernel) (by decide +kernel)⟩
theorem lkX1_51 : zLv RX1 51 yX1_roomFrom := ⟨zGW_in 176 (by decide +kernel) (by decide +kernel), zGW_in 178 (by decide +kernel) (by decide +kernel), zGW_in 0 (by decide +kernel) (by decide +kernel)⟩
theorem lkX1_39 : zLv RX1 39 yX1_isCut := ⟨zGW_in 180 (by decide +kernel) (by decide +kernel), zGW_in 182 (by decide +kernel) (by decide +kernel), zGW_in 1 (by decide +kernel) (by decide +kernel)⟩
theorem lkX1_36 : zLv RX1 36 yX1_sortOf := ⟨zGW_in 184 (by decide +kernel) (by decide +kernel), zGW_in 185 (by decide +kernel) (by decide +kernel), zGW_in 186 (by decide +kernel) (by decide +kernel)⟩
theorem lkX1_32 : zLs RX1 32 yX1_numberOf := ⟨zGW_in 188 (by decide +kernel) (by decide +kernel), zGW_in 189 (by decide +kernel) (by decide +kernel)⟩
theorem nkX1_24 : zNs RX1 24 yX5_sizeAt := ⟨zNW_in 191 (by decide +kernel) (by decide +kernel), zGW_in 192 (by decide +kernel) (by decide +kernel)⟩
theorem nkX1_54 : zNs RX1 54 yX5_roomOfUncut := ⟨zNW_in 194 (by decide +kernel) (by decide +kernel), zGW_in 195 (by decide +kernel) (by decide +kernel)⟩
theorem lkX1_57 : zLs RX1 57 yX1_rowOfPart := ⟨zGW_in 197 (by decide +kernel) (by decide +kernel), zGW_in 198 (by decide +kernel) (by decide +kernel)⟩
theorem lkX1_60 : zLs RX1 60 yX1_columnOfPart := ⟨zGW_in 200 (by decide +kernel) (by decide +kernel), zGW_in 201 (by decide +kernel) (by decide +kernel)⟩
theorem lkX5_157 : zLv RX5 157 yX4_emptyOnes := ⟨zGW_in 203 (by decide +kernel) (by decide +kernel), zGW_in 204 (by decide +kernel) (by decide +kernel), zGW_in 205 (by decide +kernel) (by decide +kernel)⟩
theorem lkX4_30 : zLv RX4 30 yX1_sortOf := ⟨zGW_in 207 (by decide +kernel) (by decide +kernel), zGW_in 185 (by decide +kernel) (by decide +kernel), zGW_in 186 (by decide +kernel) (by decide +kernel)⟩
theorem lkL_87 : zLv RL 87 yX5_undo := ⟨zGW_in 208 (by decide +kernel) (by decide +kernel), zGW_in 209 (by decide +kernel) (by decide +kernel), zGW_in 210 (by decide +kernel) (by decide +kernel)⟩
theorem lkX5_191 : zLv RX5 191 yX0_takeBack := ⟨zGW_in 212 (by decide +kernel) (by decide +kernel), zGW_in 213 (by decide +kernel) (by decide +kernel), zGW_in 214 (by decide +kernel) (by decide +kernel)⟩
theorem lkX0_25 : zLv RX0 25 yX4_become := ⟨zGW_in 216 (by decide +kernel) (by decide +kernel), zGW_in 217 (by decide +kernel) (by decide +kernel), zGW_in 218 (by decide +kernel) (by decide +kernel)⟩
theorem lkX4_22 : zLv RX4 22 yX1_become := ⟨zGW_in 220 (by decide +kernel) (by decide +kernel), zGW_in 221 (by decide +kernel) (by decide +kernel), zGW_in 222 (by decide +kernel) (by decide +kernel)⟩
theorem laX1_18 : Cond.methodLink RX1 18 arraycopyName ∈ zGW ∧ Cond.native arraycopyName ∈ zGW ∧ Cond.static arraycopyName ∈ zGW ∧ Cond.initialized "java/lang/System" ∈ zGW := ⟨zGW_in 224 (by decide +kernel) (by decide +kernel), zGW_in 226 (by decide +kernel) (by decide +kernel), zGW_in 225 (by decide +kernel) (by decide +kernel), zGW_in 29 (by decide +kernel) (by decide +kernel)⟩
theorem lkL_90 : zLv RL 90 yX5_save := ⟨zGW_in 227 (by decide +kernel) (by decide +kernel), zGW_in 228 (by decide +kernel) (by decide +kernel), zGW_in 229 (by decide +kernel) (by decide +kernel)⟩
theorem lkX5_195 : zLs RX5 195 yX5_isSlot := ⟨zGW_in 231 (by decide +kernel) (by decide +kernel), zGW_in 232 (by decide +kernel) (by decide +kernel)⟩
theorem lkX5_201 : zLv RX5 201 yX4_become := ⟨zGW_in 234 (by decide +kernel) (by decide +kernel), zGW_in 217 (by decide +kernel) (by decide +kernel), zGW_in 218 (by decide +kernel) (by decide +kernel)⟩
theorem lkL_52 : zLv RL 52 yX5_restore := ⟨zGW_in 235 (by decide +kernel) (by decide +kernel), zGW_in 236 (by decide +kernel) (by decide +kernel), zGW_in 237 (by decide +kernel) (by decide +kernel)⟩
theorem lkX5_207 : zLv RX5 207 yX0_keep := ⟨zGW_in 239 (by decide +kernel) (by decide +kernel), zGW_in 240 (by decide +kernel) (by decide +kernel), zGW_in 241 (by decide +kernel) (by decide +kernel)⟩
theorem lkL_97 : zLs RL 97 yL_cell := ⟨zGW_in 243 (by decide +kernel) (by decide +kernel), zGW_in 244 (by decide +kernel) (by decide +kernel)⟩
theorem lkL_34 : zLs RL 34 yL_low := ⟨zGW_in 246 (by decide +kernel) (by decide +kernel), zGW_in 247 (by decide +kernel) (by decide +kernel)⟩
theorem kcL_7 : Cond.constant RL 7 2147483647 ∈ zGW := zGW_in 249 (by decide +kernel) (by decide +kernel)
theorem lkL_93 : zLs RL 93 yL_all := ⟨zGW_in 250 (by decide +kernel) (by decide +kernel), zGW_in 251 (by decide +kernel) (by decide +kernel)⟩
theorem kcL_10 : Cond.constantLong RL 10 31 ∈ zGW := zGW_in 253 (by decide +kernel) (by decide +kernel)
theorem lkL_22 : zLs RL 22 yL_told := ⟨zGW_in 254 (by decide +kernel) (by decide +kernel), zGW_in 255 (by decide +kernel) (by decide +kernel)⟩
theorem kcL_8 : Cond.constantLong RL 8 3 ∈ zGW := zGW_in 257 (by decide +kernel) (by decide +kernel)
theorem lkL_12 : zLv RL 12 yX5_at := ⟨zGW_in 258 (by decide +kernel) (by decide +kernel), zGW_in 259 (by decide +kernel) (by decide +kernel), zGW_in 260 (by decide +kernel) (by decide +kernel)⟩
theorem lkX5_78 : zLs RX5 78 yX5_isPlace := ⟨zGW_in 262 (by decide +kernel) (by decide +kernel), zGW_in 263 (by decide +kernel) (by decide +kernel)⟩
theorem lkX5_48 : zLs RX5 48 yX5_isMatrix := ⟨zGW_in 265 (by decide +kernel) (by decide +kernel), zGW_in 266 (by decide +kernel) (by decide +kernel)⟩
theorem lkX5_87 : zLv RX5 87 yX1_entryAt := ⟨zGW_in 268 (by decide +kernel) (by decide +kernel), zGW_in 269 (by decide +kernel) (by decide +kernel), zGW_in 270 (by decide +kernel) (by decide +kernel)⟩
theorem lkX1_28 : zLs RX1 28 yX1_cellOf := ⟨zGW_in 272 (by decide +kernel) (by decide +kernel), zGW_in 273 (by decide +kernel) (by decide +kernel)⟩
theorem kcX5_82 : Cond.constant RX5 82 1000000 ∈ zGW := zGW_in 275 (by decide +kernel) (by decide +kernel)
theorem lkL_18 : zLv RL 18 yX5_of := ⟨zGW_in 276 (by decide +kernel) (by decide +kernel), zGW_in 277 (by decide +kernel) (by decide +kernel), zGW_in 278 (by decide +kernel) (by decide +kernel)⟩
theorem lkX5_74 : zLv RX5 74 yX1_room := ⟨zGW_in 280 (by decide +kernel) (by decide +kernel), zGW_in 173 (by decide +kernel) (by decide +kernel), zGW_in 174 (by decide +kernel) (by decide +kernel)⟩
theorem lkX5_129 : zLv RX5 129 yX1_deepest := ⟨zGW_in 281 (by decide +kernel) (by decide +kernel), zGW_in 282 (by decide +kernel) (by decide +kernel), zGW_in 283 (by decide +kernel) (by decide +kernel)⟩
theorem lkX1_43 : zLv RX1 43 yX1_depthOf := ⟨zGW_in 285 (by decide +kernel) (by decide +kernel), zGW_in 286 (by decide +kernel) (by decide +kernel), zGW_in 287 (by decide +kernel) (by decide +kernel)⟩
theorem lmX1_46 : Cond.methodLink RX1 46 Lib.Math.max.name ∈ zGW ∧ Cond.static Lib.Math.max.name ∈ zGW ∧ Cond.initialized "java/lang/Math" ∈ zGW ∧ Cond.code Lib.Math.max.name Lib.Math.max.code 2 (some .int) ∈ zGW := ⟨zGW_in 289 (by decide +kernel) (by decide +kernel), zGW_in 290 (by decide +kernel) (by decide +kernel), zGW_in 30 (by decide +kernel) (by decide +kernel), zGW_in 291 (by decide +kernel) (by decide +kernel)⟩
theorem lkX5_132 : zLv RX5 132 yX1_blocksOf := ⟨zGW_in 292 (by decide +kernel) (by decide +kernel), zGW_in 293 (by decide +kernel) (by decide +kernel), zGW_in 294 (by decide +kernel) (by decide +kernel)⟩
theorem lkX1_63 : zLv RX1 63 yX1_blocksFrom := ⟨zGW_in 296 (by decide +kernel) (by decide +kernel), zGW_in 298 (by decide +kernel) (by decide +kernel), zGW_in 2 (by decide +kernel) (by decide +kernel)⟩
theorem lkX5_135 : zLv RX5 135 yX1_filledEntries := ⟨zGW_in 300 (by decide +kernel) (by decide +kernel), zGW_in 301 (by decide +kernel) (by decide +kernel), zGW_in 302 (by decide +kernel) (by decide +kernel)⟩
theorem lkX5_105 : zLv RX5 105 yX1_trace := ⟨zGW_in 304 (by decide +kernel) (by decide +kernel), zGW_in 305 (by decide +kernel) (by decide +kernel), zGW_in 306 (by decide +kernel) (by decide +kernel)⟩
theorem lkX1_96 : zLv RX1 96 yX1_entryAt := ⟨zGW_in 308 (by decide +kernel) (by decide +kernel), zGW_in 269 (by decide +kernel) (by decide +kernel), zGW_in 270 (by decide +kernel) (by decide +kernel)⟩
theorem kcX5_108 : Cond.constant RX5 108 100000000 ∈ zGW := zGW_in 309 (by decide +kernel) (by decide +kernel)
theorem lkX5_138 : zLv RX5 138 yX1_greatest := ⟨zGW_in 310 (by decide +kernel) (by decide +kernel), zGW_in 311 (by decide +kernel) (by decide +kernel), zGW_in 312 (by decide +kernel) (by decide +kernel)⟩
theorem lkX5_141 : zLv RX5 141 yX1_least := ⟨zGW_in 314 (by decide +kernel) (by decide +kernel), zGW_in 315 (by decide +kernel) (by decide +kernel), zGW_in 316 (by decide +kernel) (by decide +kernel)⟩
theorem lmX1_108 : Cond.methodLink RX1 108 Lib.Math.min.name ∈ zGW ∧ Cond.static Lib.Math.min.name ∈ zGW ∧ Cond.initialized "java/lang/Math" ∈ zGW ∧ Cond.code Lib.Math.min.name Lib.Math.min.code 2 (some .int) ∈ zGW := ⟨zGW_in 318 (by decide +kernel) (by decide +kernel), zGW_in 319 (by decide +kernel) (by decide +kernel), zGW_in 30 (by decide +kernel) (by decide +kernel), zGW_in 320 (by decide +kernel) (by decide +kernel)⟩
theorem lkX5_144 : zLv RX5 144 yX1_isItsTurned := ⟨zGW_in 321 (by decide +kernel) (by decide +kernel), zGW_in 322 (by decide +kernel) (by decide +kernel), zGW_in 323 (by decide +kernel) (by decide +kernel)⟩
theorem kcL_32 : Cond.constantLong RL 32 7 ∈ zGW := zGW_in 325 (by decide +kernel) (by decide +kernel)
theorem lkL_101 : zLs RL 101 yL_act := ⟨zGW_in 326 (by decide +kernel) (by decide +kernel), zGW_in 327 (by decide +kernel) (by decide +kernel)⟩
theorem lkL_37 : zLv RL 37 yX5_shrink := ⟨zGW_in 329 (by decide +kernel) (by decide +kernel), zGW_in 330 (by decide +kernel) (by decide +kernel), zGW_in 331 (by decide +kernel) (by decide +kernel)⟩
theorem lkX5_56 : zLv RX5 56 yX5_beginChange := ⟨zGW_in 333 (by decide +kernel) (by decide +kernel), zGW_in 335 (by decide +kernel) (by decide +kernel), zGW_in 3 (by decide +kernel) (by decide +kernel)⟩
theorem lkX5_95 : zLv RX5 95 yX1_makeSmaller := ⟨zGW_in 337 (by decide +kernel) (by decide +kernel), zGW_in 338 (by decide +kernel) (by decide +kernel), zGW_in 339 (by decide +kernel) (by decide +kernel)⟩
theorem lkX1_81 : zLv RX1 81 yX1_makeSmallerFrom := ⟨zGW_in 341 (by decide +kernel) (by decide +kernel), zGW_in 343 (by decide +kernel) (by decide +kernel), zGW_in 4 (by decide +kernel) (by decide +kernel)⟩
theorem lkX1_84 : zLv RX1 84 yX1_makePartsSmaller := ⟨zGW_in 345 (by decide +kernel) (by decide +kernel), zGW_in 347 (by decide +kernel) (by decide +kernel), zGW_in 5 (by decide +kernel) (by decide +kernel)⟩
theorem lkX1_87 : zLv RX1 87 yX1_toldByOne := ⟨zGW_in 349 (by decide +kernel) (by decide +kernel), zGW_in 350 (by decide +kernel) (by decide +kernel), zGW_in 351 (by decide +kernel) (by decide +kernel)⟩
theorem lkX1_90 : zLv RX1 90 yX1_firstFilledRow := ⟨zGW_in 353 (by decide +kernel) (by decide +kernel), zGW_in 355 (by decide +kernel) (by decide +kernel), zGW_in 6 (by decide +kernel) (by decide +kernel)⟩
theorem lkX1_93 : zLv RX1 93 yX1_firstFilledColumn := ⟨zGW_in 357 (by decide +kernel) (by decide +kernel), zGW_in 359 (by decide +kernel) (by decide +kernel), zGW_in 7 (by decide +kernel) (by decide +kernel)⟩
theorem lkX1_71 : zLv RX1 71 yX1_setSort := ⟨zGW_in 361 (by decide +kernel) (by decide +kernel), zGW_in 363 (by decide +kernel) (by decide +kernel), zGW_in 8 (by decide +kernel) (by decide +kernel)⟩
theorem lkL_40 : zLv RL 40 yX5_clear := ⟨zGW_in 365 (by decide +kernel) (by decide +kernel), zGW_in 366 (by decide +kernel) (by decide +kernel), zGW_in 367 (by decide +kernel) (by decide +kernel)⟩
theorem lkX5_109 : zLv RX5 109 yX1_emptyBlockOf := ⟨zGW_in 369 (by decide +kernel) (by decide +kernel), zGW_in 370 (by decide +kernel) (by decide +kernel), zGW_in 371 (by decide +kernel) (by decide +kernel)⟩
theorem nkX1_75 : zNs RX1 75 yX5_firstOf := ⟨zNW_in 373 (by decide +kernel) (by decide +kernel), zGW_in 374 (by decide +kernel) (by decide +kernel)⟩
theorem lkX5_115 : zLs RX5 115 yX5_sizeAt := ⟨zGW_in 376 (by decide +kernel) (by decide +kernel), zGW_in 192 (by decide +kernel) (by decide +kernel)⟩
theorem lkX1_78 : zLv RX1 78 yX1_setEmpty := ⟨zGW_in 377 (by decide +kernel) (by decide +kernel), zGW_in 378 (by decide +kernel) (by decide +kernel), zGW_in 379 (by decide +kernel) (by decide +kernel)⟩
theorem lkL_43 : zLv RL 43 yX5_turn := ⟨zGW_in 381 (by decide +kernel) (by decide +kernel), zGW_in 382 (by decide +kernel) (by decide +kernel), zGW_in 383 (by decide +kernel) (by decide +kernel)⟩
theorem lkX5_102 : zLv RX5 102 yX1_transpose := ⟨zGW_in 385 (by decide +kernel) (by decide +kernel), zGW_in 386 (by decide +kernel) (by decide +kernel), zGW_in 387 (by decide +kernel) (by decide +kernel)⟩
theorem lkX1_111 : zLs RX1 111 yX1_swap := ⟨zGW_in 389 (by decide +kernel) (by decide +kernel), zGW_in 390 (by decide +kernel) (by decide +kernel)⟩
theorem lkX1_115 : zLv RX1 115 yX1_transposeSorts := ⟨zGW_in 392 (by decide +kernel) (by decide +kernel), zGW_in 394 (by decide +kernel) (by decide +kernel), zGW_in 9 (by decide +kernel) (by decide +kernel)⟩
theorem lkL_46 : zLv RL 46 yX5_add := ⟨zGW_in 396 (by decide +kernel) (by decide +kernel), zGW_in 397 (by decide +kernel) (by decide +kernel), zGW_in 398 (by decide +kernel) (by decide +kernel)⟩
theorem lkX5_83 : zLs RX5 83 yX5_isWithin := ⟨zGW_in 400 (by decide +kernel) (by decide +kernel), zGW_in 401 (by decide +kernel) (by decide +kernel)⟩
theorem lkX5_98 : zLv RX5 98 yX1_join := ⟨zGW_in 403 (by decide +kernel) (by decide +kernel), zGW_in 404 (by decide +kernel) (by decide +kernel), zGW_in 405 (by decide +kernel) (by decide +kernel)⟩
theorem lkX1_99 : zLv RX1 99 yX1_joinFrom := ⟨zGW_in 407 (by decide +kernel) (by decide +kernel), zGW_in 409 (by decide +kernel) (by decide +kernel), zGW_in 10 (by decide +kernel) (by decide +kernel)⟩
theorem lkX1_103 : zLv RX1 103 yX1_joinEntries := ⟨zGW_in 411 (by decide +kernel) (by decide +kernel), zGW_in 413 (by decide +kernel) (by decide +kernel), zGW_in 11 (by decide +kernel) (by decide +kernel)⟩
theorem kcX1_106 : Cond.constant RX1 106 (-1000000) ∈ zGW := zGW_in 415 (by decide +kernel) (by decide +kernel)
theorem kcX1_107 : Cond.constant RX1 107 1000000 ∈ zGW := zGW_in 416 (by decide +kernel) (by decide +kernel)
theorem lkL_49 : zLv RL 49 yX5_copy := ⟨zGW_in 417 (by decide +kernel) (by decide +kernel), zGW_in 418 (by decide +kernel) (by decide +kernel), zGW_in 419 (by decide +kernel) (by decide +kernel)⟩
theorem lkX5_66 : zLv RX5 66 yX1_become := ⟨zGW_in 421 (by decide +kernel) (by decide +kernel), zGW_in 221 (by decide +kernel) (by decide +kernel), zGW_in 222 (by decide +kernel) (by decide +kernel)⟩
theorem lkL_55 : zLv RL 55 yX5_wipe := ⟨zGW_in 422 (by decide +kernel) (by decide +kernel), zGW_in 423 (by decide +kernel) (by decide +kernel), zGW_in 424 (by decide +kernel) (by decide +kernel)⟩
theorem kcL_59 : Cond.constantLong RL 59 100 ∈ zGW := zGW_in 426 (by decide +kernel) (by decide +kernel)
theorem kcL_61 : Cond.constantLong RL 61 102 ∈ zGW := zGW_in 427 (by decide +kernel) (by decide +kernel)
theorem lkL_63 : zLv RL 63 yX5_put := ⟨zGW_in 428 (by decide +kernel) (by decide +kernel), zGW_in 429 (by decide +kernel) (by decide +kernel), zGW_in 430 (by decide +kernel) (by decide +kernel)⟩
theorem lkX5_178 : zLs RX5 178 yX5_signsIn := ⟨zGW_in 432 (by decide +kernel) (by decide +kernel), zGW_in 433 (by decide +kernel) (by decide +kernel)⟩
theorem kcX5_182 : Cond.constantLong RX5 182 255 ∈ zGW := zGW_in 435 (by decide +kernel) (by decide +kernel)
theorem kcX5_221 : Cond.constantLong RX5 221 33 ∈ zGW := zGW_in 436 (by decide +kernel) (by decide +kernel)
theorem kcX5_223 : Cond.constantLong RX5 223 126 ∈ zGW := zGW_in 437 (by decide +kernel) (by decide +kernel)
theorem lkX5_184 : zLv RX5 184 yX2_append := ⟨zGW_in 438 (by decide +kernel) (by decide +kernel), zGW_in 439 (by decide +kernel) (by decide +kernel), zGW_in 440 (by decide +kernel) (by decide +kernel)⟩
theorem kcL_67 : Cond.constantLong RL 67 44 ∈ zGW := zGW_in 442 (by decide +kernel) (by decide +kernel)
theorem lkL_69 : zLv RL 69 yX5_tell := ⟨zGW_in 443 (by decide +kernel) (by decide +kernel), zGW_in 444 (by decide +kernel) (by decide +kernel), zGW_in 445 (by decide +kernel) (by decide +kernel)⟩
theorem lkX5_52 : zLv RX5 52 yX2_read := ⟨zGW_in 447 (by decide +kernel) (by decide +kernel), zGW_in 448 (by decide +kernel) (by decide +kernel), zGW_in 449 (by decide +kernel) (by decide +kernel)⟩
theorem lkX2_42 : zLv RX2 42 yX2_readBlock := ⟨zGW_in 451 (by decide +kernel) (by decide +kernel), zGW_in 453 (by decide +kernel) (by decide +kernel), zGW_in 12 (by decide +kernel) (by decide +kernel)⟩
theorem lkX2_46 : zLv RX2 46 yX2_passes := ⟨zGW_in 455 (by decide +kernel) (by decide +kernel), zGW_in 457 (by decide +kernel) (by decide +kernel), zGW_in 13 (by decide +kernel) (by decide +kernel)⟩
theorem lkX2_50 : zLv RX2 50 yX1_setEmpty := ⟨zGW_in 459 (by decide +kernel) (by decide +kernel), zGW_in 378 (by decide +kernel) (by decide +kernel), zGW_in 379 (by decide +kernel) (by decide +kernel)⟩
theorem lkX2_54 : zLv RX2 54 yX2_readSame := ⟨zGW_in 460 (by decide +kernel) (by decide +kernel), zGW_in 462 (by decide +kernel) (by decide +kernel), zGW_in 14 (by decide +kernel) (by decide +kernel)⟩
theorem lkX2_77 : zLv RX2 77 yX2_readValue := ⟨zGW_in 464 (by decide +kernel) (by decide +kernel), zGW_in 466 (by decide +kernel) (by decide +kernel), zGW_in 15 (by decide +kernel) (by decide +kernel)⟩
theorem lkX2_103 : zLv RX2 103 yX2_digit := ⟨zGW_in 468 (by decide +kernel) (by decide +kernel), zGW_in 470 (by decide +kernel) (by decide +kernel), zGW_in 16 (by decide +kernel) (by decide +kernel)⟩
theorem lkX2_81 : zLv RX2 81 yX1_setThin := ⟨zGW_in 472 (by decide +kernel) (by decide +kernel), zGW_in 473 (by decide +kernel) (by decide +kernel), zGW_in 474 (by decide +kernel) (by decide +kernel)⟩
theorem lkX2_57 : zLv RX2 57 yX2_readProduct := ⟨zGW_in 476 (by decide +kernel) (by decide +kernel), zGW_in 478 (by decide +kernel) (by decide +kernel), zGW_in 17 (by decide +kernel) (by decide +kernel)⟩
theorem nkX2_85 : zNs RX2 85 yX5_sizeAt := ⟨zNW_in 480 (by decide +kernel) (by decide +kernel), zGW_in 192 (by decide +kernel) (by decide +kernel)⟩
theorem lkX2_89 : zLv RX2 89 yX2_readValues := ⟨zGW_in 481 (by decide +kernel) (by decide +kernel), zGW_in 483 (by decide +kernel) (by decide +kernel), zGW_in 18 (by decide +kernel) (by decide +kernel)⟩
theorem lmX2_97 : Cond.methodLink RX2 97 Lib.Math.min.name ∈ zGW ∧ Cond.static Lib.Math.min.name ∈ zGW ∧ Cond.initialized "java/lang/Math" ∈ zGW ∧ Cond.code Lib.Math.min.name Lib.Math.min.code 2 (some .int) ∈ zGW := ⟨zGW_in 485 (by decide +kernel) (by decide +kernel), zGW_in 319 (by decide +kernel) (by decide +kernel), zGW_in 30 (by decide +kernel) (by decide +kernel), zGW_in 320 (by decide +kernel) (by decide +kernel)⟩
theorem lkX2_60 : zLv RX2 60 yX2_readFull := ⟨zGW_in 486 (by decide +kernel) (by decide +kernel), zGW_in 488 (by decide +kernel) (by decide +kernel), zGW_in 19 (by decide +kernel) (by decide +kernel)⟩
theorem lkX2_93 : zLv RX2 93 yX1_setFull := ⟨zGW_in 490 (by decide +kernel) (by decide +kernel), zGW_in 491 (by decide +kernel) (by decide +kernel), zGW_in 492 (by decide +kernel) (by decide +kernel)⟩
theorem lkX2_63 : zLv RX2 63 yX2_readParts := ⟨zGW_in 494 (by decide +kernel) (by decide +kernel), zGW_in 496 (by decide +kernel) (by decide +kernel), zGW_in 20 (by decide +kernel) (by decide +kernel)⟩
theorem nkX2_66 : zNv RX2 66 yX1_setSort := ⟨zNW_in 498 (by decide +kernel) (by decide +kernel), zGW_in 363 (by decide +kernel) (by decide +kernel), zGW_in 8 (by decide +kernel) (by decide +kernel)⟩
theorem nkX2_70 : zNs RX2 70 yX1_rowOfPart := ⟨zNW_in 499 (by decide +kernel) (by decide +kernel), zGW_in 198 (by decide +kernel) (by decide +kernel)⟩
theorem nkX2_74 : zNs RX2 74 yX1_columnOfPart := ⟨zNW_in 500 (by decide +kernel) (by decide +kernel), zGW_in 201 (by decide +kernel) (by decide +kernel)⟩
theorem kcL_72 : Cond.constant RL 72 2000003 ∈ zGW := zGW_in 501 (by decide +kernel) (by decide +kernel)
theorem kcL_73 : Cond.constant RL 73 1000001 ∈ zGW := zGW_in 502 (by decide +kernel) (by decide +kernel)
theorem lkL_74 : zLv RL 74 yX5_entry := ⟨zGW_in 503 (by decide +kernel) (by decide +kernel), zGW_in 504 (by decide +kernel) (by decide +kernel), zGW_in 505 (by decide +kernel) (by decide +kernel)⟩
theorem lkX5_91 : zLv RX5 91 yX1_changeEntry := ⟨zGW_in 507 (by decide +kernel) (by decide +kernel), zGW_in 508 (by decide +kernel) (by decide +kernel), zGW_in 509 (by decide +kernel) (by decide +kernel)⟩
theorem lkX1_67 : zLv RX1 67 yX1_cutBlock := ⟨zGW_in 511 (by decide +kernel) (by decide +kernel), zGW_in 513 (by decide +kernel) (by decide +kernel), zGW_in 21 (by decide +kernel) (by decide +kernel)⟩
theorem lkL_105 : zLs RL 105 yL_holds := ⟨zGW_in 515 (by decide +kernel) (by decide +kernel), zGW_in 516 (by decide +kernel) (by decide +kernel)⟩
theorem lkL_78 : zLv RL 78 yX5_block := ⟨zGW_in 518 (by decide +kernel) (by decide +kernel), zGW_in 519 (by decide +kernel) (by decide +kernel), zGW_in 520 (by decide +kernel) (by decide +kernel)⟩
theorem lkX5_112 : zLv RX5 112 yX1_depthOf := ⟨zGW_in 522 (by decide +kernel) (by decide +kernel), zGW_in 286 (by decide +kernel) (by decide +kernel), zGW_in 287 (by decide +kernel) (by decide +kernel)⟩
theorem lkX5_119 : zLv RX5 119 yX1_sortOf := ⟨zGW_in 523 (by decide +kernel) (by decide +kernel), zGW_in 185 (by decide +kernel) (by decide +kernel), zGW_in 186 (by decide +kernel) (by decide +kernel)⟩
theorem lkX5_123 : zLs RX5 123 yX5_firstOf := ⟨zGW_in 524 (by decide +kernel) (by decide +kernel), zGW_in 374 (by decide +kernel) (by decide +kernel)⟩
theorem lkX5_126 : zLs RX5 126 yX5_roomOfUncut := ⟨zGW_in 525 (by decide +kernel) (by decide +kernel), zGW_in 195 (by decide +kernel) (by decide +kernel)⟩
theorem kcL_81 : Cond.constant RL 81 2000000 ∈ zGW := zGW_in 526 (by decide +kernel) (by decide +kernel)
theorem kcL_82 : Cond.constant RL 82 1000000 ∈ zGW := zGW_in 527 (by decide +kernel) (by decide +kernel)
theorem lkL_83 : zLv RL 83 yX5_wouldTake := ⟨zGW_in 528 (by decide +kernel) (by decide +kernel), zGW_in 529 (by decide +kernel) (by decide +kernel), zGW_in 530 (by decide +kernel) (by decide +kernel)⟩
