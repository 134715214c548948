theorem inX0 : ∀ w ∈ u_ws RX0 TX0 3, w ∈ zGW := by decide +kernel
theorem inX1 : ∀ w ∈ u_ws RX1 TX1 2, w ∈ zGW := by decide +kernel
theorem inX2 : ∀ w ∈ u_ws RX2 TX2 8, w ∈ zGW := by decide +kernel
theorem inX3 : ∀ w ∈ u_ws RX3 TX3 2, w ∈ zGW := by decide +kernel
theorem inX4 : ∀ w ∈ u_ws RX4 TX4 2, w ∈ zGW := by decide +kernel
theorem inX5 : ∀ w ∈ u_ws RX5 TX5 6, w ∈ zGW := by decide +kernel
theorem inX6 : ∀ w ∈ u_ws RX6 TX6 18, w ∈ zGW := by decide +kernel
theorem kiX0 : Cond.instantiable RX0 3 ∈ zGW ∧ Cond.initialized RX0 ∈ zGW := ⟨zGW_in 114 (by decide +kernel) (by decide +kernel), zGW_in 66 (by decide +kernel) (by decide +kernel)⟩
theorem lyX0_0 : zFy 0 0 true (.array (.object "BlockTrees$State")) := by
  intro C T N h
  cases (show some (RX0, TX0, 3) = some (C, T, N) from h)
  exact ⟨⟨tyX0, tyX0_ok⟩, nmX0, by decide +kernel, by decide +kernel, by decide +kernel⟩
theorem lyX0_1 : zFy 0 1 false .int := by
  intro C T N h
  cases (show some (RX0, TX0, 3) = some (C, T, N) from h)
  exact ⟨⟨tyX0, tyX0_ok⟩, nmX0, by decide +kernel, by decide +kernel, by decide +kernel⟩
theorem lyX0_2 : zFy 0 2 false .int := by
  intro C T N h
  cases (show some (RX0, TX0, 3) = some (C, T, N) from h)
  exact ⟨⟨tyX0, tyX0_ok⟩, nmX0, by decide +kernel, by decide +kernel, by decide +kernel⟩
theorem kiX1 : Cond.instantiable RX1 2 ∈ zGW ∧ Cond.initialized RX1 ∈ zGW := ⟨zGW_in 90 (by decide +kernel) (by decide +kernel), zGW_in 65 (by decide +kernel) (by decide +kernel)⟩
theorem lyX1_0 : zFy 1 0 true (.array .int) := by
  intro C T N h
  cases (show some (RX1, TX1, 2) = some (C, T, N) from h)
  exact ⟨⟨tyX1, tyX1_ok⟩, nmX1, by decide +kernel, by decide +kernel, by decide +kernel⟩
theorem lyX1_1 : zFy 1 1 true (.array .int) := by
  intro C T N h
  cases (show some (RX1, TX1, 2) = some (C, T, N) from h)
  exact ⟨⟨tyX1, tyX1_ok⟩, nmX1, by decide +kernel, by decide +kernel, by decide +kernel⟩
theorem kiX2 : Cond.instantiable RX2 8 ∈ zGW ∧ Cond.initialized RX2 ∈ zGW := ⟨zGW_in 136 (by decide +kernel) (by decide +kernel), zGW_in 67 (by decide +kernel) (by decide +kernel)⟩
theorem lyX2_0 : zFy 2 0 true (.array .char) := by
  intro C T N h
  cases (show some (RX2, TX2, 8) = some (C, T, N) from h)
  exact ⟨⟨tyX2, tyX2_ok⟩, nmX2, by decide +kernel, by decide +kernel, by decide +kernel⟩
theorem lyX2_1 : zFy 2 1 false .int := by
  intro C T N h
  cases (show some (RX2, TX2, 8) = some (C, T, N) from h)
  exact ⟨⟨tyX2, tyX2_ok⟩, nmX2, by decide +kernel, by decide +kernel, by decide +kernel⟩
theorem lyX2_2 : zFy 2 2 true (.object "BlockTrees$Matrix") := by
  intro C T N h
  cases (show some (RX2, TX2, 8) = some (C, T, N) from h)
  exact ⟨⟨tyX2, tyX2_ok⟩, nmX2, by decide +kernel, by decide +kernel, by decide +kernel⟩
theorem lyX2_3 : zFy 2 3 true (.array .int) := by
  intro C T N h
  cases (show some (RX2, TX2, 8) = some (C, T, N) from h)
  exact ⟨⟨tyX2, tyX2_ok⟩, nmX2, by decide +kernel, by decide +kernel, by decide +kernel⟩
theorem lyX2_4 : zFy 2 4 true (.array .int) := by
  intro C T N h
  cases (show some (RX2, TX2, 8) = some (C, T, N) from h)
  exact ⟨⟨tyX2, tyX2_ok⟩, nmX2, by decide +kernel, by decide +kernel, by decide +kernel⟩
theorem lyX2_5 : zFy 2 5 true (.array .int) := by
  intro C T N h
  cases (show some (RX2, TX2, 8) = some (C, T, N) from h)
  exact ⟨⟨tyX2, tyX2_ok⟩, nmX2, by decide +kernel, by decide +kernel, by decide +kernel⟩
theorem lyX2_6 : zFy 2 6 false .int := by
  intro C T N h
  cases (show some (RX2, TX2, 8) = some (C, T, N) from h)
  exact ⟨⟨tyX2, tyX2_ok⟩, nmX2, by decide +kernel, by decide +kernel, by decide +kernel⟩
theorem lyX2_7 : zFy 2 7 false .int := by
  intro C T N h
  cases (show some (RX2, TX2, 8) = some (C, T, N) from h)
  exact ⟨⟨tyX2, tyX2_ok⟩, nmX2, by decide +kernel, by decide +kernel, by decide +kernel⟩
theorem kiX3 : Cond.instantiable RX3 2 ∈ zGW ∧ Cond.initialized RX3 ∈ zGW := ⟨zGW_in 174 (by decide +kernel) (by decide +kernel), zGW_in 68 (by decide +kernel) (by decide +kernel)⟩
theorem lyX3_0 : zFy 3 0 true (.object "BlockTrees$State") := by
  intro C T N h
  cases (show some (RX3, TX3, 2) = some (C, T, N) from h)
  exact ⟨⟨tyX3, tyX3_ok⟩, nmX3, by decide +kernel, by decide +kernel, by decide +kernel⟩
theorem lyX3_1 : zFy 3 1 false .boolean := by
  intro C T N h
  cases (show some (RX3, TX3, 2) = some (C, T, N) from h)
  exact ⟨⟨tyX3, tyX3_ok⟩, nmX3, by decide +kernel, by decide +kernel, by decide +kernel⟩
theorem kiX4 : Cond.instantiable RX4 2 ∈ zGW ∧ Cond.initialized RX4 ∈ zGW := ⟨zGW_in 83 (by decide +kernel) (by decide +kernel), zGW_in 64 (by decide +kernel) (by decide +kernel)⟩
theorem lyX4_0 : zFy 4 0 true (.array (.object "BlockTrees$Matrix")) := by
  intro C T N h
  cases (show some (RX4, TX4, 2) = some (C, T, N) from h)
  exact ⟨⟨tyX4, tyX4_ok⟩, nmX4, by decide +kernel, by decide +kernel, by decide +kernel⟩
theorem lyX4_1 : zFy 4 1 false .int := by
  intro C T N h
  cases (show some (RX4, TX4, 2) = some (C, T, N) from h)
  exact ⟨⟨tyX4, tyX4_ok⟩, nmX4, by decide +kernel, by decide +kernel, by decide +kernel⟩
theorem kiX5 : Cond.instantiable RX5 6 ∈ zGW ∧ Cond.initialized RX5 ∈ zGW := ⟨zGW_in 75 (by decide +kernel) (by decide +kernel), zGW_in 63 (by decide +kernel) (by decide +kernel)⟩
theorem lyX5_0 : zFy 5 0 true (.object "BlockTrees$State") := by
  intro C T N h
  cases (show some (RX5, TX5, 6) = some (C, T, N) from h)
  exact ⟨⟨tyX5, tyX5_ok⟩, nmX5, by decide +kernel, by decide +kernel, by decide +kernel⟩
theorem lyX5_1 : zFy 5 1 true (.object "BlockTrees$History") := by
  intro C T N h
  cases (show some (RX5, TX5, 6) = some (C, T, N) from h)
  exact ⟨⟨tyX5, tyX5_ok⟩, nmX5, by decide +kernel, by decide +kernel, by decide +kernel⟩
theorem lyX5_2 : zFy 5 2 true (.array (.object "BlockTrees$Slot")) := by
  intro C T N h
  cases (show some (RX5, TX5, 6) = some (C, T, N) from h)
  exact ⟨⟨tyX5, tyX5_ok⟩, nmX5, by decide +kernel, by decide +kernel, by decide +kernel⟩
theorem lyX5_3 : zFy 5 3 true (.object "BlockTrees$Pad") := by
  intro C T N h
  cases (show some (RX5, TX5, 6) = some (C, T, N) from h)
  exact ⟨⟨tyX5, tyX5_ok⟩, nmX5, by decide +kernel, by decide +kernel, by decide +kernel⟩
theorem lyX5_4 : zFy 5 4 true (.object "BlockTrees$Matrix") := by
  intro C T N h
  cases (show some (RX5, TX5, 6) = some (C, T, N) from h)
  exact ⟨⟨tyX5, tyX5_ok⟩, nmX5, by decide +kernel, by decide +kernel, by decide +kernel⟩
theorem lyX5_5 : zFy 5 5 true (.array .int) := by
  intro C T N h
  cases (show some (RX5, TX5, 6) = some (C, T, N) from h)
  exact ⟨⟨tyX5, tyX5_ok⟩, nmX5, by decide +kernel, by decide +kernel, by decide +kernel⟩
theorem kiX6 : Cond.instantiable RX6 18 ∈ zGW ∧ Cond.initialized RX6 ∈ zGW := ⟨zGW_in 607 (by decide +kernel) (by decide +kernel), zGW_in 69 (by decide +kernel) (by decide +kernel)⟩
theorem lyX6_0 : zFy 6 0 false .int := by
  intro C T N h
  cases (show some (RX6, TX6, 18) = some (C, T, N) from h)
  exact ⟨⟨tyX6, tyX6_ok⟩, nmX6, by decide +kernel, by decide +kernel, by decide +kernel⟩
theorem lyX6_1 : zFy 6 1 true (.array .int) := by
  intro C T N h
  cases (show some (RX6, TX6, 18) = some (C, T, N) from h)
  exact ⟨⟨tyX6, tyX6_ok⟩, nmX6, by decide +kernel, by decide +kernel, by decide +kernel⟩
theorem lyX6_2 : zFy 6 2 true (.array .int) := by
  intro C T N h
  cases (show some (RX6, TX6, 18) = some (C, T, N) from h)
  exact ⟨⟨tyX6, tyX6_ok⟩, nmX6, by decide +kernel, by decide +kernel, by decide +kernel⟩
theorem lyX6_3 : zFy 6 3 true (.array .int) := by
  intro C T N h
  cases (show some (RX6, TX6, 18) = some (C, T, N) from h)
  exact ⟨⟨tyX6, tyX6_ok⟩, nmX6, by decide +kernel, by decide +kernel, by decide +kernel⟩
theorem lyX6_4 : zFy 6 4 false .int := by
  intro C T N h
  cases (show some (RX6, TX6, 18) = some (C, T, N) from h)
  exact ⟨⟨tyX6, tyX6_ok⟩, nmX6, by decide +kernel, by decide +kernel, by decide +kernel⟩
theorem lyX6_5 : zFy 6 5 true (.array .int) := by
  intro C T N h
  cases (show some (RX6, TX6, 18) = some (C, T, N) from h)
  exact ⟨⟨tyX6, tyX6_ok⟩, nmX6, by decide +kernel, by decide +kernel, by decide +kernel⟩
theorem lyX6_6 : zFy 6 6 true (.array .boolean) := by
  intro C T N h
  cases (show some (RX6, TX6, 18) = some (C, T, N) from h)
  exact ⟨⟨tyX6, tyX6_ok⟩, nmX6, by decide +kernel, by decide +kernel, by decide +kernel⟩
theorem lyX6_7 : zFy 6 7 true (.array .int) := by
  intro C T N h
  cases (show some (RX6, TX6, 18) = some (C, T, N) from h)
  exact ⟨⟨tyX6, tyX6_ok⟩, nmX6, by decide +kernel, by decide +kernel, by decide +kernel⟩
theorem lyX6_8 : zFy 6 8 false .int := by
  intro C T N h
  cases (show some (RX6, TX6, 18) = some (C, T, N) from h)
  exact ⟨⟨tyX6, tyX6_ok⟩, nmX6, by decide +kernel, by decide +kernel, by decide +kernel⟩
theorem lyX6_9 : zFy 6 9 false .int := by
  intro C T N h
  cases (show some (RX6, TX6, 18) = some (C, T, N) from h)
  exact ⟨⟨tyX6, tyX6_ok⟩, nmX6, by decide +kernel, by decide +kernel, by decide +kernel⟩
theorem lyX6_10 : zFy 6 10 false .boolean := by
  intro C T N h
  cases (show some (RX6, TX6, 18) = some (C, T, N) from h)
  exact ⟨⟨tyX6, tyX6_ok⟩, nmX6, by decide +kernel, by decide +kernel, by decide +kernel⟩
theorem lyX6_11 : zFy 6 11 true (.array .int) := by
  intro C T N h
  cases (show some (RX6, TX6, 18) = some (C, T, N) from h)
  exact ⟨⟨tyX6, tyX6_ok⟩, nmX6, by decide +kernel, by decide +kernel, by decide +kernel⟩
theorem lyX6_12 : zFy 6 12 true (.array .int) := by
  intro C T N h
  cases (show some (RX6, TX6, 18) = some (C, T, N) from h)
  exact ⟨⟨tyX6, tyX6_ok⟩, nmX6, by decide +kernel, by decide +kernel, by decide +kernel⟩
theorem lyX6_13 : zFy 6 13 true (.array .int) := by
  intro C T N h
  cases (show some (RX6, TX6, 18) = some (C, T, N) from h)
  exact ⟨⟨tyX6, tyX6_ok⟩, nmX6, by decide +kernel, by decide +kernel, by decide +kernel⟩
theorem lyX6_14 : zFy 6 14 false .int := by
  intro C T N h
  cases (show some (RX6, TX6, 18) = some (C, T, N) from h)
  exact ⟨⟨tyX6, tyX6_ok⟩, nmX6, by decide +kernel, by decide +kernel, by decide +kernel⟩
theorem lyX6_15 : zFy 6 15 false .int := by
  intro C T N h
  cases (show some (RX6, TX6, 18) = some (C, T, N) from h)
  exact ⟨⟨tyX6, tyX6_ok⟩, nmX6, by decide +kernel, by decide +kernel, by decide +kernel⟩
theorem lyX6_16 : zFy 6 16 false .int := by
  intro C T N h
  cases (show some (RX6, TX6, 18) = some (C, T, N) from h)
  exact ⟨⟨tyX6, tyX6_ok⟩, nmX6, by decide +kernel, by decide +kernel, by decide +kernel⟩
theorem lyX6_17 : zFy 6 17 true (.array .boolean) := by
  intro C T N h
  cases (show some (RX6, TX6, 18) = some (C, T, N) from h)
  exact ⟨⟨tyX6, tyX6_ok⟩, nmX6, by decide +kernel, by decide +kernel, by decide +kernel⟩
theorem ka_int : Cond.arrayClass .int ∈ zGW := zGW_in 103 (by decide +kernel) (by decide +kernel)
theorem ka_boolean : Cond.arrayClass .boolean ∈ zGW := zGW_in 667 (by decide +kernel) (by decide +kernel)
theorem ka_char : Cond.arrayClass .char ∈ zGW := zGW_in 171 (by decide +kernel) (by decide +kernel)
theorem okX5_init : zOk yX5_init cX5_init 2 none 0 := ⟨⟨by decide +kernel, by decide +kernel⟩, by decide +kernel, by decide, zGW_in 78 (by decide +kernel) (by decide +kernel), zGW_in 63 (by decide +kernel) (by decide +kernel)⟩
theorem okX4_init : zOk yX4_init cX4_init 2 none 0 := ⟨⟨by decide +kernel, by decide +kernel⟩, by decide +kernel, by decide, zGW_in 86 (by decide +kernel) (by decide +kernel), zGW_in 64 (by decide +kernel) (by decide +kernel)⟩
theorem okX1_init : zOk yX1_init cX1_init 1 none 0 := ⟨⟨by decide +kernel, by decide +kernel⟩, by decide +kernel, by decide, zGW_in 93 (by decide +kernel) (by decide +kernel), zGW_in 65 (by decide +kernel) (by decide +kernel)⟩
theorem okX0_init : zOk yX0_init cX0_init 2 none 0 := ⟨⟨by decide +kernel, by decide +kernel⟩, by decide +kernel, by decide, zGW_in 117 (by decide +kernel) (by decide +kernel), zGW_in 66 (by decide +kernel) (by decide +kernel)⟩
theorem okX2_init : zOk yX2_init cX2_init 1 none 0 := ⟨⟨by decide +kernel, by decide +kernel⟩, by decide +kernel, by decide, zGW_in 139 (by decide +kernel) (by decide +kernel), zGW_in 67 (by decide +kernel) (by decide +kernel)⟩
theorem okX3_init : zOk yX3_init cX3_init 1 none 0 := ⟨⟨by decide +kernel, by decide +kernel⟩, by decide +kernel, by decide, zGW_in 177 (by decide +kernel) (by decide +kernel), zGW_in 68 (by decide +kernel) (by decide +kernel)⟩
theorem okX5_tell : zOk yX5_tell cX5_tell 2 (some .int) 1 := ⟨⟨by decide +kernel, by decide +kernel⟩, by decide +kernel, by decide, zGW_in 212 (by decide +kernel) (by decide +kernel), zGW_in 63 (by decide +kernel) (by decide +kernel)⟩
theorem okX5_isMatrix : zOk yX5_isMatrix cX5_isMatrix 1 (some .boolean) 1 := ⟨⟨by decide +kernel, by decide +kernel⟩, by decide +kernel, by decide, zGW_in 215 (by decide +kernel) (by decide +kernel), zGW_in 63 (by decide +kernel) (by decide +kernel)⟩
theorem okX2_read : zOk yX2_read cX2_read 1 (some .boolean) 0 := ⟨⟨by decide +kernel, by decide +kernel⟩, by decide +kernel, by decide, zGW_in 219 (by decide +kernel) (by decide +kernel), zGW_in 67 (by decide +kernel) (by decide +kernel)⟩
theorem okX2_readBlock : zOk yX2_readBlock cX2_readBlock 4 (some .boolean) 3 := ⟨⟨by decide +kernel, by decide +kernel⟩, by decide +kernel, by decide, zGW_in 223 (by decide +kernel) (by decide +kernel), zGW_in 67 (by decide +kernel) (by decide +kernel)⟩
theorem okX2_passes : zOk yX2_passes cX2_passes 2 (some .boolean) 1 := ⟨⟨by decide +kernel, by decide +kernel⟩, by decide +kernel, by decide, zGW_in 227 (by decide +kernel) (by decide +kernel), zGW_in 67 (by decide +kernel) (by decide +kernel)⟩
theorem okX1_setEmpty : zOk yX1_setEmpty cX1_setEmpty 7 none 3 := ⟨⟨by decide +kernel, by decide +kernel⟩, by decide +kernel, by decide, zGW_in 231 (by decide +kernel) (by decide +kernel), zGW_in 65 (by decide +kernel) (by decide +kernel)⟩
theorem okX1_setSort : zOk yX1_setSort cX1_setSort 5 none 4 := ⟨⟨by decide +kernel, by decide +kernel⟩, by decide +kernel, by decide, zGW_in 235 (by decide +kernel) (by decide +kernel), zGW_in 65 (by decide +kernel) (by decide +kernel)⟩
theorem okX1_numberOf : zOk yX1_numberOf cX1_numberOf 5 (some .int) 3 := ⟨⟨by decide +kernel, by decide +kernel⟩, by decide +kernel, by decide, zGW_in 238 (by decide +kernel) (by decide +kernel), zGW_in 65 (by decide +kernel) (by decide +kernel)⟩
theorem okX5_sizeAt : zOk yX5_sizeAt cX5_sizeAt 1 (some .int) 1 := ⟨⟨by decide +kernel, by decide +kernel⟩, by decide +kernel, by decide, zGW_in 241 (by decide +kernel) (by decide +kernel), zGW_in 63 (by decide +kernel) (by decide +kernel)⟩
theorem okX1_cellOf : zOk yX1_cellOf cX1_cellOf 2 (some .int) 2 := ⟨⟨by decide +kernel, by decide +kernel⟩, by decide +kernel, by decide, zGW_in 244 (by decide +kernel) (by decide +kernel), zGW_in 65 (by decide +kernel) (by decide +kernel)⟩
theorem okX2_readSame : zOk yX2_readSame cX2_readSame 5 (some .boolean) 3 := ⟨⟨by decide +kernel, by decide +kernel⟩, by decide +kernel, by decide, zGW_in 248 (by decide +kernel) (by decide +kernel), zGW_in 67 (by decide +kernel) (by decide +kernel)⟩
theorem okX2_readValue : zOk yX2_readValue cX2_readValue 3 (some .boolean) 0 := ⟨⟨by decide +kernel, by decide +kernel⟩, by decide +kernel, by decide, zGW_in 252 (by decide +kernel) (by decide +kernel), zGW_in 67 (by decide +kernel) (by decide +kernel)⟩
theorem okX2_digit : zOk yX2_digit cX2_digit 1 (some .int) 0 := ⟨⟨by decide +kernel, by decide +kernel⟩, by decide +kernel, by decide, zGW_in 256 (by decide +kernel) (by decide +kernel), zGW_in 67 (by decide +kernel) (by decide +kernel)⟩
theorem okX1_setThin : zOk yX1_setThin cX1_setThin 9 none 5 := ⟨⟨by decide +kernel, by decide +kernel⟩, by decide +kernel, by decide, zGW_in 260 (by decide +kernel) (by decide +kernel), zGW_in 65 (by decide +kernel) (by decide +kernel)⟩
theorem okX2_readProduct : zOk yX2_readProduct cX2_readProduct 5 (some .boolean) 3 := ⟨⟨by decide +kernel, by decide +kernel⟩, by decide +kernel, by decide, zGW_in 264 (by decide +kernel) (by decide +kernel), zGW_in 67 (by decide +kernel) (by decide +kernel)⟩
theorem okX2_readValues : zOk yX2_readValues cX2_readValues 7 (some .boolean) 2 := ⟨⟨by decide +kernel, by decide +kernel⟩, by decide +kernel, by decide, zGW_in 269 (by decide +kernel) (by decide +kernel), zGW_in 67 (by decide +kernel) (by decide +kernel)⟩
theorem okJ9_min_7cf53 : zOk yJ9_min_7cf53 cJ9_min_7cf53 2 (some .int) 2 := ⟨⟨by decide +kernel, by decide +kernel⟩, by decide +kernel, by decide, zGW_in 272 (by decide +kernel) (by decide +kernel), zGW_in 70 (by decide +kernel) (by decide +kernel)⟩
theorem okX2_readFull : zOk yX2_readFull cX2_readFull 5 (some .boolean) 3 := ⟨⟨by decide +kernel, by decide +kernel⟩, by decide +kernel, by decide, zGW_in 276 (by decide +kernel) (by decide +kernel), zGW_in 67 (by decide +kernel) (by decide +kernel)⟩
theorem okX1_setFull : zOk yX1_setFull cX1_setFull 8 none 4 := ⟨⟨by decide +kernel, by decide +kernel⟩, by decide +kernel, by decide, zGW_in 280 (by decide +kernel) (by decide +kernel), zGW_in 65 (by decide +kernel) (by decide +kernel)⟩
theorem okX2_readParts : zOk yX2_readParts cX2_readParts 7 (some .boolean) 3 := ⟨⟨by decide +kernel, by decide +kernel⟩, by decide +kernel, by decide, zGW_in 284 (by decide +kernel) (by decide +kernel), zGW_in 67 (by decide +kernel) (by decide +kernel)⟩
theorem okX1_rowOfPart : zOk yX1_rowOfPart cX1_rowOfPart 3 (some .int) 3 := ⟨⟨by decide +kernel, by decide +kernel⟩, by decide +kernel, by decide, zGW_in 288 (by decide +kernel) (by decide +kernel), zGW_in 65 (by decide +kernel) (by decide +kernel)⟩
theorem okX1_columnOfPart : zOk yX1_columnOfPart cX1_columnOfPart 3 (some .int) 3 := ⟨⟨by decide +kernel, by decide +kernel⟩, by decide +kernel, by decide, zGW_in 291 (by decide +kernel) (by decide +kernel), zGW_in 65 (by decide +kernel) (by decide +kernel)⟩
theorem okX5_beginChange : zOk yX5_beginChange cX5_beginChange 1 none 0 := ⟨⟨by decide +kernel, by decide +kernel⟩, by decide +kernel, by decide, zGW_in 295 (by decide +kernel) (by decide +kernel), zGW_in 63 (by decide +kernel) (by decide +kernel)⟩
theorem okX0_keep : zOk yX0_keep cX0_keep 2 none 1 := ⟨⟨by decide +kernel, by decide +kernel⟩, by decide +kernel, by decide, zGW_in 299 (by decide +kernel) (by decide +kernel), zGW_in 66 (by decide +kernel) (by decide +kernel)⟩
theorem okX4_become : zOk yX4_become cX4_become 3 none 1 := ⟨⟨by decide +kernel, by decide +kernel⟩, by decide +kernel, by decide, zGW_in 303 (by decide +kernel) (by decide +kernel), zGW_in 64 (by decide +kernel) (by decide +kernel)⟩
theorem okX1_become : zOk yX1_become cX1_become 2 none 1 := ⟨⟨by decide +kernel, by decide +kernel⟩, by decide +kernel, by decide, zGW_in 307 (by decide +kernel) (by decide +kernel), zGW_in 65 (by decide +kernel) (by decide +kernel)⟩
theorem okX1_room : zOk yX1_room cX1_room 1 (some .int) 0 := ⟨⟨by decide +kernel, by decide +kernel⟩, by decide +kernel, by decide, zGW_in 315 (by decide +kernel) (by decide +kernel), zGW_in 65 (by decide +kernel) (by decide +kernel)⟩
theorem okX1_roomFrom : zOk yX1_roomFrom cX1_roomFrom 6 (some .int) 3 := ⟨⟨by decide +kernel, by decide +kernel⟩, by decide +kernel, by decide, zGW_in 319 (by decide +kernel) (by decide +kernel), zGW_in 65 (by decide +kernel) (by decide +kernel)⟩
theorem okX1_isCut : zOk yX1_isCut cX1_isCut 4 (some .boolean) 3 := ⟨⟨by decide +kernel, by decide +kernel⟩, by decide +kernel, by decide, zGW_in 323 (by decide +kernel) (by decide +kernel), zGW_in 65 (by decide +kernel) (by decide +kernel)⟩
theorem okX1_sortOf : zOk yX1_sortOf cX1_sortOf 4 (some .int) 3 := ⟨⟨by decide +kernel, by decide +kernel⟩, by decide +kernel, by decide, zGW_in 327 (by decide +kernel) (by decide +kernel), zGW_in 65 (by decide +kernel) (by decide +kernel)⟩
theorem okX5_roomOfUncut : zOk yX5_roomOfUncut cX5_roomOfUncut 2 (some .int) 2 := ⟨⟨by decide +kernel, by decide +kernel⟩, by decide +kernel, by decide, zGW_in 330 (by decide +kernel) (by decide +kernel), zGW_in 63 (by decide +kernel) (by decide +kernel)⟩
theorem okX5_entry : zOk yX5_entry cX5_entry 6 (some .int) 4 := ⟨⟨by decide +kernel, by decide +kernel⟩, by decide +kernel, by decide, zGW_in 336 (by decide +kernel) (by decide +kernel), zGW_in 63 (by decide +kernel) (by decide +kernel)⟩
theorem okX5_isPlace : zOk yX5_isPlace cX5_isPlace 3 (some .boolean) 3 := ⟨⟨by decide +kernel, by decide +kernel⟩, by decide +kernel, by decide, zGW_in 339 (by decide +kernel) (by decide +kernel), zGW_in 63 (by decide +kernel) (by decide +kernel)⟩
theorem okX5_isWithin : zOk yX5_isWithin cX5_isWithin 2 (some .boolean) 2 := ⟨⟨by decide +kernel, by decide +kernel⟩, by decide +kernel, by decide, zGW_in 343 (by decide +kernel) (by decide +kernel), zGW_in 63 (by decide +kernel) (by decide +kernel)⟩
theorem okX1_entryAt : zOk yX1_entryAt cX1_entryAt 3 (some .int) 2 := ⟨⟨by decide +kernel, by decide +kernel⟩, by decide +kernel, by decide, zGW_in 347 (by decide +kernel) (by decide +kernel), zGW_in 65 (by decide +kernel) (by decide +kernel)⟩
theorem okX1_changeEntry : zOk yX1_changeEntry cX1_changeEntry 5 none 3 := ⟨⟨by decide +kernel, by decide +kernel⟩, by decide +kernel, by decide, zGW_in 351 (by decide +kernel) (by decide +kernel), zGW_in 65 (by decide +kernel) (by decide +kernel)⟩
theorem okX1_cutBlock : zOk yX1_cutBlock cX1_cutBlock 8 none 3 := ⟨⟨by decide +kernel, by decide +kernel⟩, by decide +kernel, by decide, zGW_in 355 (by decide +kernel) (by decide +kernel), zGW_in 65 (by decide +kernel) (by decide +kernel)⟩
theorem okX5_firstOf : zOk yX5_firstOf cX5_firstOf 2 (some .int) 2 := ⟨⟨by decide +kernel, by decide +kernel⟩, by decide +kernel, by decide, zGW_in 358 (by decide +kernel) (by decide +kernel), zGW_in 63 (by decide +kernel) (by decide +kernel)⟩
theorem okX5_shrink : zOk yX5_shrink cX5_shrink 3 (some .int) 1 := ⟨⟨by decide +kernel, by decide +kernel⟩, by decide +kernel, by decide, zGW_in 363 (by decide +kernel) (by decide +kernel), zGW_in 63 (by decide +kernel) (by decide +kernel)⟩
theorem okX1_makeSmaller : zOk yX1_makeSmaller cX1_makeSmaller 1 (some .int) 0 := ⟨⟨by decide +kernel, by decide +kernel⟩, by decide +kernel, by decide, zGW_in 367 (by decide +kernel) (by decide +kernel), zGW_in 65 (by decide +kernel) (by decide +kernel)⟩
theorem okX1_makeSmallerFrom : zOk yX1_makeSmallerFrom cX1_makeSmallerFrom 7 (some .int) 3 := ⟨⟨by decide +kernel, by decide +kernel⟩, by decide +kernel, by decide, zGW_in 371 (by decide +kernel) (by decide +kernel), zGW_in 65 (by decide +kernel) (by decide +kernel)⟩
theorem okX1_makePartsSmaller : zOk yX1_makePartsSmaller cX1_makePartsSmaller 6 (some .int) 3 := ⟨⟨by decide +kernel, by decide +kernel⟩, by decide +kernel, by decide, zGW_in 375 (by decide +kernel) (by decide +kernel), zGW_in 65 (by decide +kernel) (by decide +kernel)⟩
theorem okX1_toldByOne : zOk yX1_toldByOne cX1_toldByOne 10 (some .int) 3 := ⟨⟨by decide +kernel, by decide +kernel⟩, by decide +kernel, by decide, zGW_in 379 (by decide +kernel) (by decide +kernel), zGW_in 65 (by decide +kernel) (by decide +kernel)⟩
theorem okX1_firstFilledRow : zOk yX1_firstFilledRow cX1_firstFilledRow 6 (some .int) 3 := ⟨⟨by decide +kernel, by decide +kernel⟩, by decide +kernel, by decide, zGW_in 383 (by decide +kernel) (by decide +kernel), zGW_in 65 (by decide +kernel) (by decide +kernel)⟩
theorem okX1_firstFilledColumn : zOk yX1_firstFilledColumn cX1_firstFilledColumn 6 (some .int) 3 := ⟨⟨by decide +kernel, by decide +kernel⟩, by decide +kernel, by decide, zGW_in 387 (by decide +kernel) (by decide +kernel), zGW_in 65 (by decide +kernel) (by decide +kernel)⟩
theorem okX5_add : zOk yX5_add cX5_add 4 (some .int) 3 := ⟨⟨by decide +kernel, by decide +kernel⟩, by decide +kernel, by decide, zGW_in 392 (by decide +kernel) (by decide +kernel), zGW_in 63 (by decide +kernel) (by decide +kernel)⟩
theorem okX1_join : zOk yX1_join cX1_join 3 none 2 := ⟨⟨by decide +kernel, by decide +kernel⟩, by decide +kernel, by decide, zGW_in 396 (by decide +kernel) (by decide +kernel), zGW_in 65 (by decide +kernel) (by decide +kernel)⟩
theorem okX1_joinFrom : zOk yX1_joinFrom cX1_joinFrom 7 none 5 := ⟨⟨by decide +kernel, by decide +kernel⟩, by decide +kernel, by decide, zGW_in 400 (by decide +kernel) (by decide +kernel), zGW_in 65 (by decide +kernel) (by decide +kernel)⟩
theorem okX1_joinEntries : zOk yX1_joinEntries cX1_joinEntries 11 none 5 := ⟨⟨by decide +kernel, by decide +kernel⟩, by decide +kernel, by decide, zGW_in 404 (by decide +kernel) (by decide +kernel), zGW_in 65 (by decide +kernel) (by decide +kernel)⟩
theorem okJ9_max_7cf53 : zOk yJ9_max_7cf53 cJ9_max_7cf53 2 (some .int) 2 := ⟨⟨by decide +kernel, by decide +kernel⟩, by decide +kernel, by decide, zGW_in 410 (by decide +kernel) (by decide +kernel), zGW_in 70 (by decide +kernel) (by decide +kernel)⟩
theorem okX5_turn : zOk yX5_turn cX5_turn 2 (some .int) 1 := ⟨⟨by decide +kernel, by decide +kernel⟩, by decide +kernel, by decide, zGW_in 414 (by decide +kernel) (by decide +kernel), zGW_in 63 (by decide +kernel) (by decide +kernel)⟩
theorem okX1_transpose : zOk yX1_transpose cX1_transpose 3 none 0 := ⟨⟨by decide +kernel, by decide +kernel⟩, by decide +kernel, by decide, zGW_in 418 (by decide +kernel) (by decide +kernel), zGW_in 65 (by decide +kernel) (by decide +kernel)⟩
theorem okX1_swap : zOk yX1_swap cX1_swap 4 none 3 := ⟨⟨by decide +kernel, by decide +kernel⟩, by decide +kernel, by decide, zGW_in 421 (by decide +kernel) (by decide +kernel), zGW_in 65 (by decide +kernel) (by decide +kernel)⟩
theorem okX1_transposeSorts : zOk yX1_transposeSorts cX1_transposeSorts 5 none 1 := ⟨⟨by decide +kernel, by decide +kernel⟩, by decide +kernel, by decide, zGW_in 425 (by decide +kernel) (by decide +kernel), zGW_in 65 (by decide +kernel) (by decide +kernel)⟩
theorem okX1_trace : zOk yX1_trace cX1_trace 3 (some .int) 0 := ⟨⟨by decide +kernel, by decide +kernel⟩, by decide +kernel, by decide, zGW_in 429 (by decide +kernel) (by decide +kernel), zGW_in 65 (by decide +kernel) (by decide +kernel)⟩
theorem okX5_copy : zOk yX5_copy cX5_copy 3 (some .int) 2 := ⟨⟨by decide +kernel, by decide +kernel⟩, by decide +kernel, by decide, zGW_in 434 (by decide +kernel) (by decide +kernel), zGW_in 63 (by decide +kernel) (by decide +kernel)⟩
theorem okX5_clear : zOk yX5_clear cX5_clear 4 (some .int) 3 := ⟨⟨by decide +kernel, by decide +kernel⟩, by decide +kernel, by decide, zGW_in 438 (by decide +kernel) (by decide +kernel), zGW_in 63 (by decide +kernel) (by decide +kernel)⟩
theorem okX1_emptyBlockOf : zOk yX1_emptyBlockOf cX1_emptyBlockOf 4 (some .int) 2 := ⟨⟨by decide +kernel, by decide +kernel⟩, by decide +kernel, by decide, zGW_in 442 (by decide +kernel) (by decide +kernel), zGW_in 65 (by decide +kernel) (by decide +kernel)⟩
theorem okX1_depthOf : zOk yX1_depthOf cX1_depthOf 4 (some .int) 2 := ⟨⟨by decide +kernel, by decide +kernel⟩, by decide +kernel, by decide, zGW_in 446 (by decide +kernel) (by decide +kernel), zGW_in 65 (by decide +kernel) (by decide +kernel)⟩
theorem okX5_at : zOk yX5_at cX5_at 4 (some .int) 3 := ⟨⟨by decide +kernel, by decide +kernel⟩, by decide +kernel, by decide, zGW_in 451 (by decide +kernel) (by decide +kernel), zGW_in 63 (by decide +kernel) (by decide +kernel)⟩
theorem okX5_block : zOk yX5_block cX5_block 8 (some .int) 4 := ⟨⟨by decide +kernel, by decide +kernel⟩, by decide +kernel, by decide, zGW_in 455 (by decide +kernel) (by decide +kernel), zGW_in 63 (by decide +kernel) (by decide +kernel)⟩
theorem okX5_of : zOk yX5_of cX5_of 4 (some .int) 2 := ⟨⟨by decide +kernel, by decide +kernel⟩, by decide +kernel, by decide, zGW_in 463 (by decide +kernel) (by decide +kernel), zGW_in 63 (by decide +kernel) (by decide +kernel)⟩
theorem okX1_deepest : zOk yX1_deepest cX1_deepest 3 (some .int) 0 := ⟨⟨by decide +kernel, by decide +kernel⟩, by decide +kernel, by decide, zGW_in 467 (by decide +kernel) (by decide +kernel), zGW_in 65 (by decide +kernel) (by decide +kernel)⟩
theorem okX1_blocksOf : zOk yX1_blocksOf cX1_blocksOf 2 (some .int) 1 := ⟨⟨by decide +kernel, by decide +kernel⟩, by decide +kernel, by decide, zGW_in 471 (by decide +kernel) (by decide +kernel), zGW_in 65 (by decide +kernel) (by decide +kernel)⟩
theorem okX1_blocksFrom : zOk yX1_blocksFrom cX1_blocksFrom 7 (some .int) 4 := ⟨⟨by decide +kernel, by decide +kernel⟩, by decide +kernel, by decide, zGW_in 475 (by decide +kernel) (by decide +kernel), zGW_in 65 (by decide +kernel) (by decide +kernel)⟩
theorem okX1_filledEntries : zOk yX1_filledEntries cX1_filledEntries 3 (some .int) 0 := ⟨⟨by decide +kernel, by decide +kernel⟩, by decide +kernel, by decide, zGW_in 479 (by decide +kernel) (by decide +kernel), zGW_in 65 (by decide +kernel) (by decide +kernel)⟩
theorem okX1_greatest : zOk yX1_greatest cX1_greatest 3 (some .int) 0 := ⟨⟨by decide +kernel, by decide +kernel⟩, by decide +kernel, by decide, zGW_in 483 (by decide +kernel) (by decide +kernel), zGW_in 65 (by decide +kernel) (by decide +kernel)⟩
theorem okX1_least : zOk yX1_least cX1_least 3 (some .int) 0 := ⟨⟨by decide +kernel, by decide +kernel⟩, by decide +kernel, by decide, zGW_in 487 (by decide +kernel) (by decide +kernel), zGW_in 65 (by decide +kernel) (by decide +kernel)⟩
theorem okX1_isItsTurned : zOk yX1_isItsTurned cX1_isItsTurned 3 (some .boolean) 0 := ⟨⟨by decide +kernel, by decide +kernel⟩, by decide +kernel, by decide, zGW_in 491 (by decide +kernel) (by decide +kernel), zGW_in 65 (by decide +kernel) (by decide +kernel)⟩
theorem okX5_product : zOk yX5_product cX5_product 8 (some .long) 4 := ⟨⟨by decide +kernel, by decide +kernel⟩, by decide +kernel, by decide, zGW_in 495 (by decide +kernel) (by decide +kernel), zGW_in 63 (by decide +kernel) (by decide +kernel)⟩
theorem okX5_mean : zOk yX5_mean cX5_mean 2 (some .long) 1 := ⟨⟨by decide +kernel, by decide +kernel⟩, by decide +kernel, by decide, zGW_in 500 (by decide +kernel) (by decide +kernel), zGW_in 63 (by decide +kernel) (by decide +kernel)⟩
theorem okX1_sum : zOk yX1_sum cX1_sum 3 (some .int) 0 := ⟨⟨by decide +kernel, by decide +kernel⟩, by decide +kernel, by decide, zGW_in 504 (by decide +kernel) (by decide +kernel), zGW_in 65 (by decide +kernel) (by decide +kernel)⟩
theorem okX5_bitsOfPart : zOk yX5_bitsOfPart cX5_bitsOfPart 12 (some .long) 3 := ⟨⟨by decide +kernel, by decide +kernel⟩, by decide +kernel, by decide, zGW_in 507 (by decide +kernel) (by decide +kernel), zGW_in 63 (by decide +kernel) (by decide +kernel)⟩
theorem okJ9_abs_067f4 : zOk yJ9_abs_067f4 cJ9_abs_067f4 2 (some .long) 1 := ⟨⟨by decide +kernel, by decide +kernel⟩, by decide +kernel, by decide, zGW_in 510 (by decide +kernel) (by decide +kernel), zGW_in 70 (by decide +kernel) (by decide +kernel)⟩
theorem okX5_highestBit : zOk yX5_highestBit cX5_highestBit 3 (some .int) 1 := ⟨⟨by decide +kernel, by decide +kernel⟩, by decide +kernel, by decide, zGW_in 513 (by decide +kernel) (by decide +kernel), zGW_in 63 (by decide +kernel) (by decide +kernel)⟩
theorem okX5_share : zOk yX5_share cX5_share 2 (some .int) 1 := ⟨⟨by decide +kernel, by decide +kernel⟩, by decide +kernel, by decide, zGW_in 518 (by decide +kernel) (by decide +kernel), zGW_in 63 (by decide +kernel) (by decide +kernel)⟩
theorem okX5_count : zOk yX5_count cX5_count 2 (some .int) 1 := ⟨⟨by decide +kernel, by decide +kernel⟩, by decide +kernel, by decide, zGW_in 522 (by decide +kernel) (by decide +kernel), zGW_in 63 (by decide +kernel) (by decide +kernel)⟩
theorem okX4_room : zOk yX4_room cX4_room 3 (some .int) 0 := ⟨⟨by decide +kernel, by decide +kernel⟩, by decide +kernel, by decide, zGW_in 526 (by decide +kernel) (by decide +kernel), zGW_in 64 (by decide +kernel) (by decide +kernel)⟩
theorem okX4_emptyOnes : zOk yX4_emptyOnes cX4_emptyOnes 3 (some .int) 0 := ⟨⟨by decide +kernel, by decide +kernel⟩, by decide +kernel, by decide, zGW_in 531 (by decide +kernel) (by decide +kernel), zGW_in 64 (by decide +kernel) (by decide +kernel)⟩
theorem okX5_far : zOk yX5_far cX5_far 3 (some .int) 2 := ⟨⟨by decide +kernel, by decide +kernel⟩, by decide +kernel, by decide, zGW_in 536 (by decide +kernel) (by decide +kernel), zGW_in 63 (by decide +kernel) (by decide +kernel)⟩
theorem okX1_greatestDifference : zOk yX1_greatestDifference cX1_greatestDifference 4 (some .int) 1 := ⟨⟨by decide +kernel, by decide +kernel⟩, by decide +kernel, by decide, zGW_in 540 (by decide +kernel) (by decide +kernel), zGW_in 65 (by decide +kernel) (by decide +kernel)⟩
theorem okJ9_abs_0f7a4 : zOk yJ9_abs_0f7a4 cJ9_abs_0f7a4 1 (some .int) 1 := ⟨⟨by decide +kernel, by decide +kernel⟩, by decide +kernel, by decide, zGW_in 543 (by decide +kernel) (by decide +kernel), zGW_in 70 (by decide +kernel) (by decide +kernel)⟩
theorem okX5_wouldTake : zOk yX5_wouldTake cX5_wouldTake 2 (some .int) 1 := ⟨⟨by decide +kernel, by decide +kernel⟩, by decide +kernel, by decide, zGW_in 547 (by decide +kernel) (by decide +kernel), zGW_in 63 (by decide +kernel) (by decide +kernel)⟩
theorem okX5_isOne : zOk yX5_isOne cX5_isOne 5 (some .int) 4 := ⟨⟨by decide +kernel, by decide +kernel⟩, by decide +kernel, by decide, zGW_in 551 (by decide +kernel) (by decide +kernel), zGW_in 63 (by decide +kernel) (by decide +kernel)⟩
theorem okX5_isSquareEdge : zOk yX5_isSquareEdge cX5_isSquareEdge 2 (some .boolean) 2 := ⟨⟨by decide +kernel, by decide +kernel⟩, by decide +kernel, by decide, zGW_in 554 (by decide +kernel) (by decide +kernel), zGW_in 63 (by decide +kernel) (by decide +kernel)⟩
theorem okX5_bestTimes : zOk yX5_bestTimes cX5_bestTimes 6 (some .int) 3 := ⟨⟨by decide +kernel, by decide +kernel⟩, by decide +kernel, by decide, zGW_in 559 (by decide +kernel) (by decide +kernel), zGW_in 63 (by decide +kernel) (by decide +kernel)⟩
theorem okX5_countZeros : zOk yX5_countZeros cX5_countZeros 7 none 2 := ⟨⟨by decide +kernel, by decide +kernel⟩, by decide +kernel, by decide, zGW_in 563 (by decide +kernel) (by decide +kernel), zGW_in 63 (by decide +kernel) (by decide +kernel)⟩
theorem okX5_put : zOk yX5_put cX5_put 5 (some .int) 1 := ⟨⟨by decide +kernel, by decide +kernel⟩, by decide +kernel, by decide, zGW_in 567 (by decide +kernel) (by decide +kernel), zGW_in 63 (by decide +kernel) (by decide +kernel)⟩
theorem okX5_signsIn : zOk yX5_signsIn cX5_signsIn 7 (some .int) 1 := ⟨⟨by decide +kernel, by decide +kernel⟩, by decide +kernel, by decide, zGW_in 570 (by decide +kernel) (by decide +kernel), zGW_in 63 (by decide +kernel) (by decide +kernel)⟩
theorem okX2_append : zOk yX2_append cX2_append 2 none 1 := ⟨⟨by decide +kernel, by decide +kernel⟩, by decide +kernel, by decide, zGW_in 577 (by decide +kernel) (by decide +kernel), zGW_in 67 (by decide +kernel) (by decide +kernel)⟩
theorem okX5_wipe : zOk yX5_wipe cX5_wipe 2 (some .int) 0 := ⟨⟨by decide +kernel, by decide +kernel⟩, by decide +kernel, by decide, zGW_in 581 (by decide +kernel) (by decide +kernel), zGW_in 63 (by decide +kernel) (by decide +kernel)⟩
theorem okX5_fault : zOk yX5_fault cX5_fault 1 (some .int) 0 := ⟨⟨by decide +kernel, by decide +kernel⟩, by decide +kernel, by decide, zGW_in 585 (by decide +kernel) (by decide +kernel), zGW_in 63 (by decide +kernel) (by decide +kernel)⟩
theorem okX5_undo : zOk yX5_undo cX5_undo 1 (some .int) 0 := ⟨⟨by decide +kernel, by decide +kernel⟩, by decide +kernel, by decide, zGW_in 589 (by decide +kernel) (by decide +kernel), zGW_in 63 (by decide +kernel) (by decide +kernel)⟩
theorem okX0_takeBack : zOk yX0_takeBack cX0_takeBack 2 none 1 := ⟨⟨by decide +kernel, by decide +kernel⟩, by decide +kernel, by decide, zGW_in 593 (by decide +kernel) (by decide +kernel), zGW_in 66 (by decide +kernel) (by decide +kernel)⟩
theorem okX5_save : zOk yX5_save cX5_save 2 (some .int) 1 := ⟨⟨by decide +kernel, by decide +kernel⟩, by decide +kernel, by decide, zGW_in 597 (by decide +kernel) (by decide +kernel), zGW_in 63 (by decide +kernel) (by decide +kernel)⟩
theorem okX5_isSlot : zOk yX5_isSlot cX5_isSlot 1 (some .boolean) 1 := ⟨⟨by decide +kernel, by decide +kernel⟩, by decide +kernel, by decide, zGW_in 600 (by decide +kernel) (by decide +kernel), zGW_in 63 (by decide +kernel) (by decide +kernel)⟩
theorem okX5_restore : zOk yX5_restore cX5_restore 2 (some .int) 1 := ⟨⟨by decide +kernel, by decide +kernel⟩, by decide +kernel, by decide, zGW_in 605 (by decide +kernel) (by decide +kernel), zGW_in 63 (by decide +kernel) (by decide +kernel)⟩
theorem okX6_init : zOk yX6_init cX6_init 1 none 0 := ⟨⟨by decide +kernel, by decide +kernel⟩, by decide +kernel, by decide, zGW_in 610 (by decide +kernel) (by decide +kernel), zGW_in 69 (by decide +kernel) (by decide +kernel)⟩
theorem okX6_tell : zOk yX6_tell cX6_tell 3 (some .int) 1 := ⟨⟨by decide +kernel, by decide +kernel⟩, by decide +kernel, by decide, zGW_in 671 (by decide +kernel) (by decide +kernel), zGW_in 69 (by decide +kernel) (by decide +kernel)⟩
theorem okX6_isMatrix : zOk yX6_isMatrix cX6_isMatrix 1 (some .boolean) 1 := ⟨⟨by decide +kernel, by decide +kernel⟩, by decide +kernel, by decide, zGW_in 674 (by decide +kernel) (by decide +kernel), zGW_in 69 (by decide +kernel) (by decide +kernel)⟩
theorem okX6_in : zOk yX6_in cX6_in 3 (some .boolean) 3 := ⟨⟨by decide +kernel, by decide +kernel⟩, by decide +kernel, by decide, zGW_in 677 (by decide +kernel) (by decide +kernel), zGW_in 69 (by decide +kernel) (by decide +kernel)⟩
theorem okX6_reads : zOk yX6_reads cX6_reads 2 (some .int) 0 := ⟨⟨by decide +kernel, by decide +kernel⟩, by decide +kernel, by decide, zGW_in 681 (by decide +kernel) (by decide +kernel), zGW_in 69 (by decide +kernel) (by decide +kernel)⟩
theorem okX6_letter : zOk yX6_letter cX6_letter 1 (some .int) 0 := ⟨⟨by decide +kernel, by decide +kernel⟩, by decide +kernel, by decide, zGW_in 685 (by decide +kernel) (by decide +kernel), zGW_in 69 (by decide +kernel) (by decide +kernel)⟩
theorem okX6_goesDown : zOk yX6_goesDown cX6_goesDown 1 none 0 := ⟨⟨by decide +kernel, by decide +kernel⟩, by decide +kernel, by decide, zGW_in 689 (by decide +kernel) (by decide +kernel), zGW_in 69 (by decide +kernel) (by decide +kernel)⟩
theorem okX6_node : zOk yX6_node cX6_node 4 (some .int) 3 := ⟨⟨by decide +kernel, by decide +kernel⟩, by decide +kernel, by decide, zGW_in 692 (by decide +kernel) (by decide +kernel), zGW_in 69 (by decide +kernel) (by decide +kernel)⟩
theorem okX6_readsBlock : zOk yX6_readsBlock cX6_readsBlock 5 none 0 := ⟨⟨by decide +kernel, by decide +kernel⟩, by decide +kernel, by decide, zGW_in 696 (by decide +kernel) (by decide +kernel), zGW_in 69 (by decide +kernel) (by decide +kernel)⟩
theorem okX6_sizeAt : zOk yX6_sizeAt cX6_sizeAt 1 (some .int) 1 := ⟨⟨by decide +kernel, by decide +kernel⟩, by decide +kernel, by decide, zGW_in 699 (by decide +kernel) (by decide +kernel), zGW_in 69 (by decide +kernel) (by decide +kernel)⟩
theorem okX6_laysRead : zOk yX6_laysRead cX6_laysRead 5 none 1 := ⟨⟨by decide +kernel, by decide +kernel⟩, by decide +kernel, by decide, zGW_in 703 (by decide +kernel) (by decide +kernel), zGW_in 69 (by decide +kernel) (by decide +kernel)⟩
theorem okX6_value : zOk yX6_value cX6_value 3 (some .int) 0 := ⟨⟨by decide +kernel, by decide +kernel⟩, by decide +kernel, by decide, zGW_in 707 (by decide +kernel) (by decide +kernel), zGW_in 69 (by decide +kernel) (by decide +kernel)⟩
theorem okX6_number : zOk yX6_number cX6_number 2 (some .int) 0 := ⟨⟨by decide +kernel, by decide +kernel⟩, by decide +kernel, by decide, zGW_in 711 (by decide +kernel) (by decide +kernel), zGW_in 69 (by decide +kernel) (by decide +kernel)⟩
theorem okX6_keepsValues : zOk yX6_keepsValues cX6_keepsValues 4 none 2 := ⟨⟨by decide +kernel, by decide +kernel⟩, by decide +kernel, by decide, zGW_in 715 (by decide +kernel) (by decide +kernel), zGW_in 69 (by decide +kernel) (by decide +kernel)⟩
theorem okX6_readsValues : zOk yX6_readsValues cX6_readsValues 5 none 1 := ⟨⟨by decide +kernel, by decide +kernel⟩, by decide +kernel, by decide, zGW_in 719 (by decide +kernel) (by decide +kernel), zGW_in 69 (by decide +kernel) (by decide +kernel)⟩
theorem okX6_wants : zOk yX6_wants cX6_wants 2 none 1 := ⟨⟨by decide +kernel, by decide +kernel⟩, by decide +kernel, by decide, zGW_in 723 (by decide +kernel) (by decide +kernel), zGW_in 69 (by decide +kernel) (by decide +kernel)⟩
theorem okX6_goesOn : zOk yX6_goesOn cX6_goesOn 1 (some .boolean) 0 := ⟨⟨by decide +kernel, by decide +kernel⟩, by decide +kernel, by decide, zGW_in 727 (by decide +kernel) (by decide +kernel), zGW_in 69 (by decide +kernel) (by decide +kernel)⟩
theorem okX6_counts : zOk yX6_counts cX6_counts 1 none 0 := ⟨⟨by decide +kernel, by decide +kernel⟩, by decide +kernel, by decide, zGW_in 731 (by decide +kernel) (by decide +kernel), zGW_in 69 (by decide +kernel) (by decide +kernel)⟩
theorem okX6_records : zOk yX6_records cX6_records 2 none 0 := ⟨⟨by decide +kernel, by decide +kernel⟩, by decide +kernel, by decide, zGW_in 735 (by decide +kernel) (by decide +kernel), zGW_in 69 (by decide +kernel) (by decide +kernel)⟩
theorem okX6_room : zOk yX6_room cX6_room 2 (some .int) 1 := ⟨⟨by decide +kernel, by decide +kernel⟩, by decide +kernel, by decide, zGW_in 739 (by decide +kernel) (by decide +kernel), zGW_in 69 (by decide +kernel) (by decide +kernel)⟩
theorem okX6_roomFrom : zOk yX6_roomFrom cX6_roomFrom 11 (some .int) 4 := ⟨⟨by decide +kernel, by decide +kernel⟩, by decide +kernel, by decide, zGW_in 743 (by decide +kernel) (by decide +kernel), zGW_in 69 (by decide +kernel) (by decide +kernel)⟩
theorem okX6_isThere : zOk yX6_isThere cX6_isThere 7 (some .boolean) 4 := ⟨⟨by decide +kernel, by decide +kernel⟩, by decide +kernel, by decide, zGW_in 747 (by decide +kernel) (by decide +kernel), zGW_in 69 (by decide +kernel) (by decide +kernel)⟩
theorem okX6_sort : zOk yX6_sort cX6_sort 5 (some .int) 4 := ⟨⟨by decide +kernel, by decide +kernel⟩, by decide +kernel, by decide, zGW_in 751 (by decide +kernel) (by decide +kernel), zGW_in 69 (by decide +kernel) (by decide +kernel)⟩
theorem okX6_roomOf : zOk yX6_roomOf cX6_roomOf 2 (some .int) 2 := ⟨⟨by decide +kernel, by decide +kernel⟩, by decide +kernel, by decide, zGW_in 754 (by decide +kernel) (by decide +kernel), zGW_in 69 (by decide +kernel) (by decide +kernel)⟩
theorem okX6_entry : zOk yX6_entry cX6_entry 6 (some .int) 4 := ⟨⟨by decide +kernel, by decide +kernel⟩, by decide +kernel, by decide, zGW_in 758 (by decide +kernel) (by decide +kernel), zGW_in 69 (by decide +kernel) (by decide +kernel)⟩
theorem okX6_isPlace : zOk yX6_isPlace cX6_isPlace 2 (some .boolean) 2 := ⟨⟨by decide +kernel, by decide +kernel⟩, by decide +kernel, by decide, zGW_in 761 (by decide +kernel) (by decide +kernel), zGW_in 69 (by decide +kernel) (by decide +kernel)⟩
theorem okX6_cuts : zOk yX6_cuts cX6_cuts 7 none 4 := ⟨⟨by decide +kernel, by decide +kernel⟩, by decide +kernel, by decide, zGW_in 767 (by decide +kernel) (by decide +kernel), zGW_in 69 (by decide +kernel) (by decide +kernel)⟩
theorem okX6_sorts : zOk yX6_sorts cX6_sorts 6 none 5 := ⟨⟨by decide +kernel, by decide +kernel⟩, by decide +kernel, by decide, zGW_in 771 (by decide +kernel) (by decide +kernel), zGW_in 69 (by decide +kernel) (by decide +kernel)⟩
theorem okX6_get : zOk yX6_get cX6_get 4 (some .int) 3 := ⟨⟨by decide +kernel, by decide +kernel⟩, by decide +kernel, by decide, zGW_in 775 (by decide +kernel) (by decide +kernel), zGW_in 69 (by decide +kernel) (by decide +kernel)⟩
theorem okX6_lay : zOk yX6_lay cX6_lay 5 none 4 := ⟨⟨by decide +kernel, by decide +kernel⟩, by decide +kernel, by decide, zGW_in 779 (by decide +kernel) (by decide +kernel), zGW_in 69 (by decide +kernel) (by decide +kernel)⟩
theorem okX6_shrink : zOk yX6_shrink cX6_shrink 3 (some .int) 1 := ⟨⟨by decide +kernel, by decide +kernel⟩, by decide +kernel, by decide, zGW_in 783 (by decide +kernel) (by decide +kernel), zGW_in 69 (by decide +kernel) (by decide +kernel)⟩
theorem okX6_shrinks : zOk yX6_shrinks cX6_shrinks 5 none 1 := ⟨⟨by decide +kernel, by decide +kernel⟩, by decide +kernel, by decide, zGW_in 787 (by decide +kernel) (by decide +kernel), zGW_in 69 (by decide +kernel) (by decide +kernel)⟩
theorem okX6_shrinksBlock : zOk yX6_shrinksBlock cX6_shrinksBlock 9 none 4 := ⟨⟨by decide +kernel, by decide +kernel⟩, by decide +kernel, by decide, zGW_in 791 (by decide +kernel) (by decide +kernel), zGW_in 69 (by decide +kernel) (by decide +kernel)⟩
theorem okX6_oneness : zOk yX6_oneness cX6_oneness 12 (some .int) 4 := ⟨⟨by decide +kernel, by decide +kernel⟩, by decide +kernel, by decide, zGW_in 795 (by decide +kernel) (by decide +kernel), zGW_in 69 (by decide +kernel) (by decide +kernel)⟩
theorem okX6_firstRow : zOk yX6_firstRow cX6_firstRow 6 (some .int) 4 := ⟨⟨by decide +kernel, by decide +kernel⟩, by decide +kernel, by decide, zGW_in 799 (by decide +kernel) (by decide +kernel), zGW_in 69 (by decide +kernel) (by decide +kernel)⟩
theorem okX6_firstColumn : zOk yX6_firstColumn cX6_firstColumn 6 (some .int) 4 := ⟨⟨by decide +kernel, by decide +kernel⟩, by decide +kernel, by decide, zGW_in 803 (by decide +kernel) (by decide +kernel), zGW_in 69 (by decide +kernel) (by decide +kernel)⟩
theorem okX6_areEmpty : zOk yX6_areEmpty cX6_areEmpty 7 (some .boolean) 4 := ⟨⟨by decide +kernel, by decide +kernel⟩, by decide +kernel, by decide, zGW_in 807 (by decide +kernel) (by decide +kernel), zGW_in 69 (by decide +kernel) (by decide +kernel)⟩
theorem okX6_add : zOk yX6_add cX6_add 7 (some .int) 3 := ⟨⟨by decide +kernel, by decide +kernel⟩, by decide +kernel, by decide, zGW_in 811 (by decide +kernel) (by decide +kernel), zGW_in 69 (by decide +kernel) (by decide +kernel)⟩
theorem okX6_addsBlock : zOk yX6_addsBlock cX6_addsBlock 9 none 6 := ⟨⟨by decide +kernel, by decide +kernel⟩, by decide +kernel, by decide, zGW_in 815 (by decide +kernel) (by decide +kernel), zGW_in 69 (by decide +kernel) (by decide +kernel)⟩
theorem okX6_addsSquare : zOk yX6_addsSquare cX6_addsSquare 10 none 6 := ⟨⟨by decide +kernel, by decide +kernel⟩, by decide +kernel, by decide, zGW_in 819 (by decide +kernel) (by decide +kernel), zGW_in 69 (by decide +kernel) (by decide +kernel)⟩
theorem okX6_bounded : zOk yX6_bounded cX6_bounded 1 (some .int) 1 := ⟨⟨by decide +kernel, by decide +kernel⟩, by decide +kernel, by decide, zGW_in 822 (by decide +kernel) (by decide +kernel), zGW_in 69 (by decide +kernel) (by decide +kernel)⟩
theorem okX6_turn : zOk yX6_turn cX6_turn 5 (some .int) 1 := ⟨⟨by decide +kernel, by decide +kernel⟩, by decide +kernel, by decide, zGW_in 826 (by decide +kernel) (by decide +kernel), zGW_in 69 (by decide +kernel) (by decide +kernel)⟩
theorem okX6_swaps : zOk yX6_swaps cX6_swaps 5 none 3 := ⟨⟨by decide +kernel, by decide +kernel⟩, by decide +kernel, by decide, zGW_in 830 (by decide +kernel) (by decide +kernel), zGW_in 69 (by decide +kernel) (by decide +kernel)⟩
theorem okX6_trace : zOk yX6_trace cX6_trace 4 (some .int) 1 := ⟨⟨by decide +kernel, by decide +kernel⟩, by decide +kernel, by decide, zGW_in 834 (by decide +kernel) (by decide +kernel), zGW_in 69 (by decide +kernel) (by decide +kernel)⟩
theorem okX6_copy : zOk yX6_copy cX6_copy 4 (some .int) 2 := ⟨⟨by decide +kernel, by decide +kernel⟩, by decide +kernel, by decide, zGW_in 839 (by decide +kernel) (by decide +kernel), zGW_in 69 (by decide +kernel) (by decide +kernel)⟩
theorem okX6_clear : zOk yX6_clear cX6_clear 7 (some .int) 3 := ⟨⟨by decide +kernel, by decide +kernel⟩, by decide +kernel, by decide, zGW_in 843 (by decide +kernel) (by decide +kernel), zGW_in 69 (by decide +kernel) (by decide +kernel)⟩
theorem okX6_depthAt : zOk yX6_depthAt cX6_depthAt 5 (some .int) 3 := ⟨⟨by decide +kernel, by decide +kernel⟩, by decide +kernel, by decide, zGW_in 847 (by decide +kernel) (by decide +kernel), zGW_in 69 (by decide +kernel) (by decide +kernel)⟩
theorem okX6_at : zOk yX6_at cX6_at 4 (some .int) 3 := ⟨⟨by decide +kernel, by decide +kernel⟩, by decide +kernel, by decide, zGW_in 851 (by decide +kernel) (by decide +kernel), zGW_in 69 (by decide +kernel) (by decide +kernel)⟩
theorem okX6_block : zOk yX6_block cX6_block 8 (some .int) 4 := ⟨⟨by decide +kernel, by decide +kernel⟩, by decide +kernel, by decide, zGW_in 855 (by decide +kernel) (by decide +kernel), zGW_in 69 (by decide +kernel) (by decide +kernel)⟩
theorem okX6_of : zOk yX6_of cX6_of 3 (some .int) 2 := ⟨⟨by decide +kernel, by decide +kernel⟩, by decide +kernel, by decide, zGW_in 859 (by decide +kernel) (by decide +kernel), zGW_in 69 (by decide +kernel) (by decide +kernel)⟩
theorem okX6_overBlocks : zOk yX6_overBlocks cX6_overBlocks 8 (some .int) 2 := ⟨⟨by decide +kernel, by decide +kernel⟩, by decide +kernel, by decide, zGW_in 863 (by decide +kernel) (by decide +kernel), zGW_in 69 (by decide +kernel) (by decide +kernel)⟩
theorem okX6_overEntries : zOk yX6_overEntries cX6_overEntries 9 (some .int) 2 := ⟨⟨by decide +kernel, by decide +kernel⟩, by decide +kernel, by decide, zGW_in 867 (by decide +kernel) (by decide +kernel), zGW_in 69 (by decide +kernel) (by decide +kernel)⟩
theorem okX6_product : zOk yX6_product cX6_product 8 (some .long) 4 := ⟨⟨by decide +kernel, by decide +kernel⟩, by decide +kernel, by decide, zGW_in 871 (by decide +kernel) (by decide +kernel), zGW_in 69 (by decide +kernel) (by decide +kernel)⟩
theorem okX6_mean : zOk yX6_mean cX6_mean 4 (some .long) 1 := ⟨⟨by decide +kernel, by decide +kernel⟩, by decide +kernel, by decide, zGW_in 876 (by decide +kernel) (by decide +kernel), zGW_in 69 (by decide +kernel) (by decide +kernel)⟩
theorem okJxe99ae_doubleToLongBits_ccdee : zOk yJxe99ae_doubleToLongBits_ccdee cJxe99ae_doubleToLongBits_ccdee 2 (some .long) 1 := ⟨⟨by decide +kernel, by decide +kernel⟩, by decide +kernel, by decide, zGW_in 880 (by decide +kernel) (by decide +kernel), zGW_in 72 (by decide +kernel) (by decide +kernel)⟩
theorem okJxe99ae_isNaN_b9ae7 : zOk yJxe99ae_isNaN_b9ae7 cJxe99ae_isNaN_b9ae7 2 (some .boolean) 1 := ⟨⟨by decide +kernel, by decide +kernel⟩, by decide +kernel, by decide, zGW_in 883 (by decide +kernel) (by decide +kernel), zGW_in 72 (by decide +kernel) (by decide +kernel)⟩
theorem okX6_share : zOk yX6_share cX6_share 2 (some .int) 1 := ⟨⟨by decide +kernel, by decide +kernel⟩, by decide +kernel, by decide, zGW_in 891 (by decide +kernel) (by decide +kernel), zGW_in 69 (by decide +kernel) (by decide +kernel)⟩
theorem okJxf58ca_floatToIntBits_5c35a : zOk yJxf58ca_floatToIntBits_5c35a cJxf58ca_floatToIntBits_5c35a 1 (some .int) 1 := ⟨⟨by decide +kernel, by decide +kernel⟩, by decide +kernel, by decide, zGW_in 895 (by decide +kernel) (by decide +kernel), zGW_in 73 (by decide +kernel) (by decide +kernel)⟩
theorem okJxf58ca_isNaN_12338 : zOk yJxf58ca_isNaN_12338 cJxf58ca_isNaN_12338 1 (some .boolean) 1 := ⟨⟨by decide +kernel, by decide +kernel⟩, by decide +kernel, by decide, zGW_in 898 (by decide +kernel) (by decide +kernel), zGW_in 73 (by decide +kernel) (by decide +kernel)⟩
theorem okX6_count : zOk yX6_count cX6_count 2 (some .int) 1 := ⟨⟨by decide +kernel, by decide +kernel⟩, by decide +kernel, by decide, zGW_in 906 (by decide +kernel) (by decide +kernel), zGW_in 69 (by decide +kernel) (by decide +kernel)⟩
theorem okX6_allRoom : zOk yX6_allRoom cX6_allRoom 3 (some .int) 0 := ⟨⟨by decide +kernel, by decide +kernel⟩, by decide +kernel, by decide, zGW_in 910 (by decide +kernel) (by decide +kernel), zGW_in 69 (by decide +kernel) (by decide +kernel)⟩
theorem okX6_emptyOnes : zOk yX6_emptyOnes cX6_emptyOnes 3 (some .int) 0 := ⟨⟨by decide +kernel, by decide +kernel⟩, by decide +kernel, by decide, zGW_in 914 (by decide +kernel) (by decide +kernel), zGW_in 69 (by decide +kernel) (by decide +kernel)⟩
theorem okX6_far : zOk yX6_far cX6_far 6 (some .int) 2 := ⟨⟨by decide +kernel, by decide +kernel⟩, by decide +kernel, by decide, zGW_in 918 (by decide +kernel) (by decide +kernel), zGW_in 69 (by decide +kernel) (by decide +kernel)⟩
theorem okX6_wouldTake : zOk yX6_wouldTake cX6_wouldTake 3 (some .int) 1 := ⟨⟨by decide +kernel, by decide +kernel⟩, by decide +kernel, by decide, zGW_in 922 (by decide +kernel) (by decide +kernel), zGW_in 69 (by decide +kernel) (by decide +kernel)⟩
theorem okX6_putAside : zOk yX6_putAside cX6_putAside 2 none 0 := ⟨⟨by decide +kernel, by decide +kernel⟩, by decide +kernel, by decide, zGW_in 926 (by decide +kernel) (by decide +kernel), zGW_in 69 (by decide +kernel) (by decide +kernel)⟩
theorem okX6_takeBack : zOk yX6_takeBack cX6_takeBack 2 none 0 := ⟨⟨by decide +kernel, by decide +kernel⟩, by decide +kernel, by decide, zGW_in 930 (by decide +kernel) (by decide +kernel), zGW_in 69 (by decide +kernel) (by decide +kernel)⟩
theorem okX6_isOne : zOk yX6_isOne cX6_isOne 5 (some .int) 4 := ⟨⟨by decide +kernel, by decide +kernel⟩, by decide +kernel, by decide, zGW_in 934 (by decide +kernel) (by decide +kernel), zGW_in 69 (by decide +kernel) (by decide +kernel)⟩
theorem okX6_bestTimes : zOk yX6_bestTimes cX6_bestTimes 8 (some .int) 3 := ⟨⟨by decide +kernel, by decide +kernel⟩, by decide +kernel, by decide, zGW_in 938 (by decide +kernel) (by decide +kernel), zGW_in 69 (by decide +kernel) (by decide +kernel)⟩
theorem okX6_zerosBy : zOk yX6_zerosBy cX6_zerosBy 6 (some .int) 3 := ⟨⟨by decide +kernel, by decide +kernel⟩, by decide +kernel, by decide, zGW_in 942 (by decide +kernel) (by decide +kernel), zGW_in 69 (by decide +kernel) (by decide +kernel)⟩
theorem okX6_put : zOk yX6_put cX6_put 8 (some .int) 1 := ⟨⟨by decide +kernel, by decide +kernel⟩, by decide +kernel, by decide, zGW_in 946 (by decide +kernel) (by decide +kernel), zGW_in 69 (by decide +kernel) (by decide +kernel)⟩
theorem okX6_wipe : zOk yX6_wipe cX6_wipe 2 (some .int) 0 := ⟨⟨by decide +kernel, by decide +kernel⟩, by decide +kernel, by decide, zGW_in 951 (by decide +kernel) (by decide +kernel), zGW_in 69 (by decide +kernel) (by decide +kernel)⟩
theorem okX6_fault : zOk yX6_fault cX6_fault 1 (some .int) 0 := ⟨⟨by decide +kernel, by decide +kernel⟩, by decide +kernel, by decide, zGW_in 955 (by decide +kernel) (by decide +kernel), zGW_in 69 (by decide +kernel) (by decide +kernel)⟩
theorem okX6_undo : zOk yX6_undo cX6_undo 2 (some .int) 0 := ⟨⟨by decide +kernel, by decide +kernel⟩, by decide +kernel, by decide, zGW_in 959 (by decide +kernel) (by decide +kernel), zGW_in 69 (by decide +kernel) (by decide +kernel)⟩
theorem okX6_save : zOk yX6_save cX6_save 3 (some .int) 1 := ⟨⟨by decide +kernel, by decide +kernel⟩, by decide +kernel, by decide, zGW_in 963 (by decide +kernel) (by decide +kernel), zGW_in 69 (by decide +kernel) (by decide +kernel)⟩
theorem okX6_restore : zOk yX6_restore cX6_restore 3 (some .int) 1 := ⟨⟨by decide +kernel, by decide +kernel⟩, by decide +kernel, by decide, zGW_in 967 (by decide +kernel) (by decide +kernel), zGW_in 69 (by decide +kernel) (by decide +kernel)⟩
theorem klL_7 : Cond.classLink RL 7 RX5 ∈ zGW := zGW_in 74 (by decide +kernel) (by decide +kernel)
theorem lkL_9 : zLi RL 9 yX5_init := ⟨zGW_in 76 (by decide +kernel) (by decide +kernel), zGW_in 77 (by decide +kernel) (by decide +kernel), rfl⟩
theorem loX5_3 : Cond.methodLink RX5 3 objectInit ∈ zGW ∧ Cond.instanceMethod objectInit ∈ zGW ∧ Cond.code objectInit ⟨#[0xb1]⟩ 1 none ∈ zGW := ⟨zGW_in 79 (by decide +kernel) (by decide +kernel), zGW_in 80 (by decide +kernel) (by decide +kernel), zGW_in 81 (by decide +kernel) (by decide +kernel)⟩
theorem klX5_9 : Cond.classLink RX5 9 RX4 ∈ zGW := zGW_in 82 (by decide +kernel) (by decide +kernel)
theorem lkX5_11 : zLi RX5 11 yX4_init := ⟨zGW_in 84 (by decide +kernel) (by decide +kernel), zGW_in 85 (by decide +kernel) (by decide +kernel), rfl⟩
theorem loX4_3 : Cond.methodLink RX4 3 objectInit ∈ zGW ∧ Cond.instanceMethod objectInit ∈ zGW ∧ Cond.code objectInit ⟨#[0xb1]⟩ 1 none ∈ zGW := ⟨zGW_in 87 (by decide +kernel) (by decide +kernel), zGW_in 80 (by decide +kernel) (by decide +kernel), zGW_in 81 (by decide +kernel) (by decide +kernel)⟩
theorem klX4_9 : Cond.classLink RX4 9 RX1 ∈ zGW := zGW_in 88 (by decide +kernel) (by decide +kernel)
theorem nkX4_21 : zNi RX4 21 yX1_init := ⟨zNW_in 91 (by decide +kernel) (by decide +kernel), zGW_in 92 (by decide +kernel) (by decide +kernel), rfl⟩
theorem loX1_3 : Cond.methodLink RX1 3 objectInit ∈ zGW ∧ Cond.instanceMethod objectInit ∈ zGW ∧ Cond.code objectInit ⟨#[0xb1]⟩ 1 none ∈ zGW := ⟨zGW_in 94 (by decide +kernel) (by decide +kernel), zGW_in 80 (by decide +kernel) (by decide +kernel), zGW_in 81 (by decide +kernel) (by decide +kernel)⟩
theorem lfX1_9 : zFl RX1 9 1 0 := ⟨RX1, TX1, 2, rfl, by decide, zGW_in 95 (by decide +kernel) (by decide +kernel), inX1⟩
theorem nfX5_225 : zFn RX5 225 1 0 := ⟨RX1, TX1, 2, rfl, by decide, zNW_in 96 (by decide +kernel) (by decide +kernel), inX1⟩
theorem lfX1_15 : zFl RX1 15 1 1 := ⟨RX1, TX1, 2, rfl, by decide, zGW_in 97 (by decide +kernel) (by decide +kernel), inX1⟩
theorem lfX4_11 : zFl RX4 11 4 0 := ⟨RX4, TX4, 2, rfl, by decide, zGW_in 104 (by decide +kernel) (by decide +kernel), inX4⟩
theorem nfX5_59 : zFn RX5 59 4 0 := ⟨RX4, TX4, 2, rfl, by decide, zNW_in 105 (by decide +kernel) (by decide +kernel), inX4⟩
theorem lfX4_17 : zFl RX4 17 4 1 := ⟨RX4, TX4, 2, rfl, by decide, zGW_in 106 (by decide +kernel) (by decide +kernel), inX4⟩
theorem nfX5_160 : zFn RX5 160 4 1 := ⟨RX4, TX4, 2, rfl, by decide, zNW_in 107 (by decide +kernel) (by decide +kernel), inX4⟩
theorem klX5_16 : Cond.classLink RX5 16 RX0 ∈ zGW := zGW_in 113 (by decide +kernel) (by decide +kernel)
theorem lkX5_18 : zLi RX5 18 yX0_init := ⟨zGW_in 115 (by decide +kernel) (by decide +kernel), zGW_in 116 (by decide +kernel) (by decide +kernel), rfl⟩
theorem loX0_3 : Cond.methodLink RX0 3 objectInit ∈ zGW ∧ Cond.instanceMethod objectInit ∈ zGW ∧ Cond.code objectInit ⟨#[0xb1]⟩ 1 none ∈ zGW := ⟨zGW_in 118 (by decide +kernel) (by decide +kernel), zGW_in 80 (by decide +kernel) (by decide +kernel), zGW_in 81 (by decide +kernel) (by decide +kernel)⟩
theorem klX0_9 : Cond.classLink RX0 9 RX4 ∈ zGW := zGW_in 119 (by decide +kernel) (by decide +kernel)
theorem lkX0_24 : zLi RX0 24 yX4_init := ⟨zGW_in 121 (by decide +kernel) (by decide +kernel), zGW_in 85 (by decide +kernel) (by decide +kernel), rfl⟩
theorem lfX0_11 : zFl RX0 11 0 0 := ⟨RX0, TX0, 3, rfl, by decide, zGW_in 122 (by decide +kernel) (by decide +kernel), inX0⟩
theorem lfX0_17 : zFl RX0 17 0 1 := ⟨RX0, TX0, 3, rfl, by decide, zGW_in 123 (by decide +kernel) (by decide +kernel), inX0⟩
theorem lfX0_21 : zFl RX0 21 0 2 := ⟨RX0, TX0, 3, rfl, by decide, zGW_in 124 (by decide +kernel) (by decide +kernel), inX0⟩
theorem nfX5_163 : zFn RX5 163 0 2 := ⟨RX0, TX0, 3, rfl, by decide, zNW_in 125 (by decide +kernel) (by decide +kernel), inX0⟩
theorem klX5_23 : Cond.classLink RX5 23 RX3 ∈ zGW := zGW_in 133 (by decide +kernel) (by decide +kernel)
theorem klX5_29 : Cond.classLink RX5 29 RX2 ∈ zGW := zGW_in 135 (by decide +kernel) (by decide +kernel)
theorem nkX5_31 : zNi RX5 31 yX2_init := ⟨zNW_in 137 (by decide +kernel) (by decide +kernel), zGW_in 138 (by decide +kernel) (by decide +kernel), rfl⟩
theorem loX2_3 : Cond.methodLink RX2 3 objectInit ∈ zGW ∧ Cond.instanceMethod objectInit ∈ zGW ∧ Cond.code objectInit ⟨#[0xb1]⟩ 1 none ∈ zGW := ⟨zGW_in 140 (by decide +kernel) (by decide +kernel), zGW_in 80 (by decide +kernel) (by decide +kernel), zGW_in 81 (by decide +kernel) (by decide +kernel)⟩
theorem klX2_19 : Cond.classLink RX2 19 RX1 ∈ zGW := zGW_in 141 (by decide +kernel) (by decide +kernel)
theorem nkX2_21 : zNi RX2 21 yX1_init := ⟨zNW_in 142 (by decide +kernel) (by decide +kernel), zGW_in 92 (by decide +kernel) (by decide +kernel), rfl⟩
theorem lfX2_9 : zFl RX2 9 2 0 := ⟨RX2, TX2, 8, rfl, by decide, zGW_in 143 (by decide +kernel) (by decide +kernel), inX2⟩
theorem lfX2_15 : zFl RX2 15 2 1 := ⟨RX2, TX2, 8, rfl, by decide, zGW_in 144 (by decide +kernel) (by decide +kernel), inX2⟩
theorem nfX5_70 : zFn RX5 70 2 1 := ⟨RX2, TX2, 8, rfl, by decide, zNW_in 145 (by decide +kernel) (by decide +kernel), inX2⟩
theorem lfX2_22 : zFl RX2 22 2 2 := ⟨RX2, TX2, 8, rfl, by decide, zGW_in 146 (by decide +kernel) (by decide +kernel), inX2⟩
theorem nfX5_63 : zFn RX5 63 2 2 := ⟨RX2, TX2, 8, rfl, by decide, zNW_in 147 (by decide +kernel) (by decide +kernel), inX2⟩
theorem lfX2_26 : zFl RX2 26 2 3 := ⟨RX2, TX2, 8, rfl, by decide, zGW_in 148 (by decide +kernel) (by decide +kernel), inX2⟩
theorem lfX2_30 : zFl RX2 30 2 4 := ⟨RX2, TX2, 8, rfl, by decide, zGW_in 149 (by decide +kernel) (by decide +kernel), inX2⟩
theorem lfX2_33 : zFl RX2 33 2 5 := ⟨RX2, TX2, 8, rfl, by decide, zGW_in 150 (by decide +kernel) (by decide +kernel), inX2⟩
theorem lfX2_36 : zFl RX2 36 2 6 := ⟨RX2, TX2, 8, rfl, by decide, zGW_in 151 (by decide +kernel) (by decide +kernel), inX2⟩
theorem nfX5_188 : zFn RX5 188 2 6 := ⟨RX2, TX2, 8, rfl, by decide, zNW_in 152 (by decide +kernel) (by decide +kernel), inX2⟩
theorem lfX2_39 : zFl RX2 39 2 7 := ⟨RX2, TX2, 8, rfl, by decide, zGW_in 153 (by decide +kernel) (by decide +kernel), inX2⟩
theorem klX5_36 : Cond.classLink RX5 36 RX1 ∈ zGW := zGW_in 172 (by decide +kernel) (by decide +kernel)
theorem nkX5_38 : zNi RX5 38 yX1_init := ⟨zNW_in 173 (by decide +kernel) (by decide +kernel), zGW_in 92 (by decide +kernel) (by decide +kernel), rfl⟩
theorem nkX5_47 : zNi RX5 47 yX3_init := ⟨zNW_in 175 (by decide +kernel) (by decide +kernel), zGW_in 176 (by decide +kernel) (by decide +kernel), rfl⟩
theorem loX3_1 : Cond.methodLink RX3 1 objectInit ∈ zGW ∧ Cond.instanceMethod objectInit ∈ zGW ∧ Cond.code objectInit ⟨#[0xb1]⟩ 1 none ∈ zGW := ⟨zGW_in 178 (by decide +kernel) (by decide +kernel), zGW_in 80 (by decide +kernel) (by decide +kernel), zGW_in 81 (by decide +kernel) (by decide +kernel)⟩
theorem klX3_7 : Cond.classLink RX3 7 RX4 ∈ zGW := zGW_in 179 (by decide +kernel) (by decide +kernel)
theorem lkX3_9 : zLi RX3 9 yX4_init := ⟨zGW_in 180 (by decide +kernel) (by decide +kernel), zGW_in 85 (by decide +kernel) (by decide +kernel), rfl⟩
theorem lfX3_10 : zFl RX3 10 3 0 := ⟨RX3, TX3, 2, rfl, by decide, zGW_in 181 (by decide +kernel) (by decide +kernel), inX3⟩
theorem nfX5_198 : zFn RX5 198 3 0 := ⟨RX3, TX3, 2, rfl, by decide, zNW_in 182 (by decide +kernel) (by decide +kernel), inX3⟩
theorem lfX3_16 : zFl RX3 16 3 1 := ⟨RX3, TX3, 2, rfl, by decide, zGW_in 183 (by decide +kernel) (by decide +kernel), inX3⟩
theorem nfX5_203 : zFn RX5 203 3 1 := ⟨RX3, TX3, 2, rfl, by decide, zNW_in 184 (by decide +kernel) (by decide +kernel), inX3⟩
theorem lfX5_12 : zFl RX5 12 5 0 := ⟨RX5, TX5, 6, rfl, by decide, zGW_in 190 (by decide +kernel) (by decide +kernel), inX5⟩
theorem lfX5_19 : zFl RX5 19 5 1 := ⟨RX5, TX5, 6, rfl, by decide, zGW_in 191 (by decide +kernel) (by decide +kernel), inX5⟩
theorem lfX5_25 : zFl RX5 25 5 2 := ⟨RX5, TX5, 6, rfl, by decide, zGW_in 192 (by decide +kernel) (by decide +kernel), inX5⟩
theorem lfX5_32 : zFl RX5 32 5 3 := ⟨RX5, TX5, 6, rfl, by decide, zGW_in 193 (by decide +kernel) (by decide +kernel), inX5⟩
theorem lfX5_39 : zFl RX5 39 5 4 := ⟨RX5, TX5, 6, rfl, by decide, zGW_in 194 (by decide +kernel) (by decide +kernel), inX5⟩
theorem lfX5_43 : zFl RX5 43 5 5 := ⟨RX5, TX5, 6, rfl, by decide, zGW_in 195 (by decide +kernel) (by decide +kernel), inX5⟩
theorem lkL_13 : zLv RL 13 yX5_tell := ⟨zGW_in 209 (by decide +kernel) (by decide +kernel), zGW_in 210 (by decide +kernel) (by decide +kernel), zGW_in 211 (by decide +kernel) (by decide +kernel)⟩
theorem lkX5_48 : zLs RX5 48 yX5_isMatrix := ⟨zGW_in 213 (by decide +kernel) (by decide +kernel), zGW_in 214 (by decide +kernel) (by decide +kernel)⟩
theorem lkX5_52 : zLv RX5 52 yX2_read := ⟨zGW_in 216 (by decide +kernel) (by decide +kernel), zGW_in 217 (by decide +kernel) (by decide +kernel), zGW_in 218 (by decide +kernel) (by decide +kernel)⟩
theorem lkX2_42 : zLv RX2 42 yX2_readBlock := ⟨zGW_in 220 (by decide +kernel) (by decide +kernel), zGW_in 222 (by decide +kernel) (by decide +kernel), zGW_in 0 (by decide +kernel) (by decide +kernel)⟩
theorem lkX2_46 : zLv RX2 46 yX2_passes := ⟨zGW_in 224 (by decide +kernel) (by decide +kernel), zGW_in 226 (by decide +kernel) (by decide +kernel), zGW_in 1 (by decide +kernel) (by decide +kernel)⟩
theorem lkX2_50 : zLv RX2 50 yX1_setEmpty := ⟨zGW_in 228 (by decide +kernel) (by decide +kernel), zGW_in 229 (by decide +kernel) (by decide +kernel), zGW_in 230 (by decide +kernel) (by decide +kernel)⟩
theorem lkX1_71 : zLv RX1 71 yX1_setSort := ⟨zGW_in 232 (by decide +kernel) (by decide +kernel), zGW_in 234 (by decide +kernel) (by decide +kernel), zGW_in 2 (by decide +kernel) (by decide +kernel)⟩
theorem lkX1_32 : zLs RX1 32 yX1_numberOf := ⟨zGW_in 236 (by decide +kernel) (by decide +kernel), zGW_in 237 (by decide +kernel) (by decide +kernel)⟩
theorem nkX1_24 : zNs RX1 24 yX5_sizeAt := ⟨zNW_in 239 (by decide +kernel) (by decide +kernel), zGW_in 240 (by decide +kernel) (by decide +kernel)⟩
theorem lkX1_28 : zLs RX1 28 yX1_cellOf := ⟨zGW_in 242 (by decide +kernel) (by decide +kernel), zGW_in 243 (by decide +kernel) (by decide +kernel)⟩
theorem lkX2_54 : zLv RX2 54 yX2_readSame := ⟨zGW_in 245 (by decide +kernel) (by decide +kernel), zGW_in 247 (by decide +kernel) (by decide +kernel), zGW_in 3 (by decide +kernel) (by decide +kernel)⟩
theorem lkX2_77 : zLv RX2 77 yX2_readValue := ⟨zGW_in 249 (by decide +kernel) (by decide +kernel), zGW_in 251 (by decide +kernel) (by decide +kernel), zGW_in 4 (by decide +kernel) (by decide +kernel)⟩
theorem lkX2_103 : zLv RX2 103 yX2_digit := ⟨zGW_in 253 (by decide +kernel) (by decide +kernel), zGW_in 255 (by decide +kernel) (by decide +kernel), zGW_in 5 (by decide +kernel) (by decide +kernel)⟩
theorem lkX2_81 : zLv RX2 81 yX1_setThin := ⟨zGW_in 257 (by decide +kernel) (by decide +kernel), zGW_in 258 (by decide +kernel) (by decide +kernel), zGW_in 259 (by decide +kernel) (by decide +kernel)⟩
theorem lkX2_57 : zLv RX2 57 yX2_readProduct := ⟨zGW_in 261 (by decide +kernel) (by decide +kernel), zGW_in 263 (by decide +kernel) (by decide +kernel), zGW_in 6 (by decide +kernel) (by decide +kernel)⟩
theorem nkX2_85 : zNs RX2 85 yX5_sizeAt := ⟨zNW_in 265 (by decide +kernel) (by decide +kernel), zGW_in 240 (by decide +kernel) (by decide +kernel)⟩
theorem lkX2_89 : zLv RX2 89 yX2_readValues := ⟨zGW_in 266 (by decide +kernel) (by decide +kernel), zGW_in 268 (by decide +kernel) (by decide +kernel), zGW_in 7 (by decide +kernel) (by decide +kernel)⟩
theorem lmX2_97 : Cond.methodLink RX2 97 Lib.Math.min.name ∈ zGW ∧ Cond.static Lib.Math.min.name ∈ zGW ∧ Cond.initialized "java/lang/Math" ∈ zGW ∧ Cond.code Lib.Math.min.name Lib.Math.min.code 2 (some .int) ∈ zGW := ⟨zGW_in 270 (by decide +kernel) (by decide +kernel), zGW_in 271 (by decide +kernel) (by decide +kernel), zGW_in 70 (by decide +kernel) (by decide +kernel), zGW_in 272 (by decide +kernel) (by decide +kernel)⟩
theorem lkX2_60 : zLv RX2 60 yX2_readFull := ⟨zGW_in 273 (by decide +kernel) (by decide +kernel), zGW_in 275 (by decide +kernel) (by decide +kernel), zGW_in 8 (by decide +kernel) (by decide +kernel)⟩
theorem lkX2_93 : zLv RX2 93 yX1_setFull := ⟨zGW_in 277 (by decide +kernel) (by decide +kernel), zGW_in 278 (by decide +kernel) (by decide +kernel), zGW_in 279 (by decide +kernel) (by decide +kernel)⟩
theorem lkX2_63 : zLv RX2 63 yX2_readParts := ⟨zGW_in 281 (by decide +kernel) (by decide +kernel), zGW_in 283 (by decide +kernel) (by decide +kernel), zGW_in 9 (by decide +kernel) (by decide +kernel)⟩
theorem nkX2_66 : zNv RX2 66 yX1_setSort := ⟨zNW_in 285 (by decide +kernel) (by decide +kernel), zGW_in 234 (by decide +kernel) (by decide +kernel), zGW_in 2 (by decide +kernel) (by decide +kernel)⟩
theorem nkX2_70 : zNs RX2 70 yX1_rowOfPart := ⟨zNW_in 286 (by decide +kernel) (by decide +kernel), zGW_in 287 (by decide +kernel) (by decide +kernel)⟩
theorem nkX2_74 : zNs RX2 74 yX1_columnOfPart := ⟨zNW_in 289 (by decide +kernel) (by decide +kernel), zGW_in 290 (by decide +kernel) (by decide +kernel)⟩
theorem lkX5_56 : zLv RX5 56 yX5_beginChange := ⟨zGW_in 292 (by decide +kernel) (by decide +kernel), zGW_in 294 (by decide +kernel) (by decide +kernel), zGW_in 10 (by decide +kernel) (by decide +kernel)⟩
theorem lkX5_207 : zLv RX5 207 yX0_keep := ⟨zGW_in 296 (by decide +kernel) (by decide +kernel), zGW_in 297 (by decide +kernel) (by decide +kernel), zGW_in 298 (by decide +kernel) (by decide +kernel)⟩
theorem lkX0_25 : zLv RX0 25 yX4_become := ⟨zGW_in 300 (by decide +kernel) (by decide +kernel), zGW_in 301 (by decide +kernel) (by decide +kernel), zGW_in 302 (by decide +kernel) (by decide +kernel)⟩
theorem lkX4_22 : zLv RX4 22 yX1_become := ⟨zGW_in 304 (by decide +kernel) (by decide +kernel), zGW_in 305 (by decide +kernel) (by decide +kernel), zGW_in 306 (by decide +kernel) (by decide +kernel)⟩
theorem laX1_18 : Cond.methodLink RX1 18 arraycopyName ∈ zGW ∧ Cond.native arraycopyName ∈ zGW ∧ Cond.static arraycopyName ∈ zGW ∧ Cond.initialized "java/lang/System" ∈ zGW := ⟨zGW_in 308 (by decide +kernel) (by decide +kernel), zGW_in 310 (by decide +kernel) (by decide +kernel), zGW_in 309 (by decide +kernel) (by decide +kernel), zGW_in 71 (by decide +kernel) (by decide +kernel)⟩
theorem lkX5_66 : zLv RX5 66 yX1_become := ⟨zGW_in 311 (by decide +kernel) (by decide +kernel), zGW_in 305 (by decide +kernel) (by decide +kernel), zGW_in 306 (by decide +kernel) (by decide +kernel)⟩
theorem lkX5_74 : zLv RX5 74 yX1_room := ⟨zGW_in 312 (by decide +kernel) (by decide +kernel), zGW_in 313 (by decide +kernel) (by decide +kernel), zGW_in 314 (by decide +kernel) (by decide +kernel)⟩
theorem lkX1_51 : zLv RX1 51 yX1_roomFrom := ⟨zGW_in 316 (by decide +kernel) (by decide +kernel), zGW_in 318 (by decide +kernel) (by decide +kernel), zGW_in 11 (by decide +kernel) (by decide +kernel)⟩
theorem lkX1_39 : zLv RX1 39 yX1_isCut := ⟨zGW_in 320 (by decide +kernel) (by decide +kernel), zGW_in 322 (by decide +kernel) (by decide +kernel), zGW_in 12 (by decide +kernel) (by decide +kernel)⟩
theorem lkX1_36 : zLv RX1 36 yX1_sortOf := ⟨zGW_in 324 (by decide +kernel) (by decide +kernel), zGW_in 325 (by decide +kernel) (by decide +kernel), zGW_in 326 (by decide +kernel) (by decide +kernel)⟩
theorem nkX1_54 : zNs RX1 54 yX5_roomOfUncut := ⟨zNW_in 328 (by decide +kernel) (by decide +kernel), zGW_in 329 (by decide +kernel) (by decide +kernel)⟩
theorem lkX1_57 : zLs RX1 57 yX1_rowOfPart := ⟨zGW_in 331 (by decide +kernel) (by decide +kernel), zGW_in 287 (by decide +kernel) (by decide +kernel)⟩
theorem lkX1_60 : zLs RX1 60 yX1_columnOfPart := ⟨zGW_in 332 (by decide +kernel) (by decide +kernel), zGW_in 290 (by decide +kernel) (by decide +kernel)⟩
theorem lkL_18 : zLv RL 18 yX5_entry := ⟨zGW_in 333 (by decide +kernel) (by decide +kernel), zGW_in 334 (by decide +kernel) (by decide +kernel), zGW_in 335 (by decide +kernel) (by decide +kernel)⟩
theorem lkX5_78 : zLs RX5 78 yX5_isPlace := ⟨zGW_in 337 (by decide +kernel) (by decide +kernel), zGW_in 338 (by decide +kernel) (by decide +kernel)⟩
theorem kcX5_82 : Cond.constant RX5 82 1000000 ∈ zGW := zGW_in 340 (by decide +kernel) (by decide +kernel)
theorem lkX5_83 : zLs RX5 83 yX5_isWithin := ⟨zGW_in 341 (by decide +kernel) (by decide +kernel), zGW_in 342 (by decide +kernel) (by decide +kernel)⟩
theorem lkX5_87 : zLv RX5 87 yX1_entryAt := ⟨zGW_in 344 (by decide +kernel) (by decide +kernel), zGW_in 345 (by decide +kernel) (by decide +kernel), zGW_in 346 (by decide +kernel) (by decide +kernel)⟩
theorem lkX5_91 : zLv RX5 91 yX1_changeEntry := ⟨zGW_in 348 (by decide +kernel) (by decide +kernel), zGW_in 349 (by decide +kernel) (by decide +kernel), zGW_in 350 (by decide +kernel) (by decide +kernel)⟩
theorem lkX1_67 : zLv RX1 67 yX1_cutBlock := ⟨zGW_in 352 (by decide +kernel) (by decide +kernel), zGW_in 354 (by decide +kernel) (by decide +kernel), zGW_in 13 (by decide +kernel) (by decide +kernel)⟩
theorem nkX1_75 : zNs RX1 75 yX5_firstOf := ⟨zNW_in 356 (by decide +kernel) (by decide +kernel), zGW_in 357 (by decide +kernel) (by decide +kernel)⟩
theorem lkX5_115 : zLs RX5 115 yX5_sizeAt := ⟨zGW_in 359 (by decide +kernel) (by decide +kernel), zGW_in 240 (by decide +kernel) (by decide +kernel)⟩
theorem lkL_23 : zLv RL 23 yX5_shrink := ⟨zGW_in 360 (by decide +kernel) (by decide +kernel), zGW_in 361 (by decide +kernel) (by decide +kernel), zGW_in 362 (by decide +kernel) (by decide +kernel)⟩
theorem lkX5_95 : zLv RX5 95 yX1_makeSmaller := ⟨zGW_in 364 (by decide +kernel) (by decide +kernel), zGW_in 365 (by decide +kernel) (by decide +kernel), zGW_in 366 (by decide +kernel) (by decide +kernel)⟩
theorem lkX1_81 : zLv RX1 81 yX1_makeSmallerFrom := ⟨zGW_in 368 (by decide +kernel) (by decide +kernel), zGW_in 370 (by decide +kernel) (by decide +kernel), zGW_in 14 (by decide +kernel) (by decide +kernel)⟩
theorem lkX1_84 : zLv RX1 84 yX1_makePartsSmaller := ⟨zGW_in 372 (by decide +kernel) (by decide +kernel), zGW_in 374 (by decide +kernel) (by decide +kernel), zGW_in 15 (by decide +kernel) (by decide +kernel)⟩
theorem lkX1_87 : zLv RX1 87 yX1_toldByOne := ⟨zGW_in 376 (by decide +kernel) (by decide +kernel), zGW_in 377 (by decide +kernel) (by decide +kernel), zGW_in 378 (by decide +kernel) (by decide +kernel)⟩
theorem lkX1_90 : zLv RX1 90 yX1_firstFilledRow := ⟨zGW_in 380 (by decide +kernel) (by decide +kernel), zGW_in 382 (by decide +kernel) (by decide +kernel), zGW_in 16 (by decide +kernel) (by decide +kernel)⟩
theorem lkX1_93 : zLv RX1 93 yX1_firstFilledColumn := ⟨zGW_in 384 (by decide +kernel) (by decide +kernel), zGW_in 386 (by decide +kernel) (by decide +kernel), zGW_in 17 (by decide +kernel) (by decide +kernel)⟩
theorem lkX1_96 : zLv RX1 96 yX1_entryAt := ⟨zGW_in 388 (by decide +kernel) (by decide +kernel), zGW_in 345 (by decide +kernel) (by decide +kernel), zGW_in 346 (by decide +kernel) (by decide +kernel)⟩
theorem lkL_27 : zLv RL 27 yX5_add := ⟨zGW_in 389 (by decide +kernel) (by decide +kernel), zGW_in 390 (by decide +kernel) (by decide +kernel), zGW_in 391 (by decide +kernel) (by decide +kernel)⟩
theorem lkX5_98 : zLv RX5 98 yX1_join := ⟨zGW_in 393 (by decide +kernel) (by decide +kernel), zGW_in 394 (by decide +kernel) (by decide +kernel), zGW_in 395 (by decide +kernel) (by decide +kernel)⟩
theorem lkX1_99 : zLv RX1 99 yX1_joinFrom := ⟨zGW_in 397 (by decide +kernel) (by decide +kernel), zGW_in 399 (by decide +kernel) (by decide +kernel), zGW_in 18 (by decide +kernel) (by decide +kernel)⟩
theorem lkX1_103 : zLv RX1 103 yX1_joinEntries := ⟨zGW_in 401 (by decide +kernel) (by decide +kernel), zGW_in 403 (by decide +kernel) (by decide +kernel), zGW_in 19 (by decide +kernel) (by decide +kernel)⟩
theorem kcX1_106 : Cond.constant RX1 106 (-1000000) ∈ zGW := zGW_in 405 (by decide +kernel) (by decide +kernel)
theorem kcX1_107 : Cond.constant RX1 107 1000000 ∈ zGW := zGW_in 406 (by decide +kernel) (by decide +kernel)
theorem lmX1_108 : Cond.methodLink RX1 108 Lib.Math.min.name ∈ zGW ∧ Cond.static Lib.Math.min.name ∈ zGW ∧ Cond.initialized "java/lang/Math" ∈ zGW ∧ Cond.code Lib.Math.min.name Lib.Math.min.code 2 (some .int) ∈ zGW := ⟨zGW_in 407 (by decide +kernel) (by decide +kernel), zGW_in 271 (by decide +kernel) (by decide +kernel), zGW_in 70 (by decide +kernel) (by decide +kernel), zGW_in 272 (by decide +kernel) (by decide +kernel)⟩
theorem lmX1_46 : Cond.methodLink RX1 46 Lib.Math.max.name ∈ zGW ∧ Cond.static Lib.Math.max.name ∈ zGW ∧ Cond.initialized "java/lang/Math" ∈ zGW ∧ Cond.code Lib.Math.max.name Lib.Math.max.code 2 (some .int) ∈ zGW := ⟨zGW_in 408 (by decide +kernel) (by decide +kernel), zGW_in 409 (by decide +kernel) (by decide +kernel), zGW_in 70 (by decide +kernel) (by decide +kernel), zGW_in 410 (by decide +kernel) (by decide +kernel)⟩
theorem lkL_32 : zLv RL 32 yX5_turn := ⟨zGW_in 411 (by decide +kernel) (by decide +kernel), zGW_in 412 (by decide +kernel) (by decide +kernel), zGW_in 413 (by decide +kernel) (by decide +kernel)⟩
theorem lkX5_102 : zLv RX5 102 yX1_transpose := ⟨zGW_in 415 (by decide +kernel) (by decide +kernel), zGW_in 416 (by decide +kernel) (by decide +kernel), zGW_in 417 (by decide +kernel) (by decide +kernel)⟩
theorem lkX1_111 : zLs RX1 111 yX1_swap := ⟨zGW_in 419 (by decide +kernel) (by decide +kernel), zGW_in 420 (by decide +kernel) (by decide +kernel)⟩
theorem lkX1_115 : zLv RX1 115 yX1_transposeSorts := ⟨zGW_in 422 (by decide +kernel) (by decide +kernel), zGW_in 424 (by decide +kernel) (by decide +kernel), zGW_in 20 (by decide +kernel) (by decide +kernel)⟩
theorem lkX5_105 : zLv RX5 105 yX1_trace := ⟨zGW_in 426 (by decide +kernel) (by decide +kernel), zGW_in 427 (by decide +kernel) (by decide +kernel), zGW_in 428 (by decide +kernel) (by decide +kernel)⟩
theorem kcX5_108 : Cond.constant RX5 108 100000000 ∈ zGW := zGW_in 430 (by decide +kernel) (by decide +kernel)
theorem lkL_36 : zLv RL 36 yX5_copy := ⟨zGW_in 431 (by decide +kernel) (by decide +kernel), zGW_in 432 (by decide +kernel) (by decide +kernel), zGW_in 433 (by decide +kernel) (by decide +kernel)⟩
theorem lkL_41 : zLv RL 41 yX5_clear := ⟨zGW_in 435 (by decide +kernel) (by decide +kernel), zGW_in 436 (by decide +kernel) (by decide +kernel), zGW_in 437 (by decide +kernel) (by decide +kernel)⟩
theorem lkX5_109 : zLv RX5 109 yX1_emptyBlockOf := ⟨zGW_in 439 (by decide +kernel) (by decide +kernel), zGW_in 440 (by decide +kernel) (by decide +kernel), zGW_in 441 (by decide +kernel) (by decide +kernel)⟩
theorem lkX1_43 : zLv RX1 43 yX1_depthOf := ⟨zGW_in 443 (by decide +kernel) (by decide +kernel), zGW_in 444 (by decide +kernel) (by decide +kernel), zGW_in 445 (by decide +kernel) (by decide +kernel)⟩
theorem lkX1_78 : zLv RX1 78 yX1_setEmpty := ⟨zGW_in 447 (by decide +kernel) (by decide +kernel), zGW_in 229 (by decide +kernel) (by decide +kernel), zGW_in 230 (by decide +kernel) (by decide +kernel)⟩
theorem lkL_45 : zLv RL 45 yX5_at := ⟨zGW_in 448 (by decide +kernel) (by decide +kernel), zGW_in 449 (by decide +kernel) (by decide +kernel), zGW_in 450 (by decide +kernel) (by decide +kernel)⟩
theorem lkL_49 : zLv RL 49 yX5_block := ⟨zGW_in 452 (by decide +kernel) (by decide +kernel), zGW_in 453 (by decide +kernel) (by decide +kernel), zGW_in 454 (by decide +kernel) (by decide +kernel)⟩
theorem lkX5_112 : zLv RX5 112 yX1_depthOf := ⟨zGW_in 456 (by decide +kernel) (by decide +kernel), zGW_in 444 (by decide +kernel) (by decide +kernel), zGW_in 445 (by decide +kernel) (by decide +kernel)⟩
theorem lkX5_119 : zLv RX5 119 yX1_sortOf := ⟨zGW_in 457 (by decide +kernel) (by decide +kernel), zGW_in 325 (by decide +kernel) (by decide +kernel), zGW_in 326 (by decide +kernel) (by decide +kernel)⟩
theorem lkX5_123 : zLs RX5 123 yX5_firstOf := ⟨zGW_in 458 (by decide +kernel) (by decide +kernel), zGW_in 357 (by decide +kernel) (by decide +kernel)⟩
theorem lkX5_126 : zLs RX5 126 yX5_roomOfUncut := ⟨zGW_in 459 (by decide +kernel) (by decide +kernel), zGW_in 329 (by decide +kernel) (by decide +kernel)⟩
theorem lkL_53 : zLv RL 53 yX5_of := ⟨zGW_in 460 (by decide +kernel) (by decide +kernel), zGW_in 461 (by decide +kernel) (by decide +kernel), zGW_in 462 (by decide +kernel) (by decide +kernel)⟩
theorem lkX5_129 : zLv RX5 129 yX1_deepest := ⟨zGW_in 464 (by decide +kernel) (by decide +kernel), zGW_in 465 (by decide +kernel) (by decide +kernel), zGW_in 466 (by decide +kernel) (by decide +kernel)⟩
theorem lkX5_132 : zLv RX5 132 yX1_blocksOf := ⟨zGW_in 468 (by decide +kernel) (by decide +kernel), zGW_in 469 (by decide +kernel) (by decide +kernel), zGW_in 470 (by decide +kernel) (by decide +kernel)⟩
theorem lkX1_63 : zLv RX1 63 yX1_blocksFrom := ⟨zGW_in 472 (by decide +kernel) (by decide +kernel), zGW_in 474 (by decide +kernel) (by decide +kernel), zGW_in 21 (by decide +kernel) (by decide +kernel)⟩
theorem lkX5_135 : zLv RX5 135 yX1_filledEntries := ⟨zGW_in 476 (by decide +kernel) (by decide +kernel), zGW_in 477 (by decide +kernel) (by decide +kernel), zGW_in 478 (by decide +kernel) (by decide +kernel)⟩
theorem lkX5_138 : zLv RX5 138 yX1_greatest := ⟨zGW_in 480 (by decide +kernel) (by decide +kernel), zGW_in 481 (by decide +kernel) (by decide +kernel), zGW_in 482 (by decide +kernel) (by decide +kernel)⟩
theorem lkX5_141 : zLv RX5 141 yX1_least := ⟨zGW_in 484 (by decide +kernel) (by decide +kernel), zGW_in 485 (by decide +kernel) (by decide +kernel), zGW_in 486 (by decide +kernel) (by decide +kernel)⟩
theorem lkX5_144 : zLv RX5 144 yX1_isItsTurned := ⟨zGW_in 488 (by decide +kernel) (by decide +kernel), zGW_in 489 (by decide +kernel) (by decide +kernel), zGW_in 490 (by decide +kernel) (by decide +kernel)⟩
theorem lkL_57 : zLv RL 57 yX5_product := ⟨zGW_in 492 (by decide +kernel) (by decide +kernel), zGW_in 493 (by decide +kernel) (by decide +kernel), zGW_in 494 (by decide +kernel) (by decide +kernel)⟩
theorem kcX5_147 : Cond.constantLong RX5 147 (-1000000000000) ∈ zGW := zGW_in 496 (by decide +kernel) (by decide +kernel)
theorem lkL_62 : zLv RL 62 yX5_mean := ⟨zGW_in 497 (by decide +kernel) (by decide +kernel), zGW_in 498 (by decide +kernel) (by decide +kernel), zGW_in 499 (by decide +kernel) (by decide +kernel)⟩
theorem lkX5_149 : zLv RX5 149 yX1_sum := ⟨zGW_in 501 (by decide +kernel) (by decide +kernel), zGW_in 502 (by decide +kernel) (by decide +kernel), zGW_in 503 (by decide +kernel) (by decide +kernel)⟩
theorem lkX5_152 : zLs RX5 152 yX5_bitsOfPart := ⟨zGW_in 505 (by decide +kernel) (by decide +kernel), zGW_in 506 (by decide +kernel) (by decide +kernel)⟩
theorem lmX5_210 : Cond.methodLink RX5 210 Lib.MathLoose.abs_long.x ∈ zGW ∧ Cond.static Lib.MathLoose.abs_long.x ∈ zGW ∧ Cond.initialized "java/lang/Math" ∈ zGW ∧ Cond.code Lib.MathLoose.abs_long.x Lib.MathLoose.abs_long.code 2 (some .long) ∈ zGW := ⟨zGW_in 508 (by decide +kernel) (by decide +kernel), zGW_in 509 (by decide +kernel) (by decide +kernel), zGW_in 70 (by decide +kernel) (by decide +kernel), zGW_in 510 (by decide +kernel) (by decide +kernel)⟩
theorem lkX5_216 : zLs RX5 216 yX5_highestBit := ⟨zGW_in 511 (by decide +kernel) (by decide +kernel), zGW_in 512 (by decide +kernel) (by decide +kernel)⟩
theorem kcX5_219 : Cond.constantLong RX5 219 (-9223372036854775808) ∈ zGW := zGW_in 514 (by decide +kernel) (by decide +kernel)
theorem lkL_67 : zLv RL 67 yX5_share := ⟨zGW_in 515 (by decide +kernel) (by decide +kernel), zGW_in 516 (by decide +kernel) (by decide +kernel), zGW_in 517 (by decide +kernel) (by decide +kernel)⟩
theorem lkL_71 : zLv RL 71 yX5_count := ⟨zGW_in 519 (by decide +kernel) (by decide +kernel), zGW_in 520 (by decide +kernel) (by decide +kernel), zGW_in 521 (by decide +kernel) (by decide +kernel)⟩
theorem lkX5_156 : zLv RX5 156 yX4_room := ⟨zGW_in 523 (by decide +kernel) (by decide +kernel), zGW_in 524 (by decide +kernel) (by decide +kernel), zGW_in 525 (by decide +kernel) (by decide +kernel)⟩
theorem lkX4_26 : zLv RX4 26 yX1_room := ⟨zGW_in 527 (by decide +kernel) (by decide +kernel), zGW_in 313 (by decide +kernel) (by decide +kernel), zGW_in 314 (by decide +kernel) (by decide +kernel)⟩
theorem lkX5_157 : zLv RX5 157 yX4_emptyOnes := ⟨zGW_in 528 (by decide +kernel) (by decide +kernel), zGW_in 529 (by decide +kernel) (by decide +kernel), zGW_in 530 (by decide +kernel) (by decide +kernel)⟩
theorem lkX4_30 : zLv RX4 30 yX1_sortOf := ⟨zGW_in 532 (by decide +kernel) (by decide +kernel), zGW_in 325 (by decide +kernel) (by decide +kernel), zGW_in 326 (by decide +kernel) (by decide +kernel)⟩
theorem lkL_75 : zLv RL 75 yX5_far := ⟨zGW_in 533 (by decide +kernel) (by decide +kernel), zGW_in 534 (by decide +kernel) (by decide +kernel), zGW_in 535 (by decide +kernel) (by decide +kernel)⟩
theorem lkX5_164 : zLv RX5 164 yX1_greatestDifference := ⟨zGW_in 537 (by decide +kernel) (by decide +kernel), zGW_in 538 (by decide +kernel) (by decide +kernel), zGW_in 539 (by decide +kernel) (by decide +kernel)⟩
theorem lmX1_119 : Cond.methodLink RX1 119 Lib.Math.abs.name ∈ zGW ∧ Cond.static Lib.Math.abs.name ∈ zGW ∧ Cond.initialized "java/lang/Math" ∈ zGW ∧ Cond.code Lib.Math.abs.name Lib.Math.abs.code 1 (some .int) ∈ zGW := ⟨zGW_in 541 (by decide +kernel) (by decide +kernel), zGW_in 542 (by decide +kernel) (by decide +kernel), zGW_in 70 (by decide +kernel) (by decide +kernel), zGW_in 543 (by decide +kernel) (by decide +kernel)⟩
theorem lkL_79 : zLv RL 79 yX5_wouldTake := ⟨zGW_in 544 (by decide +kernel) (by decide +kernel), zGW_in 545 (by decide +kernel) (by decide +kernel), zGW_in 546 (by decide +kernel) (by decide +kernel)⟩
theorem lkL_83 : zLv RL 83 yX5_isOne := ⟨zGW_in 548 (by decide +kernel) (by decide +kernel), zGW_in 549 (by decide +kernel) (by decide +kernel), zGW_in 550 (by decide +kernel) (by decide +kernel)⟩
theorem lkX5_168 : zLs RX5 168 yX5_isSquareEdge := ⟨zGW_in 552 (by decide +kernel) (by decide +kernel), zGW_in 553 (by decide +kernel) (by decide +kernel)⟩
theorem lkX5_171 : zLv RX5 171 yX1_toldByOne := ⟨zGW_in 555 (by decide +kernel) (by decide +kernel), zGW_in 377 (by decide +kernel) (by decide +kernel), zGW_in 378 (by decide +kernel) (by decide +kernel)⟩
theorem lkL_87 : zLv RL 87 yX5_bestTimes := ⟨zGW_in 556 (by decide +kernel) (by decide +kernel), zGW_in 557 (by decide +kernel) (by decide +kernel), zGW_in 558 (by decide +kernel) (by decide +kernel)⟩
theorem lkX5_174 : zLv RX5 174 yX5_countZeros := ⟨zGW_in 560 (by decide +kernel) (by decide +kernel), zGW_in 562 (by decide +kernel) (by decide +kernel), zGW_in 22 (by decide +kernel) (by decide +kernel)⟩
theorem lkL_93 : zLv RL 93 yX5_put := ⟨zGW_in 564 (by decide +kernel) (by decide +kernel), zGW_in 565 (by decide +kernel) (by decide +kernel), zGW_in 566 (by decide +kernel) (by decide +kernel)⟩
theorem lkX5_178 : zLs RX5 178 yX5_signsIn := ⟨zGW_in 568 (by decide +kernel) (by decide +kernel), zGW_in 569 (by decide +kernel) (by decide +kernel)⟩
theorem kcX5_182 : Cond.constantLong RX5 182 255 ∈ zGW := zGW_in 571 (by decide +kernel) (by decide +kernel)
theorem kcX5_221 : Cond.constantLong RX5 221 33 ∈ zGW := zGW_in 572 (by decide +kernel) (by decide +kernel)
theorem kcX5_223 : Cond.constantLong RX5 223 126 ∈ zGW := zGW_in 573 (by decide +kernel) (by decide +kernel)
theorem lkX5_184 : zLv RX5 184 yX2_append := ⟨zGW_in 574 (by decide +kernel) (by decide +kernel), zGW_in 575 (by decide +kernel) (by decide +kernel), zGW_in 576 (by decide +kernel) (by decide +kernel)⟩
theorem lkL_98 : zLv RL 98 yX5_wipe := ⟨zGW_in 578 (by decide +kernel) (by decide +kernel), zGW_in 579 (by decide +kernel) (by decide +kernel), zGW_in 580 (by decide +kernel) (by decide +kernel)⟩
theorem lkL_103 : zLv RL 103 yX5_fault := ⟨zGW_in 582 (by decide +kernel) (by decide +kernel), zGW_in 583 (by decide +kernel) (by decide +kernel), zGW_in 584 (by decide +kernel) (by decide +kernel)⟩
theorem lkL_107 : zLv RL 107 yX5_undo := ⟨zGW_in 586 (by decide +kernel) (by decide +kernel), zGW_in 587 (by decide +kernel) (by decide +kernel), zGW_in 588 (by decide +kernel) (by decide +kernel)⟩
theorem lkX5_191 : zLv RX5 191 yX0_takeBack := ⟨zGW_in 590 (by decide +kernel) (by decide +kernel), zGW_in 591 (by decide +kernel) (by decide +kernel), zGW_in 592 (by decide +kernel) (by decide +kernel)⟩
theorem lkL_111 : zLv RL 111 yX5_save := ⟨zGW_in 594 (by decide +kernel) (by decide +kernel), zGW_in 595 (by decide +kernel) (by decide +kernel), zGW_in 596 (by decide +kernel) (by decide +kernel)⟩
theorem lkX5_195 : zLs RX5 195 yX5_isSlot := ⟨zGW_in 598 (by decide +kernel) (by decide +kernel), zGW_in 599 (by decide +kernel) (by decide +kernel)⟩
theorem lkX5_201 : zLv RX5 201 yX4_become := ⟨zGW_in 601 (by decide +kernel) (by decide +kernel), zGW_in 301 (by decide +kernel) (by decide +kernel), zGW_in 302 (by decide +kernel) (by decide +kernel)⟩
theorem lkL_115 : zLv RL 115 yX5_restore := ⟨zGW_in 602 (by decide +kernel) (by decide +kernel), zGW_in 603 (by decide +kernel) (by decide +kernel), zGW_in 604 (by decide +kernel) (by decide +kernel)⟩
theorem klL_10 : Cond.classLink RL 10 RX6 ∈ zGW := zGW_in 606 (by decide +kernel) (by decide +kernel)
theorem lkL_12 : zLi RL 12 yX6_init := ⟨zGW_in 608 (by decide +kernel) (by decide +kernel), zGW_in 609 (by decide +kernel) (by decide +kernel), rfl⟩
theorem loX6_1 : Cond.methodLink RX6 1 objectInit ∈ zGW ∧ Cond.instanceMethod objectInit ∈ zGW ∧ Cond.code objectInit ⟨#[0xb1]⟩ 1 none ∈ zGW := ⟨zGW_in 611 (by decide +kernel) (by decide +kernel), zGW_in 80 (by decide +kernel) (by decide +kernel), zGW_in 81 (by decide +kernel) (by decide +kernel)⟩
theorem lfX6_41 : zFl RX6 41 6 0 := ⟨RX6, TX6, 18, rfl, by decide, zGW_in 612 (by decide +kernel) (by decide +kernel), inX6⟩
theorem lfX6_7 : zFl RX6 7 6 1 := ⟨RX6, TX6, 18, rfl, by decide, zGW_in 613 (by decide +kernel) (by decide +kernel), inX6⟩
theorem lfX6_13 : zFl RX6 13 6 2 := ⟨RX6, TX6, 18, rfl, by decide, zGW_in 614 (by decide +kernel) (by decide +kernel), inX6⟩
theorem lfX6_16 : zFl RX6 16 6 3 := ⟨RX6, TX6, 18, rfl, by decide, zGW_in 615 (by decide +kernel) (by decide +kernel), inX6⟩
theorem lfX6_53 : zFl RX6 53 6 4 := ⟨RX6, TX6, 18, rfl, by decide, zGW_in 616 (by decide +kernel) (by decide +kernel), inX6⟩
theorem lfX6_19 : zFl RX6 19 6 5 := ⟨RX6, TX6, 18, rfl, by decide, zGW_in 617 (by decide +kernel) (by decide +kernel), inX6⟩
theorem lfX6_22 : zFl RX6 22 6 6 := ⟨RX6, TX6, 18, rfl, by decide, zGW_in 618 (by decide +kernel) (by decide +kernel), inX6⟩
theorem lfX6_26 : zFl RX6 26 6 7 := ⟨RX6, TX6, 18, rfl, by decide, zGW_in 619 (by decide +kernel) (by decide +kernel), inX6⟩
theorem lfX6_115 : zFl RX6 115 6 8 := ⟨RX6, TX6, 18, rfl, by decide, zGW_in 620 (by decide +kernel) (by decide +kernel), inX6⟩
theorem lfX6_195 : zFl RX6 195 6 9 := ⟨RX6, TX6, 18, rfl, by decide, zGW_in 621 (by decide +kernel) (by decide +kernel), inX6⟩
theorem lfX6_198 : zFl RX6 198 6 10 := ⟨RX6, TX6, 18, rfl, by decide, zGW_in 622 (by decide +kernel) (by decide +kernel), inX6⟩
theorem lfX6_29 : zFl RX6 29 6 11 := ⟨RX6, TX6, 18, rfl, by decide, zGW_in 623 (by decide +kernel) (by decide +kernel), inX6⟩
theorem lfX6_32 : zFl RX6 32 6 12 := ⟨RX6, TX6, 18, rfl, by decide, zGW_in 624 (by decide +kernel) (by decide +kernel), inX6⟩
theorem lfX6_35 : zFl RX6 35 6 13 := ⟨RX6, TX6, 18, rfl, by decide, zGW_in 625 (by decide +kernel) (by decide +kernel), inX6⟩
theorem lfX6_211 : zFl RX6 211 6 14 := ⟨RX6, TX6, 18, rfl, by decide, zGW_in 626 (by decide +kernel) (by decide +kernel), inX6⟩
theorem lfX6_214 : zFl RX6 214 6 15 := ⟨RX6, TX6, 18, rfl, by decide, zGW_in 627 (by decide +kernel) (by decide +kernel), inX6⟩
theorem lfX6_217 : zFl RX6 217 6 16 := ⟨RX6, TX6, 18, rfl, by decide, zGW_in 628 (by decide +kernel) (by decide +kernel), inX6⟩
theorem lfX6_38 : zFl RX6 38 6 17 := ⟨RX6, TX6, 18, rfl, by decide, zGW_in 629 (by decide +kernel) (by decide +kernel), inX6⟩
theorem lkL_17 : zLv RL 17 yX6_tell := ⟨zGW_in 668 (by decide +kernel) (by decide +kernel), zGW_in 669 (by decide +kernel) (by decide +kernel), zGW_in 670 (by decide +kernel) (by decide +kernel)⟩
theorem lkX6_104 : zLs RX6 104 yX6_isMatrix := ⟨zGW_in 672 (by decide +kernel) (by decide +kernel), zGW_in 673 (by decide +kernel) (by decide +kernel)⟩
theorem lkX6_45 : zLs RX6 45 yX6_in := ⟨zGW_in 675 (by decide +kernel) (by decide +kernel), zGW_in 676 (by decide +kernel) (by decide +kernel)⟩
theorem lkX6_108 : zLv RX6 108 yX6_reads := ⟨zGW_in 678 (by decide +kernel) (by decide +kernel), zGW_in 680 (by decide +kernel) (by decide +kernel), zGW_in 23 (by decide +kernel) (by decide +kernel)⟩
theorem lkX6_202 : zLv RX6 202 yX6_letter := ⟨zGW_in 682 (by decide +kernel) (by decide +kernel), zGW_in 684 (by decide +kernel) (by decide +kernel), zGW_in 24 (by decide +kernel) (by decide +kernel)⟩
theorem lkX6_233 : zLv RX6 233 yX6_goesDown := ⟨zGW_in 686 (by decide +kernel) (by decide +kernel), zGW_in 688 (by decide +kernel) (by decide +kernel), zGW_in 25 (by decide +kernel) (by decide +kernel)⟩
theorem lkX6_49 : zLs RX6 49 yX6_node := ⟨zGW_in 690 (by decide +kernel) (by decide +kernel), zGW_in 691 (by decide +kernel) (by decide +kernel)⟩
theorem lkX6_236 : zLv RX6 236 yX6_readsBlock := ⟨zGW_in 693 (by decide +kernel) (by decide +kernel), zGW_in 695 (by decide +kernel) (by decide +kernel), zGW_in 26 (by decide +kernel) (by decide +kernel)⟩
theorem lkX6_67 : zLs RX6 67 yX6_sizeAt := ⟨zGW_in 697 (by decide +kernel) (by decide +kernel), zGW_in 698 (by decide +kernel) (by decide +kernel)⟩
theorem lkX6_220 : zLv RX6 220 yX6_laysRead := ⟨zGW_in 700 (by decide +kernel) (by decide +kernel), zGW_in 702 (by decide +kernel) (by decide +kernel), zGW_in 27 (by decide +kernel) (by decide +kernel)⟩
theorem lkX6_208 : zLv RX6 208 yX6_value := ⟨zGW_in 704 (by decide +kernel) (by decide +kernel), zGW_in 706 (by decide +kernel) (by decide +kernel), zGW_in 28 (by decide +kernel) (by decide +kernel)⟩
theorem lkX6_205 : zLv RX6 205 yX6_number := ⟨zGW_in 708 (by decide +kernel) (by decide +kernel), zGW_in 710 (by decide +kernel) (by decide +kernel), zGW_in 29 (by decide +kernel) (by decide +kernel)⟩
theorem lkX6_223 : zLv RX6 223 yX6_keepsValues := ⟨zGW_in 712 (by decide +kernel) (by decide +kernel), zGW_in 714 (by decide +kernel) (by decide +kernel), zGW_in 30 (by decide +kernel) (by decide +kernel)⟩
theorem lkX6_227 : zLv RX6 227 yX6_readsValues := ⟨zGW_in 716 (by decide +kernel) (by decide +kernel), zGW_in 718 (by decide +kernel) (by decide +kernel), zGW_in 31 (by decide +kernel) (by decide +kernel)⟩
theorem lkX6_230 : zLv RX6 230 yX6_wants := ⟨zGW_in 720 (by decide +kernel) (by decide +kernel), zGW_in 722 (by decide +kernel) (by decide +kernel), zGW_in 32 (by decide +kernel) (by decide +kernel)⟩
theorem lkX6_239 : zLv RX6 239 yX6_goesOn := ⟨zGW_in 724 (by decide +kernel) (by decide +kernel), zGW_in 726 (by decide +kernel) (by decide +kernel), zGW_in 33 (by decide +kernel) (by decide +kernel)⟩
theorem lkX6_112 : zLv RX6 112 yX6_counts := ⟨zGW_in 728 (by decide +kernel) (by decide +kernel), zGW_in 730 (by decide +kernel) (by decide +kernel), zGW_in 34 (by decide +kernel) (by decide +kernel)⟩
theorem lkX6_56 : zLv RX6 56 yX6_records := ⟨zGW_in 732 (by decide +kernel) (by decide +kernel), zGW_in 734 (by decide +kernel) (by decide +kernel), zGW_in 35 (by decide +kernel) (by decide +kernel)⟩
theorem lkX6_78 : zLv RX6 78 yX6_room := ⟨zGW_in 736 (by decide +kernel) (by decide +kernel), zGW_in 738 (by decide +kernel) (by decide +kernel), zGW_in 36 (by decide +kernel) (by decide +kernel)⟩
theorem lkX6_75 : zLv RX6 75 yX6_roomFrom := ⟨zGW_in 740 (by decide +kernel) (by decide +kernel), zGW_in 742 (by decide +kernel) (by decide +kernel), zGW_in 37 (by decide +kernel) (by decide +kernel)⟩
theorem lkX6_63 : zLv RX6 63 yX6_isThere := ⟨zGW_in 744 (by decide +kernel) (by decide +kernel), zGW_in 746 (by decide +kernel) (by decide +kernel), zGW_in 38 (by decide +kernel) (by decide +kernel)⟩
theorem lkX6_59 : zLv RX6 59 yX6_sort := ⟨zGW_in 748 (by decide +kernel) (by decide +kernel), zGW_in 750 (by decide +kernel) (by decide +kernel), zGW_in 39 (by decide +kernel) (by decide +kernel)⟩
theorem lkX6_71 : zLs RX6 71 yX6_roomOf := ⟨zGW_in 752 (by decide +kernel) (by decide +kernel), zGW_in 753 (by decide +kernel) (by decide +kernel)⟩
theorem lkL_22 : zLv RL 22 yX6_entry := ⟨zGW_in 755 (by decide +kernel) (by decide +kernel), zGW_in 756 (by decide +kernel) (by decide +kernel), zGW_in 757 (by decide +kernel) (by decide +kernel)⟩
theorem lkX6_118 : zLs RX6 118 yX6_isPlace := ⟨zGW_in 759 (by decide +kernel) (by decide +kernel), zGW_in 760 (by decide +kernel) (by decide +kernel)⟩
theorem kcX6_122 : Cond.constant RX6 122 (-1000000) ∈ zGW := zGW_in 762 (by decide +kernel) (by decide +kernel)
theorem kcX6_123 : Cond.constant RX6 123 1000000 ∈ zGW := zGW_in 763 (by decide +kernel) (by decide +kernel)
theorem lkX6_124 : zLv RX6 124 yX6_cuts := ⟨zGW_in 764 (by decide +kernel) (by decide +kernel), zGW_in 766 (by decide +kernel) (by decide +kernel), zGW_in 40 (by decide +kernel) (by decide +kernel)⟩
theorem lkX6_96 : zLv RX6 96 yX6_sorts := ⟨zGW_in 768 (by decide +kernel) (by decide +kernel), zGW_in 770 (by decide +kernel) (by decide +kernel), zGW_in 41 (by decide +kernel) (by decide +kernel)⟩
theorem lkX6_81 : zLv RX6 81 yX6_get := ⟨zGW_in 772 (by decide +kernel) (by decide +kernel), zGW_in 774 (by decide +kernel) (by decide +kernel), zGW_in 42 (by decide +kernel) (by decide +kernel)⟩
theorem lkX6_127 : zLv RX6 127 yX6_lay := ⟨zGW_in 776 (by decide +kernel) (by decide +kernel), zGW_in 778 (by decide +kernel) (by decide +kernel), zGW_in 43 (by decide +kernel) (by decide +kernel)⟩
theorem lkL_26 : zLv RL 26 yX6_shrink := ⟨zGW_in 780 (by decide +kernel) (by decide +kernel), zGW_in 781 (by decide +kernel) (by decide +kernel), zGW_in 782 (by decide +kernel) (by decide +kernel)⟩
theorem lkX6_130 : zLv RX6 130 yX6_shrinks := ⟨zGW_in 784 (by decide +kernel) (by decide +kernel), zGW_in 786 (by decide +kernel) (by decide +kernel), zGW_in 44 (by decide +kernel) (by decide +kernel)⟩
theorem lkX6_100 : zLv RX6 100 yX6_shrinksBlock := ⟨zGW_in 788 (by decide +kernel) (by decide +kernel), zGW_in 790 (by decide +kernel) (by decide +kernel), zGW_in 45 (by decide +kernel) (by decide +kernel)⟩
theorem lkX6_90 : zLv RX6 90 yX6_oneness := ⟨zGW_in 792 (by decide +kernel) (by decide +kernel), zGW_in 794 (by decide +kernel) (by decide +kernel), zGW_in 46 (by decide +kernel) (by decide +kernel)⟩
theorem lkX6_84 : zLv RX6 84 yX6_firstRow := ⟨zGW_in 796 (by decide +kernel) (by decide +kernel), zGW_in 798 (by decide +kernel) (by decide +kernel), zGW_in 47 (by decide +kernel) (by decide +kernel)⟩
theorem lkX6_87 : zLv RX6 87 yX6_firstColumn := ⟨zGW_in 800 (by decide +kernel) (by decide +kernel), zGW_in 802 (by decide +kernel) (by decide +kernel), zGW_in 48 (by decide +kernel) (by decide +kernel)⟩
theorem lkX6_93 : zLv RX6 93 yX6_areEmpty := ⟨zGW_in 804 (by decide +kernel) (by decide +kernel), zGW_in 806 (by decide +kernel) (by decide +kernel), zGW_in 49 (by decide +kernel) (by decide +kernel)⟩
theorem lkL_31 : zLv RL 31 yX6_add := ⟨zGW_in 808 (by decide +kernel) (by decide +kernel), zGW_in 809 (by decide +kernel) (by decide +kernel), zGW_in 810 (by decide +kernel) (by decide +kernel)⟩
theorem lkX6_141 : zLv RX6 141 yX6_addsBlock := ⟨zGW_in 812 (by decide +kernel) (by decide +kernel), zGW_in 814 (by decide +kernel) (by decide +kernel), zGW_in 50 (by decide +kernel) (by decide +kernel)⟩
theorem lkX6_137 : zLv RX6 137 yX6_addsSquare := ⟨zGW_in 816 (by decide +kernel) (by decide +kernel), zGW_in 818 (by decide +kernel) (by decide +kernel), zGW_in 51 (by decide +kernel) (by decide +kernel)⟩
theorem lkX6_134 : zLs RX6 134 yX6_bounded := ⟨zGW_in 820 (by decide +kernel) (by decide +kernel), zGW_in 821 (by decide +kernel) (by decide +kernel)⟩
theorem lkL_35 : zLv RL 35 yX6_turn := ⟨zGW_in 823 (by decide +kernel) (by decide +kernel), zGW_in 824 (by decide +kernel) (by decide +kernel), zGW_in 825 (by decide +kernel) (by decide +kernel)⟩
theorem lkX6_144 : zLv RX6 144 yX6_swaps := ⟨zGW_in 827 (by decide +kernel) (by decide +kernel), zGW_in 829 (by decide +kernel) (by decide +kernel), zGW_in 52 (by decide +kernel) (by decide +kernel)⟩
theorem lkX6_148 : zLv RX6 148 yX6_trace := ⟨zGW_in 831 (by decide +kernel) (by decide +kernel), zGW_in 833 (by decide +kernel) (by decide +kernel), zGW_in 53 (by decide +kernel) (by decide +kernel)⟩
theorem kcX6_151 : Cond.constant RX6 151 100000000 ∈ zGW := zGW_in 835 (by decide +kernel) (by decide +kernel)
theorem lkL_40 : zLv RL 40 yX6_copy := ⟨zGW_in 836 (by decide +kernel) (by decide +kernel), zGW_in 837 (by decide +kernel) (by decide +kernel), zGW_in 838 (by decide +kernel) (by decide +kernel)⟩
theorem lkL_44 : zLv RL 44 yX6_clear := ⟨zGW_in 840 (by decide +kernel) (by decide +kernel), zGW_in 841 (by decide +kernel) (by decide +kernel), zGW_in 842 (by decide +kernel) (by decide +kernel)⟩
theorem lkX6_152 : zLv RX6 152 yX6_depthAt := ⟨zGW_in 844 (by decide +kernel) (by decide +kernel), zGW_in 846 (by decide +kernel) (by decide +kernel), zGW_in 54 (by decide +kernel) (by decide +kernel)⟩
theorem lkL_48 : zLv RL 48 yX6_at := ⟨zGW_in 848 (by decide +kernel) (by decide +kernel), zGW_in 849 (by decide +kernel) (by decide +kernel), zGW_in 850 (by decide +kernel) (by decide +kernel)⟩
theorem lkL_52 : zLv RL 52 yX6_block := ⟨zGW_in 852 (by decide +kernel) (by decide +kernel), zGW_in 853 (by decide +kernel) (by decide +kernel), zGW_in 854 (by decide +kernel) (by decide +kernel)⟩
theorem lkL_56 : zLv RL 56 yX6_of := ⟨zGW_in 856 (by decide +kernel) (by decide +kernel), zGW_in 857 (by decide +kernel) (by decide +kernel), zGW_in 858 (by decide +kernel) (by decide +kernel)⟩
theorem lkX6_155 : zLv RX6 155 yX6_overBlocks := ⟨zGW_in 860 (by decide +kernel) (by decide +kernel), zGW_in 862 (by decide +kernel) (by decide +kernel), zGW_in 55 (by decide +kernel) (by decide +kernel)⟩
theorem lkX6_158 : zLv RX6 158 yX6_overEntries := ⟨zGW_in 864 (by decide +kernel) (by decide +kernel), zGW_in 866 (by decide +kernel) (by decide +kernel), zGW_in 56 (by decide +kernel) (by decide +kernel)⟩
theorem lkL_61 : zLv RL 61 yX6_product := ⟨zGW_in 868 (by decide +kernel) (by decide +kernel), zGW_in 869 (by decide +kernel) (by decide +kernel), zGW_in 870 (by decide +kernel) (by decide +kernel)⟩
theorem kcX6_161 : Cond.constantLong RX6 161 (-1000000000000) ∈ zGW := zGW_in 872 (by decide +kernel) (by decide +kernel)
theorem lkL_66 : zLv RL 66 yX6_mean := ⟨zGW_in 873 (by decide +kernel) (by decide +kernel), zGW_in 874 (by decide +kernel) (by decide +kernel), zGW_in 875 (by decide +kernel) (by decide +kernel)⟩
theorem kcX6_163 : Cond.constantDouble RX6 163 4643211215818981376 ∈ zGW := zGW_in 877 (by decide +kernel) (by decide +kernel)
theorem lkX6_165 : zLs RX6 165 yJxe99ae_doubleToLongBits_ccdee := ⟨zGW_in 878 (by decide +kernel) (by decide +kernel), zGW_in 879 (by decide +kernel) (by decide +kernel)⟩
theorem lkJxe99ae_122 : zLs RJxe99ae 122 yJxe99ae_isNaN_b9ae7 := ⟨zGW_in 881 (by decide +kernel) (by decide +kernel), zGW_in 882 (by decide +kernel) (by decide +kernel)⟩
theorem kcJxe99ae_137 : Cond.constantLong RJxe99ae 137 9221120237041090560 ∈ zGW := zGW_in 887 (by decide +kernel) (by decide +kernel)
theorem lkL_70 : zLv RL 70 yX6_share := ⟨zGW_in 888 (by decide +kernel) (by decide +kernel), zGW_in 889 (by decide +kernel) (by decide +kernel), zGW_in 890 (by decide +kernel) (by decide +kernel)⟩
theorem kcX6_171 : Cond.constantFloat RX6 171 1132462080 ∈ zGW := zGW_in 892 (by decide +kernel) (by decide +kernel)
theorem lkX6_172 : zLs RX6 172 yJxf58ca_floatToIntBits_5c35a := ⟨zGW_in 893 (by decide +kernel) (by decide +kernel), zGW_in 894 (by decide +kernel) (by decide +kernel)⟩
theorem lkJxf58ca_59 : zLs RJxf58ca 59 yJxf58ca_isNaN_12338 := ⟨zGW_in 896 (by decide +kernel) (by decide +kernel), zGW_in 897 (by decide +kernel) (by decide +kernel)⟩
theorem kcJxf58ca_77 : Cond.constant RJxf58ca 77 2143289344 ∈ zGW := zGW_in 902 (by decide +kernel) (by decide +kernel)
theorem lkL_74 : zLv RL 74 yX6_count := ⟨zGW_in 903 (by decide +kernel) (by decide +kernel), zGW_in 904 (by decide +kernel) (by decide +kernel), zGW_in 905 (by decide +kernel) (by decide +kernel)⟩
theorem lkX6_178 : zLv RX6 178 yX6_allRoom := ⟨zGW_in 907 (by decide +kernel) (by decide +kernel), zGW_in 909 (by decide +kernel) (by decide +kernel), zGW_in 57 (by decide +kernel) (by decide +kernel)⟩
theorem lkX6_181 : zLv RX6 181 yX6_emptyOnes := ⟨zGW_in 911 (by decide +kernel) (by decide +kernel), zGW_in 913 (by decide +kernel) (by decide +kernel), zGW_in 58 (by decide +kernel) (by decide +kernel)⟩
theorem lkL_78 : zLv RL 78 yX6_far := ⟨zGW_in 915 (by decide +kernel) (by decide +kernel), zGW_in 916 (by decide +kernel) (by decide +kernel), zGW_in 917 (by decide +kernel) (by decide +kernel)⟩
theorem lkL_82 : zLv RL 82 yX6_wouldTake := ⟨zGW_in 919 (by decide +kernel) (by decide +kernel), zGW_in 920 (by decide +kernel) (by decide +kernel), zGW_in 921 (by decide +kernel) (by decide +kernel)⟩
theorem lkX6_184 : zLv RX6 184 yX6_putAside := ⟨zGW_in 923 (by decide +kernel) (by decide +kernel), zGW_in 925 (by decide +kernel) (by decide +kernel), zGW_in 59 (by decide +kernel) (by decide +kernel)⟩
theorem lkX6_187 : zLv RX6 187 yX6_takeBack := ⟨zGW_in 927 (by decide +kernel) (by decide +kernel), zGW_in 929 (by decide +kernel) (by decide +kernel), zGW_in 60 (by decide +kernel) (by decide +kernel)⟩
theorem lkL_86 : zLv RL 86 yX6_isOne := ⟨zGW_in 931 (by decide +kernel) (by decide +kernel), zGW_in 932 (by decide +kernel) (by decide +kernel), zGW_in 933 (by decide +kernel) (by decide +kernel)⟩
theorem lkL_90 : zLv RL 90 yX6_bestTimes := ⟨zGW_in 935 (by decide +kernel) (by decide +kernel), zGW_in 936 (by decide +kernel) (by decide +kernel), zGW_in 937 (by decide +kernel) (by decide +kernel)⟩
theorem lkX6_190 : zLv RX6 190 yX6_zerosBy := ⟨zGW_in 939 (by decide +kernel) (by decide +kernel), zGW_in 941 (by decide +kernel) (by decide +kernel), zGW_in 61 (by decide +kernel) (by decide +kernel)⟩
theorem lkL_97 : zLv RL 97 yX6_put := ⟨zGW_in 943 (by decide +kernel) (by decide +kernel), zGW_in 944 (by decide +kernel) (by decide +kernel), zGW_in 945 (by decide +kernel) (by decide +kernel)⟩
theorem kcX6_193 : Cond.constantLong RX6 193 255 ∈ zGW := zGW_in 947 (by decide +kernel) (by decide +kernel)
theorem lkL_102 : zLv RL 102 yX6_wipe := ⟨zGW_in 948 (by decide +kernel) (by decide +kernel), zGW_in 949 (by decide +kernel) (by decide +kernel), zGW_in 950 (by decide +kernel) (by decide +kernel)⟩
theorem lkL_106 : zLv RL 106 yX6_fault := ⟨zGW_in 952 (by decide +kernel) (by decide +kernel), zGW_in 953 (by decide +kernel) (by decide +kernel), zGW_in 954 (by decide +kernel) (by decide +kernel)⟩
theorem lkL_110 : zLv RL 110 yX6_undo := ⟨zGW_in 956 (by decide +kernel) (by decide +kernel), zGW_in 957 (by decide +kernel) (by decide +kernel), zGW_in 958 (by decide +kernel) (by decide +kernel)⟩
theorem lkL_114 : zLv RL 114 yX6_save := ⟨zGW_in 960 (by decide +kernel) (by decide +kernel), zGW_in 961 (by decide +kernel) (by decide +kernel), zGW_in 962 (by decide +kernel) (by decide +kernel)⟩
theorem lkL_118 : zLv RL 118 yX6_restore := ⟨zGW_in 964 (by decide +kernel) (by decide +kernel), zGW_in 965 (by decide +kernel) (by decide +kernel), zGW_in 966 (by decide +kernel) (by decide +kernel)⟩
theorem kcL_91 : Cond.constantLong RL 91 4294967295 ∈ zGW := zGW_in 968 (by decide +kernel) (by decide +kernel)
