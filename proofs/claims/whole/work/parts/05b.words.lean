theorem wp_Jxe99ae_doubleToLongBits_ccdee : plainName yJxe99ae_doubleToLongBits_ccdee.cls = true := by decide +kernel
theorem wd_Jxe99ae_doubleToLongBits_ccdee : yJxe99ae_doubleToLongBits_ccdee.cls ≠ "java/lang/invoke/MethodHandle" ∧ yJxe99ae_doubleToLongBits_ccdee.cls ≠ "java/lang/invoke/VarHandle" ∧ (parseMethodDescriptor yJxe99ae_doubleToLongBits_ccdee.desc).map (fun d => d.parameters.length) = some 1 := by decide +kernel
theorem wt_Jxe99ae_doubleToLongBits_ccdee : Cond.static yJxe99ae_doubleToLongBits_ccdee ∈ lw_good ∧ Cond.initialized yJxe99ae_doubleToLongBits_ccdee.cls ∈ lw_good ∧ Cond.code yJxe99ae_doubleToLongBits_ccdee cJxe99ae_doubleToLongBits_ccdee 2 (some .long) ∈ lw_good := ⟨gm6 114 rfl rfl, gm1 17 rfl rfl, gm6 115 rfl rfl⟩
theorem wp_Jxe99ae_isNaN_b9ae7 : plainName yJxe99ae_isNaN_b9ae7.cls = true := by decide +kernel
theorem wd_Jxe99ae_isNaN_b9ae7 : yJxe99ae_isNaN_b9ae7.cls ≠ "java/lang/invoke/MethodHandle" ∧ yJxe99ae_isNaN_b9ae7.cls ≠ "java/lang/invoke/VarHandle" ∧ (parseMethodDescriptor yJxe99ae_isNaN_b9ae7.desc).map (fun d => d.parameters.length) = some 1 := by decide +kernel
theorem wt_Jxe99ae_isNaN_b9ae7 : Cond.static yJxe99ae_isNaN_b9ae7 ∈ lw_good ∧ Cond.initialized yJxe99ae_isNaN_b9ae7.cls ∈ lw_good ∧ Cond.code yJxe99ae_isNaN_b9ae7 cJxe99ae_isNaN_b9ae7 2 (some .boolean) ∈ lw_good := ⟨gm6 117 rfl rfl, gm1 17 rfl rfl, gm6 118 rfl rfl⟩
theorem wp_L_addGrower : plainName yL_addGrower.cls = true := by decide +kernel
theorem wd_L_addGrower : yL_addGrower.cls ≠ "java/lang/invoke/MethodHandle" ∧ yL_addGrower.cls ≠ "java/lang/invoke/VarHandle" ∧ (parseMethodDescriptor yL_addGrower.desc).map (fun d => d.parameters.length) = some 2 := by decide +kernel
theorem wt_L_addGrower : Cond.static yL_addGrower ∈ lw_good ∧ Cond.initialized yL_addGrower.cls ∈ lw_good ∧ Cond.codeWith yL_addGrower cL_addGrower 3 (some .int) [(0, 8, 11, 13)] ∈ lw_good := ⟨gm3 182 rfl rfl, gm1 0 rfl rfl, gm3 183 rfl rfl⟩
theorem wp_L_addLot : plainName yL_addLot.cls = true := by decide +kernel
theorem wd_L_addLot : yL_addLot.cls ≠ "java/lang/invoke/MethodHandle" ∧ yL_addLot.cls ≠ "java/lang/invoke/VarHandle" ∧ (parseMethodDescriptor yL_addLot.desc).map (fun d => d.parameters.length) = some 7 := by decide +kernel
theorem wt_L_addLot : Cond.static yL_addLot ∈ lw_good ∧ Cond.initialized yL_addLot.cls ∈ lw_good ∧ Cond.codeWith yL_addLot cL_addLot 8 (some .int) [(0, 16, 19, 19), (0, 16, 23, 21), (0, 16, 27, 13)] ∈ lw_good := ⟨gm3 206 rfl rfl, gm1 0 rfl rfl, gm3 207 rfl rfl⟩
theorem wp_L_addSlips : plainName yL_addSlips.cls = true := by decide +kernel
theorem wd_L_addSlips : yL_addSlips.cls ≠ "java/lang/invoke/MethodHandle" ∧ yL_addSlips.cls ≠ "java/lang/invoke/VarHandle" ∧ (parseMethodDescriptor yL_addSlips.desc).map (fun d => d.parameters.length) = some 2 := by decide +kernel
theorem wt_L_addSlips : Cond.static yL_addSlips ∈ lw_good ∧ Cond.initialized yL_addSlips.cls ∈ lw_good ∧ Cond.codeWith yL_addSlips cL_addSlips 3 (some .int) [(0, 8, 11, 21)] ∈ lw_good := ⟨gm4 90 rfl rfl, gm1 0 rfl rfl, gm4 91 rfl rfl⟩
theorem wp_L_addTank : plainName yL_addTank.cls = true := by decide +kernel
theorem wd_L_addTank : yL_addTank.cls ≠ "java/lang/invoke/MethodHandle" ∧ yL_addTank.cls ≠ "java/lang/invoke/VarHandle" ∧ (parseMethodDescriptor yL_addTank.desc).map (fun d => d.parameters.length) = some 3 := by decide +kernel
theorem wt_L_addTank : Cond.static yL_addTank ∈ lw_good ∧ Cond.initialized yL_addTank.cls ∈ lw_good ∧ Cond.codeWith yL_addTank cL_addTank 4 (some .int) [(0, 9, 12, 21), (0, 9, 15, 13)] ∈ lw_good := ⟨gm3 222 rfl rfl, gm1 0 rfl rfl, gm3 223 rfl rfl⟩
theorem wp_L_appeal : plainName yL_appeal.cls = true := by decide +kernel
theorem wd_L_appeal : yL_appeal.cls ≠ "java/lang/invoke/MethodHandle" ∧ yL_appeal.cls ≠ "java/lang/invoke/VarHandle" ∧ (parseMethodDescriptor yL_appeal.desc).map (fun d => d.parameters.length) = some 3 := by decide +kernel
theorem wt_L_appeal : Cond.static yL_appeal ∈ lw_good ∧ Cond.initialized yL_appeal.cls ∈ lw_good ∧ Cond.codeWith yL_appeal cL_appeal 4 (some .int) [(0, 9, 12, 19), (0, 9, 15, 13)] ∈ lw_good := ⟨gm4 32 rfl rfl, gm1 0 rfl rfl, gm4 33 rfl rfl⟩
theorem wp_L_append : plainName yL_append.cls = true := by decide +kernel
theorem wd_L_append : yL_append.cls ≠ "java/lang/invoke/MethodHandle" ∧ yL_append.cls ≠ "java/lang/invoke/VarHandle" ∧ (parseMethodDescriptor yL_append.desc).map (fun d => d.parameters.length) = some 3 := by decide +kernel
theorem wt_L_append : Cond.static yL_append ∈ lw_good ∧ Cond.initialized yL_append.cls ∈ lw_good ∧ Cond.codeWith yL_append cL_append 4 (some .int) [(0, 9, 12, 21), (0, 9, 15, 13)] ∈ lw_good := ⟨gm4 81 rfl rfl, gm1 0 rfl rfl, gm4 82 rfl rfl⟩
theorem wp_L_count : plainName yL_count.cls = true := by decide +kernel
theorem wd_L_count : yL_count.cls ≠ "java/lang/invoke/MethodHandle" ∧ yL_count.cls ≠ "java/lang/invoke/VarHandle" ∧ (parseMethodDescriptor yL_count.desc).map (fun d => d.parameters.length) = some 3 := by decide +kernel
theorem wt_L_count : Cond.static yL_count ∈ lw_good ∧ Cond.initialized yL_count.cls ∈ lw_good ∧ Cond.codeWith yL_count cL_count 4 (some .int) [(0, 9, 12, 21)] ∈ lw_good := ⟨gm4 143 rfl rfl, gm1 0 rfl rfl, gm4 144 rfl rfl⟩
theorem wp_L_draw : plainName yL_draw.cls = true := by decide +kernel
theorem wd_L_draw : yL_draw.cls ≠ "java/lang/invoke/MethodHandle" ∧ yL_draw.cls ≠ "java/lang/invoke/VarHandle" ∧ (parseMethodDescriptor yL_draw.desc).map (fun d => d.parameters.length) = some 5 := by decide +kernel
theorem wt_L_draw : Cond.static yL_draw ∈ lw_good ∧ Cond.initialized yL_draw.cls ∈ lw_good ∧ Cond.codeWith yL_draw cL_draw 6 (some .int) [(0, 12, 15, 19), (0, 12, 19, 21), (0, 12, 23, 13)] ∈ lw_good := ⟨gm4 45 rfl rfl, gm1 0 rfl rfl, gm4 46 rfl rfl⟩
theorem wp_L_grower : plainName yL_grower.cls = true := by decide +kernel
theorem wd_L_grower : yL_grower.cls ≠ "java/lang/invoke/MethodHandle" ∧ yL_grower.cls ≠ "java/lang/invoke/VarHandle" ∧ (parseMethodDescriptor yL_grower.desc).map (fun d => d.parameters.length) = some 4 := by decide +kernel
theorem wt_L_grower : Cond.static yL_grower ∈ lw_good ∧ Cond.initialized yL_grower.cls ∈ lw_good ∧ Cond.codeWith yL_grower cL_grower 5 (some .int) [(0, 10, 13, 19), (0, 10, 17, 21)] ∈ lw_good := ⟨gm4 127 rfl rfl, gm1 0 rfl rfl, gm4 128 rfl rfl⟩
theorem wp_L_lossBy : plainName yL_lossBy.cls = true := by decide +kernel
theorem wd_L_lossBy : yL_lossBy.cls ≠ "java/lang/invoke/MethodHandle" ∧ yL_lossBy.cls ≠ "java/lang/invoke/VarHandle" ∧ (parseMethodDescriptor yL_lossBy.desc).map (fun d => d.parameters.length) = some 3 := by decide +kernel
theorem wt_L_lossBy : Cond.static yL_lossBy ∈ lw_good ∧ Cond.initialized yL_lossBy.cls ∈ lw_good ∧ Cond.codeWith yL_lossBy cL_lossBy 4 (some .int) [(0, 9, 12, 21)] ∈ lw_good := ⟨gm4 170 rfl rfl, gm1 0 rfl rfl, gm4 171 rfl rfl⟩
theorem wp_L_lot : plainName yL_lot.cls = true := by decide +kernel
theorem wd_L_lot : yL_lot.cls ≠ "java/lang/invoke/MethodHandle" ∧ yL_lot.cls ≠ "java/lang/invoke/VarHandle" ∧ (parseMethodDescriptor yL_lot.desc).map (fun d => d.parameters.length) = some 4 := by decide +kernel
theorem wt_L_lot : Cond.static yL_lot ∈ lw_good ∧ Cond.initialized yL_lot.cls ∈ lw_good ∧ Cond.codeWith yL_lot cL_lot 5 (some .int) [(0, 10, 13, 19), (0, 10, 17, 21)] ∈ lw_good := ⟨gm4 131 rfl rfl, gm1 0 rfl rfl, gm4 132 rfl rfl⟩
theorem wp_L_move : plainName yL_move.cls = true := by decide +kernel
theorem wd_L_move : yL_move.cls ≠ "java/lang/invoke/MethodHandle" ∧ yL_move.cls ≠ "java/lang/invoke/VarHandle" ∧ (parseMethodDescriptor yL_move.desc).map (fun d => d.parameters.length) = some 6 := by decide +kernel
theorem wt_L_move : Cond.static yL_move ∈ lw_good ∧ Cond.initialized yL_move.cls ∈ lw_good ∧ Cond.codeWith yL_move cL_move 7 (some .int) [(0, 14, 17, 19), (0, 14, 21, 21), (0, 14, 25, 13)] ∈ lw_good := ⟨gm4 59 rfl rfl, gm1 0 rfl rfl, gm4 60 rfl rfl⟩
theorem wp_L_next : plainName yL_next.cls = true := by decide +kernel
theorem wd_L_next : yL_next.cls ≠ "java/lang/invoke/MethodHandle" ∧ yL_next.cls ≠ "java/lang/invoke/VarHandle" ∧ (parseMethodDescriptor yL_next.desc).map (fun d => d.parameters.length) = some 3 := by decide +kernel
theorem wt_L_next : Cond.static yL_next ∈ lw_good ∧ Cond.initialized yL_next.cls ∈ lw_good ∧ Cond.codeWith yL_next cL_next 4 (some .int) [(0, 9, 12, 21)] ∈ lw_good := ⟨gm4 158 rfl rfl, gm1 0 rfl rfl, gm4 159 rfl rfl⟩
theorem wp_L_oilIn : plainName yL_oilIn.cls = true := by decide +kernel
theorem wd_L_oilIn : yL_oilIn.cls ≠ "java/lang/invoke/MethodHandle" ∧ yL_oilIn.cls ≠ "java/lang/invoke/VarHandle" ∧ (parseMethodDescriptor yL_oilIn.desc).map (fun d => d.parameters.length) = some 4 := by decide +kernel
theorem wt_L_oilIn : Cond.static yL_oilIn ∈ lw_good ∧ Cond.initialized yL_oilIn.cls ∈ lw_good ∧ Cond.codeWith yL_oilIn cL_oilIn 5 (some .int) [(0, 10, 13, 19), (0, 10, 17, 21)] ∈ lw_good := ⟨gm4 166 rfl rfl, gm1 0 rfl rfl, gm4 167 rfl rfl⟩
theorem wp_L_pass : plainName yL_pass.cls = true := by decide +kernel
theorem wd_L_pass : yL_pass.cls ≠ "java/lang/invoke/MethodHandle" ∧ yL_pass.cls ≠ "java/lang/invoke/VarHandle" ∧ (parseMethodDescriptor yL_pass.desc).map (fun d => d.parameters.length) = some 3 := by decide +kernel
theorem wt_L_pass : Cond.static yL_pass ∈ lw_good ∧ Cond.initialized yL_pass.cls ∈ lw_good ∧ Cond.codeWith yL_pass cL_pass 4 (some .int) [(0, 9, 12, 21)] ∈ lw_good := ⟨gm4 68 rfl rfl, gm1 0 rfl rfl, gm4 69 rfl rfl⟩
theorem wp_L_press : plainName yL_press.cls = true := by decide +kernel
theorem wd_L_press : yL_press.cls ≠ "java/lang/invoke/MethodHandle" ∧ yL_press.cls ≠ "java/lang/invoke/VarHandle" ∧ (parseMethodDescriptor yL_press.desc).map (fun d => d.parameters.length) = some 4 := by decide +kernel
theorem wt_L_press : Cond.static yL_press ∈ lw_good ∧ Cond.initialized yL_press.cls ∈ lw_good ∧ Cond.codeWith yL_press cL_press 5 (some .int) [(0, 10, 13, 19), (0, 10, 17, 13)] ∈ lw_good := ⟨gm4 7 rfl rfl, gm1 0 rfl rfl, gm4 8 rfl rfl⟩
theorem wp_L_set : plainName yL_set.cls = true := by decide +kernel
theorem wd_L_set : yL_set.cls ≠ "java/lang/invoke/MethodHandle" ∧ yL_set.cls ≠ "java/lang/invoke/VarHandle" ∧ (parseMethodDescriptor yL_set.desc).map (fun d => d.parameters.length) = some 4 := by decide +kernel
theorem wt_L_set : Cond.static yL_set ∈ lw_good ∧ Cond.initialized yL_set.cls ∈ lw_good ∧ Cond.codeWith yL_set cL_set 5 (some .int) [(0, 10, 13, 19), (0, 10, 17, 21)] ∈ lw_good := ⟨gm3 239 rfl rfl, gm1 0 rfl rfl, gm4 0 rfl rfl⟩
theorem wp_L_setYield : plainName yL_setYield.cls = true := by decide +kernel
theorem wd_L_setYield : yL_setYield.cls ≠ "java/lang/invoke/MethodHandle" ∧ yL_setYield.cls ≠ "java/lang/invoke/VarHandle" ∧ (parseMethodDescriptor yL_setYield.desc).map (fun d => d.parameters.length) = some 4 := by decide +kernel
theorem wt_L_setYield : Cond.static yL_setYield ∈ lw_good ∧ Cond.initialized yL_setYield.cls ∈ lw_good ∧ Cond.codeWith yL_setYield cL_setYield 5 (some .int) [(0, 10, 13, 19), (0, 10, 17, 21)] ∈ lw_good := ⟨gm3 231 rfl rfl, gm1 0 rfl rfl, gm3 232 rfl rfl⟩
theorem wp_L_setting : plainName yL_setting.cls = true := by decide +kernel
theorem wd_L_setting : yL_setting.cls ≠ "java/lang/invoke/MethodHandle" ∧ yL_setting.cls ≠ "java/lang/invoke/VarHandle" ∧ (parseMethodDescriptor yL_setting.desc).map (fun d => d.parameters.length) = some 3 := by decide +kernel
theorem wt_L_setting : Cond.static yL_setting ∈ lw_good ∧ Cond.initialized yL_setting.cls ∈ lw_good ∧ Cond.codeWith yL_setting cL_setting 4 (some .int) [(0, 9, 12, 19)] ∈ lw_good := ⟨gm4 147 rfl rfl, gm1 0 rfl rfl, gm4 148 rfl rfl⟩
theorem wp_L_taken : plainName yL_taken.cls = true := by decide +kernel
theorem wd_L_taken : yL_taken.cls ≠ "java/lang/invoke/MethodHandle" ∧ yL_taken.cls ≠ "java/lang/invoke/VarHandle" ∧ (parseMethodDescriptor yL_taken.desc).map (fun d => d.parameters.length) = some 5 := by decide +kernel
theorem wt_L_taken : Cond.static yL_taken ∈ lw_good ∧ Cond.initialized yL_taken.cls ∈ lw_good ∧ Cond.codeWith yL_taken cL_taken 6 (some .int) [(0, 12, 15, 19), (0, 12, 19, 21)] ∈ lw_good := ⟨gm4 162 rfl rfl, gm1 0 rfl rfl, gm4 163 rfl rfl⟩
theorem wp_L_tank : plainName yL_tank.cls = true := by decide +kernel
theorem wd_L_tank : yL_tank.cls ≠ "java/lang/invoke/MethodHandle" ∧ yL_tank.cls ≠ "java/lang/invoke/VarHandle" ∧ (parseMethodDescriptor yL_tank.desc).map (fun d => d.parameters.length) = some 4 := by decide +kernel
theorem wt_L_tank : Cond.static yL_tank ∈ lw_good ∧ Cond.initialized yL_tank.cls ∈ lw_good ∧ Cond.codeWith yL_tank cL_tank 5 (some .int) [(0, 10, 13, 19), (0, 10, 17, 21)] ∈ lw_good := ⟨gm4 135 rfl rfl, gm1 0 rfl rfl, gm4 136 rfl rfl⟩
theorem wp_L_undo : plainName yL_undo.cls = true := by decide +kernel
theorem wd_L_undo : yL_undo.cls ≠ "java/lang/invoke/MethodHandle" ∧ yL_undo.cls ≠ "java/lang/invoke/VarHandle" ∧ (parseMethodDescriptor yL_undo.desc).map (fun d => d.parameters.length) = some 2 := by decide +kernel
theorem wt_L_undo : Cond.static yL_undo ∈ lw_good ∧ Cond.initialized yL_undo.cls ∈ lw_good ∧ Cond.codeWith yL_undo cL_undo 3 (some .int) [(0, 8, 11, 13)] ∈ lw_good := ⟨gm4 115 rfl rfl, gm1 0 rfl rfl, gm4 116 rfl rfl⟩
theorem wp_L_variety : plainName yL_variety.cls = true := by decide +kernel
theorem wd_L_variety : yL_variety.cls ≠ "java/lang/invoke/MethodHandle" ∧ yL_variety.cls ≠ "java/lang/invoke/VarHandle" ∧ (parseMethodDescriptor yL_variety.desc).map (fun d => d.parameters.length) = some 4 := by decide +kernel
theorem wt_L_variety : Cond.static yL_variety ∈ lw_good ∧ Cond.initialized yL_variety.cls ∈ lw_good ∧ Cond.codeWith yL_variety cL_variety 5 (some .int) [(0, 10, 13, 19), (0, 10, 17, 21)] ∈ lw_good := ⟨gm4 139 rfl rfl, gm1 0 rfl rfl, gm4 140 rfl rfl⟩
theorem wp_L_whyNot : plainName yL_whyNot.cls = true := by decide +kernel
theorem wd_L_whyNot : yL_whyNot.cls ≠ "java/lang/invoke/MethodHandle" ∧ yL_whyNot.cls ≠ "java/lang/invoke/VarHandle" ∧ (parseMethodDescriptor yL_whyNot.desc).map (fun d => d.parameters.length) = some 4 := by decide +kernel
theorem wt_L_whyNot : Cond.static yL_whyNot ∈ lw_good ∧ Cond.initialized yL_whyNot.cls ∈ lw_good ∧ Cond.codeWith yL_whyNot cL_whyNot 5 (some .int) [(0, 10, 13, 19)] ∈ lw_good := ⟨gm4 151 rfl rfl, gm1 0 rfl rfl, gm4 152 rfl rfl⟩
theorem wp_X0_gradeOfLot : plainName yX0_gradeOfLot.cls = true := by decide +kernel
theorem wd_X0_gradeOfLot : yX0_gradeOfLot.cls ≠ "java/lang/invoke/MethodHandle" ∧ yX0_gradeOfLot.cls ≠ "java/lang/invoke/VarHandle" ∧ (parseMethodDescriptor yX0_gradeOfLot.desc).map (fun d => d.parameters.length) = some 1 := by decide +kernel
theorem wt_X0_gradeOfLot : Cond.instanceMethod yX0_gradeOfLot ∈ lw_good ∧ Cond.selects RX0 yX0_gradeOfLot yX0_gradeOfLot ∈ lw_good ∧ Cond.initialized RX0 ∈ lw_good ∧ Cond.code yX0_gradeOfLot cX0_gradeOfLot 3 (some .int) ∈ lw_good := ⟨gm2 142 rfl rfl, gm2 143 rfl rfl, gm1 2 rfl rfl, gm2 144 rfl rfl⟩
theorem wp_X0_placeOfSaved : plainName yX0_placeOfSaved.cls = true := by decide +kernel
theorem wd_X0_placeOfSaved : yX0_placeOfSaved.cls ≠ "java/lang/invoke/MethodHandle" ∧ yX0_placeOfSaved.cls ≠ "java/lang/invoke/VarHandle" ∧ (parseMethodDescriptor yX0_placeOfSaved.desc).map (fun d => d.parameters.length) = some 1 := by decide +kernel
theorem wt_X0_placeOfSaved : Cond.instanceMethod yX0_placeOfSaved ∈ lw_good ∧ Cond.selects RX0 yX0_placeOfSaved yX0_placeOfSaved ∈ lw_good ∧ Cond.initialized RX0 ∈ lw_good ∧ Cond.code yX0_placeOfSaved cX0_placeOfSaved 2 (some .int) ∈ lw_good := ⟨gm2 15 rfl rfl, gmp 0 rfl rfl, gm1 2 rfl rfl, gm2 16 rfl rfl⟩
theorem wp_X0_restore : plainName yX0_restore.cls = true := by decide +kernel
theorem wd_X0_restore : yX0_restore.cls ≠ "java/lang/invoke/MethodHandle" ∧ yX0_restore.cls ≠ "java/lang/invoke/VarHandle" ∧ (parseMethodDescriptor yX0_restore.desc).map (fun d => d.parameters.length) = some 0 := by decide +kernel
theorem wt_X0_restore : Cond.instanceMethod yX0_restore ∈ lw_good ∧ Cond.selects RX0 yX0_restore yX0_restore ∈ lw_good ∧ Cond.initialized RX0 ∈ lw_good ∧ Cond.code yX0_restore cX0_restore 2 none ∈ lw_good := ⟨gm4 123 rfl rfl, gm4 124 rfl rfl, gm1 2 rfl rfl, gm4 125 rfl rfl⟩
theorem wp_X0_save : plainName yX0_save.cls = true := by decide +kernel
theorem wd_X0_save : yX0_save.cls ≠ "java/lang/invoke/MethodHandle" ∧ yX0_save.cls ≠ "java/lang/invoke/VarHandle" ∧ (parseMethodDescriptor yX0_save.desc).map (fun d => d.parameters.length) = some 0 := by decide +kernel
theorem wt_X0_save : Cond.instanceMethod yX0_save ∈ lw_good ∧ Cond.selects RX0 yX0_save yX0_save ∈ lw_good ∧ Cond.initialized RX0 ∈ lw_good ∧ Cond.code yX0_save cX0_save 2 none ∈ lw_good := ⟨gm2 10 rfl rfl, gm2 11 rfl rfl, gm1 2 rfl rfl, gm2 12 rfl rfl⟩
theorem wp_X1_admits : plainName yX1_admits.cls = true := by decide +kernel
theorem wd_X1_admits : yX1_admits.cls ≠ "java/lang/invoke/MethodHandle" ∧ yX1_admits.cls ≠ "java/lang/invoke/VarHandle" ∧ (parseMethodDescriptor yX1_admits.desc).map (fun d => d.parameters.length) = some 3 := by decide +kernel
theorem wt_X1_admits : Cond.instanceMethod yX1_admits ∈ lw_good ∧ Cond.selects RX1 yX1_admits yX1_admits ∈ lw_good ∧ Cond.initialized RX1 ∈ lw_good ∧ Cond.code yX1_admits cX1_admits 5 (some .boolean) ∈ lw_good := ⟨gm2 147 rfl rfl, gm2 148 rfl rfl, gm1 5 rfl rfl, gm2 149 rfl rfl⟩
theorem wp_X1_allOil : plainName yX1_allOil.cls = true := by decide +kernel
theorem wd_X1_allOil : yX1_allOil.cls ≠ "java/lang/invoke/MethodHandle" ∧ yX1_allOil.cls ≠ "java/lang/invoke/VarHandle" ∧ (parseMethodDescriptor yX1_allOil.desc).map (fun d => d.parameters.length) = some 0 := by decide +kernel
theorem wt_X1_allOil : Cond.instanceMethod yX1_allOil ∈ lw_good ∧ Cond.selects RX1 yX1_allOil yX1_allOil ∈ lw_good ∧ Cond.initialized RX1 ∈ lw_good ∧ Cond.code yX1_allOil cX1_allOil 3 (some .int) ∈ lw_good := ⟨gm2 159 rfl rfl, gm2 160 rfl rfl, gm1 5 rfl rfl, gm2 161 rfl rfl⟩
theorem wp_X1_gradeOf : plainName yX1_gradeOf.cls = true := by decide +kernel
theorem wd_X1_gradeOf : yX1_gradeOf.cls ≠ "java/lang/invoke/MethodHandle" ∧ yX1_gradeOf.cls ≠ "java/lang/invoke/VarHandle" ∧ (parseMethodDescriptor yX1_gradeOf.desc).map (fun d => d.parameters.length) = some 1 := by decide +kernel
theorem wt_X1_gradeOf : Cond.instanceMethod yX1_gradeOf ∈ lw_good ∧ Cond.selects RX1 yX1_gradeOf yX1_gradeOf ∈ lw_good ∧ Cond.initialized RX1 ∈ lw_good ∧ Cond.code yX1_gradeOf cX1_gradeOf 2 (some .int) ∈ lw_good := ⟨gm2 151 rfl rfl, gm2 152 rfl rfl, gm1 5 rfl rfl, gm2 153 rfl rfl⟩
theorem wp_X1_greatestRemainder : plainName yX1_greatestRemainder.cls = true := by decide +kernel
theorem wd_X1_greatestRemainder : yX1_greatestRemainder.cls ≠ "java/lang/invoke/MethodHandle" ∧ yX1_greatestRemainder.cls ≠ "java/lang/invoke/VarHandle" ∧ (parseMethodDescriptor yX1_greatestRemainder.desc).map (fun d => d.parameters.length) = some 0 := by decide +kernel
theorem wt_X1_greatestRemainder : Cond.instanceMethod yX1_greatestRemainder ∈ lw_good ∧ Cond.selects RX1 yX1_greatestRemainder yX1_greatestRemainder ∈ lw_good ∧ Cond.initialized RX1 ∈ lw_good ∧ Cond.code yX1_greatestRemainder cX1_greatestRemainder 3 (some .int) ∈ lw_good := ⟨gm3 128 rfl rfl, gmp 27 rfl rfl, gm1 5 rfl rfl, gm3 129 rfl rfl⟩
theorem wp_X1_oilAfter : plainName yX1_oilAfter.cls = true := by decide +kernel
theorem wd_X1_oilAfter : yX1_oilAfter.cls ≠ "java/lang/invoke/MethodHandle" ∧ yX1_oilAfter.cls ≠ "java/lang/invoke/VarHandle" ∧ (parseMethodDescriptor yX1_oilAfter.desc).map (fun d => d.parameters.length) = some 2 := by decide +kernel
theorem wt_X1_oilAfter : Cond.instanceMethod yX1_oilAfter ∈ lw_good ∧ Cond.selects RX1 yX1_oilAfter yX1_oilAfter ∈ lw_good ∧ Cond.initialized RX1 ∈ lw_good ∧ Cond.code yX1_oilAfter cX1_oilAfter 5 (some .int) ∈ lw_good := ⟨gm3 108 rfl rfl, gm3 109 rfl rfl, gm1 5 rfl rfl, gm3 110 rfl rfl⟩
theorem wp_X1_oilOf : plainName yX1_oilOf.cls = true := by decide +kernel
theorem wd_X1_oilOf : yX1_oilOf.cls ≠ "java/lang/invoke/MethodHandle" ∧ yX1_oilOf.cls ≠ "java/lang/invoke/VarHandle" ∧ (parseMethodDescriptor yX1_oilOf.desc).map (fun d => d.parameters.length) = some 1 := by decide +kernel
theorem wt_X1_oilOf : Cond.instanceMethod yX1_oilOf ∈ lw_good ∧ Cond.selects RX1 yX1_oilOf yX1_oilOf ∈ lw_good ∧ Cond.initialized RX1 ∈ lw_good ∧ Cond.code yX1_oilOf cX1_oilOf 4 (some .int) ∈ lw_good := ⟨gm2 138 rfl rfl, gm2 139 rfl rfl, gm1 5 rfl rfl, gm2 140 rfl rfl⟩
theorem wp_X1_oilOfGrade : plainName yX1_oilOfGrade.cls = true := by decide +kernel
theorem wd_X1_oilOfGrade : yX1_oilOfGrade.cls ≠ "java/lang/invoke/MethodHandle" ∧ yX1_oilOfGrade.cls ≠ "java/lang/invoke/VarHandle" ∧ (parseMethodDescriptor yX1_oilOfGrade.desc).map (fun d => d.parameters.length) = some 1 := by decide +kernel
theorem wt_X1_oilOfGrade : Cond.instanceMethod yX1_oilOfGrade ∈ lw_good ∧ Cond.selects RX1 yX1_oilOfGrade yX1_oilOfGrade ∈ lw_good ∧ Cond.initialized RX1 ∈ lw_good ∧ Cond.code yX1_oilOfGrade cX1_oilOfGrade 4 (some .int) ∈ lw_good := ⟨gm2 163 rfl rfl, gm2 164 rfl rfl, gm1 5 rfl rfl, gm2 165 rfl rfl⟩
theorem wp_X1_oilOfVariety : plainName yX1_oilOfVariety.cls = true := by decide +kernel
theorem wd_X1_oilOfVariety : yX1_oilOfVariety.cls ≠ "java/lang/invoke/MethodHandle" ∧ yX1_oilOfVariety.cls ≠ "java/lang/invoke/VarHandle" ∧ (parseMethodDescriptor yX1_oilOfVariety.desc).map (fun d => d.parameters.length) = some 1 := by decide +kernel
theorem wt_X1_oilOfVariety : Cond.instanceMethod yX1_oilOfVariety ∈ lw_good ∧ Cond.selects RX1 yX1_oilOfVariety yX1_oilOfVariety ∈ lw_good ∧ Cond.initialized RX1 ∈ lw_good ∧ Cond.code yX1_oilOfVariety cX1_oilOfVariety 4 (some .int) ∈ lw_good := ⟨gm3 150 rfl rfl, gm3 151 rfl rfl, gm1 5 rfl rfl, gm3 152 rfl rfl⟩
theorem wp_X1_part : plainName yX1_part.cls = true := by decide +kernel
theorem wd_X1_part : yX1_part.cls ≠ "java/lang/invoke/MethodHandle" ∧ yX1_part.cls ≠ "java/lang/invoke/VarHandle" ∧ (parseMethodDescriptor yX1_part.desc).map (fun d => d.parameters.length) = some 1 := by decide +kernel
theorem wt_X1_part : Cond.instanceMethod yX1_part ∈ lw_good ∧ Cond.selects RX1 yX1_part yX1_part ∈ lw_good ∧ Cond.initialized RX1 ∈ lw_good ∧ Cond.code yX1_part cX1_part 2 (some .int) ∈ lw_good := ⟨gm3 135 rfl rfl, gm3 136 rfl rfl, gm1 5 rfl rfl, gm3 137 rfl rfl⟩
theorem wp_X1_pour : plainName yX1_pour.cls = true := by decide +kernel
theorem wd_X1_pour : yX1_pour.cls ≠ "java/lang/invoke/MethodHandle" ∧ yX1_pour.cls ≠ "java/lang/invoke/VarHandle" ∧ (parseMethodDescriptor yX1_pour.desc).map (fun d => d.parameters.length) = some 4 := by decide +kernel
theorem wt_X1_pour : Cond.instanceMethod yX1_pour ∈ lw_good ∧ Cond.selects RX1 yX1_pour yX1_pour ∈ lw_good ∧ Cond.initialized RX1 ∈ lw_good ∧ Cond.code yX1_pour cX1_pour 5 none ∈ lw_good := ⟨gm4 23 rfl rfl, gm4 24 rfl rfl, gm1 5 rfl rfl, gm4 25 rfl rfl⟩
theorem wp_X1_roomOf : plainName yX1_roomOf.cls = true := by decide +kernel
theorem wd_X1_roomOf : yX1_roomOf.cls ≠ "java/lang/invoke/MethodHandle" ∧ yX1_roomOf.cls ≠ "java/lang/invoke/VarHandle" ∧ (parseMethodDescriptor yX1_roomOf.desc).map (fun d => d.parameters.length) = some 1 := by decide +kernel
theorem wt_X1_roomOf : Cond.instanceMethod yX1_roomOf ∈ lw_good ∧ Cond.selects RX1 yX1_roomOf yX1_roomOf ∈ lw_good ∧ Cond.initialized RX1 ∈ lw_good ∧ Cond.code yX1_roomOf cX1_roomOf 2 (some .int) ∈ lw_good := ⟨gm2 133 rfl rfl, gm2 134 rfl rfl, gm1 5 rfl rfl, gm2 135 rfl rfl⟩
theorem wp_X1_roundUp : plainName yX1_roundUp.cls = true := by decide +kernel
theorem wd_X1_roundUp : yX1_roundUp.cls ≠ "java/lang/invoke/MethodHandle" ∧ yX1_roundUp.cls ≠ "java/lang/invoke/VarHandle" ∧ (parseMethodDescriptor yX1_roundUp.desc).map (fun d => d.parameters.length) = some 1 := by decide +kernel
theorem wt_X1_roundUp : Cond.instanceMethod yX1_roundUp ∈ lw_good ∧ Cond.selects RX1 yX1_roundUp yX1_roundUp ∈ lw_good ∧ Cond.initialized RX1 ∈ lw_good ∧ Cond.code yX1_roundUp cX1_roundUp 2 none ∈ lw_good := ⟨gm3 132 rfl rfl, gmp 28 rfl rfl, gm1 5 rfl rfl, gm3 133 rfl rfl⟩
theorem wp_X1_settle : plainName yX1_settle.cls = true := by decide +kernel
theorem wd_X1_settle : yX1_settle.cls ≠ "java/lang/invoke/MethodHandle" ∧ yX1_settle.cls ≠ "java/lang/invoke/VarHandle" ∧ (parseMethodDescriptor yX1_settle.desc).map (fun d => d.parameters.length) = some 3 := by decide +kernel
theorem wt_X1_settle : Cond.instanceMethod yX1_settle ∈ lw_good ∧ Cond.selects RX1 yX1_settle yX1_settle ∈ lw_good ∧ Cond.initialized RX1 ∈ lw_good ∧ Cond.code yX1_settle cX1_settle 6 (some .int) ∈ lw_good := ⟨gm4 76 rfl rfl, gm4 77 rfl rfl, gm1 5 rfl rfl, gm4 78 rfl rfl⟩
theorem wp_X1_split : plainName yX1_split.cls = true := by decide +kernel
theorem wd_X1_split : yX1_split.cls ≠ "java/lang/invoke/MethodHandle" ∧ yX1_split.cls ≠ "java/lang/invoke/VarHandle" ∧ (parseMethodDescriptor yX1_split.desc).map (fun d => d.parameters.length) = some 2 := by decide +kernel
theorem wt_X1_split : Cond.instanceMethod yX1_split ∈ lw_good ∧ Cond.selects RX1 yX1_split yX1_split ∈ lw_good ∧ Cond.initialized RX1 ∈ lw_good ∧ Cond.code yX1_split cX1_split 7 none ∈ lw_good := ⟨gm3 123 rfl rfl, gm3 124 rfl rfl, gm1 5 rfl rfl, gm3 125 rfl rfl⟩
theorem wp_X1_takeOut : plainName yX1_takeOut.cls = true := by decide +kernel
theorem wd_X1_takeOut : yX1_takeOut.cls ≠ "java/lang/invoke/MethodHandle" ∧ yX1_takeOut.cls ≠ "java/lang/invoke/VarHandle" ∧ (parseMethodDescriptor yX1_takeOut.desc).map (fun d => d.parameters.length) = some 2 := by decide +kernel
theorem wt_X1_takeOut : Cond.instanceMethod yX1_takeOut ∈ lw_good ∧ Cond.selects RX1 yX1_takeOut yX1_takeOut ∈ lw_good ∧ Cond.initialized RX1 ∈ lw_good ∧ Cond.code yX1_takeOut cX1_takeOut 4 none ∈ lw_good := ⟨gm4 53 rfl rfl, gm4 54 rfl rfl, gm1 5 rfl rfl, gm4 55 rfl rfl⟩
theorem wp_X2_begin : plainName yX2_begin.cls = true := by decide +kernel
theorem wd_X2_begin : yX2_begin.cls ≠ "java/lang/invoke/MethodHandle" ∧ yX2_begin.cls ≠ "java/lang/invoke/VarHandle" ∧ (parseMethodDescriptor yX2_begin.desc).map (fun d => d.parameters.length) = some 0 := by decide +kernel
theorem wt_X2_begin : Cond.instanceMethod yX2_begin ∈ lw_good ∧ Cond.selects RX2 yX2_begin yX2_begin ∈ lw_good ∧ Cond.initialized RX2 ∈ lw_good ∧ Cond.code yX2_begin cX2_begin 3 none ∈ lw_good := ⟨gm2 108 rfl rfl, gm2 109 rfl rfl, gm1 6 rfl rfl, gm2 110 rfl rfl⟩
theorem wp_X2_lookAhead : plainName yX2_lookAhead.cls = true := by decide +kernel
theorem wd_X2_lookAhead : yX2_lookAhead.cls ≠ "java/lang/invoke/MethodHandle" ∧ yX2_lookAhead.cls ≠ "java/lang/invoke/VarHandle" ∧ (parseMethodDescriptor yX2_lookAhead.desc).map (fun d => d.parameters.length) = some 0 := by decide +kernel
theorem wt_X2_lookAhead : Cond.instanceMethod yX2_lookAhead ∈ lw_good ∧ Cond.selects RX2 yX2_lookAhead yX2_lookAhead ∈ lw_good ∧ Cond.initialized RX2 ∈ lw_good ∧ Cond.code yX2_lookAhead cX2_lookAhead 1 (some .boolean) ∈ lw_good := ⟨gm2 104 rfl rfl, gm2 105 rfl rfl, gm1 6 rfl rfl, gm2 106 rfl rfl⟩
theorem wp_X2_lotInTurn : plainName yX2_lotInTurn.cls = true := by decide +kernel
theorem wd_X2_lotInTurn : yX2_lotInTurn.cls ≠ "java/lang/invoke/MethodHandle" ∧ yX2_lotInTurn.cls ≠ "java/lang/invoke/VarHandle" ∧ (parseMethodDescriptor yX2_lotInTurn.desc).map (fun d => d.parameters.length) = some 1 := by decide +kernel
theorem wt_X2_lotInTurn : Cond.instanceMethod yX2_lotInTurn ∈ lw_good ∧ Cond.selects RX2 yX2_lotInTurn yX2_lotInTurn ∈ lw_good ∧ Cond.initialized RX2 ∈ lw_good ∧ Cond.code yX2_lotInTurn cX2_lotInTurn 3 (some .int) ∈ lw_good := ⟨gm2 119 rfl rfl, gmp 11 rfl rfl, gm1 6 rfl rfl, gm2 120 rfl rfl⟩
theorem wp_X2_passThroughMill : plainName yX2_passThroughMill.cls = true := by decide +kernel
theorem wd_X2_passThroughMill : yX2_passThroughMill.cls ≠ "java/lang/invoke/MethodHandle" ∧ yX2_passThroughMill.cls ≠ "java/lang/invoke/VarHandle" ∧ (parseMethodDescriptor yX2_passThroughMill.desc).map (fun d => d.parameters.length) = some 1 := by decide +kernel
theorem wt_X2_passThroughMill : Cond.instanceMethod yX2_passThroughMill ∈ lw_good ∧ Cond.selects RX2 yX2_passThroughMill yX2_passThroughMill ∈ lw_good ∧ Cond.initialized RX2 ∈ lw_good ∧ Cond.code yX2_passThroughMill cX2_passThroughMill 5 none ∈ lw_good := ⟨gm2 127 rfl rfl, gmp 13 rfl rfl, gm1 6 rfl rfl, gm2 128 rfl rfl⟩
theorem wp_X2_step : plainName yX2_step.cls = true := by decide +kernel
theorem wd_X2_step : yX2_step.cls ≠ "java/lang/invoke/MethodHandle" ∧ yX2_step.cls ≠ "java/lang/invoke/VarHandle" ∧ (parseMethodDescriptor yX2_step.desc).map (fun d => d.parameters.length) = some 1 := by decide +kernel
theorem wt_X2_step : Cond.instanceMethod yX2_step ∈ lw_good ∧ Cond.selects RX2 yX2_step yX2_step ∈ lw_good ∧ Cond.initialized RX2 ∈ lw_good ∧ Cond.code yX2_step cX2_step 2 (some .boolean) ∈ lw_good := ⟨gm2 114 rfl rfl, gm2 115 rfl rfl, gm1 6 rfl rfl, gm2 116 rfl rfl⟩
theorem wp_X2_weigh : plainName yX2_weigh.cls = true := by decide +kernel
theorem wd_X2_weigh : yX2_weigh.cls ≠ "java/lang/invoke/MethodHandle" ∧ yX2_weigh.cls ≠ "java/lang/invoke/VarHandle" ∧ (parseMethodDescriptor yX2_weigh.desc).map (fun d => d.parameters.length) = some 0 := by decide +kernel
theorem wt_X2_weigh : Cond.instanceMethod yX2_weigh ∈ lw_good ∧ Cond.selects RX2 yX2_weigh yX2_weigh ∈ lw_good ∧ Cond.initialized RX2 ∈ lw_good ∧ Cond.code yX2_weigh cX2_weigh 2 none ∈ lw_good := ⟨gm2 123 rfl rfl, gmp 12 rfl rfl, gm1 6 rfl rfl, gm2 124 rfl rfl⟩
theorem wp_X3_add : plainName yX3_add.cls = true := by decide +kernel
theorem wd_X3_add : yX3_add.cls ≠ "java/lang/invoke/MethodHandle" ∧ yX3_add.cls ≠ "java/lang/invoke/VarHandle" ∧ (parseMethodDescriptor yX3_add.desc).map (fun d => d.parameters.length) = some 2 := by decide +kernel
theorem wt_X3_add : Cond.instanceMethod yX3_add ∈ lw_good ∧ Cond.selects RX3 yX3_add yX3_add ∈ lw_good ∧ Cond.initialized RX3 ∈ lw_good ∧ Cond.code yX3_add cX3_add 3 none ∈ lw_good := ⟨gm2 38 rfl rfl, gm2 39 rfl rfl, gm1 4 rfl rfl, gm2 40 rfl rfl⟩
theorem wp_X3_get : plainName yX3_get.cls = true := by decide +kernel
theorem wd_X3_get : yX3_get.cls ≠ "java/lang/invoke/MethodHandle" ∧ yX3_get.cls ≠ "java/lang/invoke/VarHandle" ∧ (parseMethodDescriptor yX3_get.desc).map (fun d => d.parameters.length) = some 1 := by decide +kernel
theorem wt_X3_get : Cond.instanceMethod yX3_get ∈ lw_good ∧ Cond.selects RX3 yX3_get yX3_get ∈ lw_good ∧ Cond.initialized RX3 ∈ lw_good ∧ Cond.code yX3_get cX3_get 3 (some .int) ∈ lw_good := ⟨gm2 21 rfl rfl, gm2 22 rfl rfl, gm1 4 rfl rfl, gm2 23 rfl rfl⟩
theorem wp_X3_put : plainName yX3_put.cls = true := by decide +kernel
theorem wd_X3_put : yX3_put.cls ≠ "java/lang/invoke/MethodHandle" ∧ yX3_put.cls ≠ "java/lang/invoke/VarHandle" ∧ (parseMethodDescriptor yX3_put.desc).map (fun d => d.parameters.length) = some 2 := by decide +kernel
theorem wt_X3_put : Cond.instanceMethod yX3_put ∈ lw_good ∧ Cond.selects RX3 yX3_put yX3_put ∈ lw_good ∧ Cond.initialized RX3 ∈ lw_good ∧ Cond.code yX3_put cX3_put 4 none ∈ lw_good := ⟨gm1 65 rfl rfl, gm1 66 rfl rfl, gm1 4 rfl rfl, gm1 67 rfl rfl⟩
theorem wp_X4_acidity : plainName yX4_acidity.cls = true := by decide +kernel
theorem wd_X4_acidity : yX4_acidity.cls ≠ "java/lang/invoke/MethodHandle" ∧ yX4_acidity.cls ≠ "java/lang/invoke/VarHandle" ∧ (parseMethodDescriptor yX4_acidity.desc).map (fun d => d.parameters.length) = some 0 := by decide +kernel
theorem wt_X4_acidity : Cond.instanceMethod yX4_acidity ∈ lw_good ∧ Cond.selects RX4 yX4_acidity yX4_acidity ∈ lw_good ∧ Cond.initialized RX4 ∈ lw_good ∧ Cond.code yX4_acidity cX4_acidity 1 (some .int) ∈ lw_good := ⟨gm4 107 rfl rfl, gm4 108 rfl rfl, gm1 7 rfl rfl, gm4 109 rfl rfl⟩
theorem wp_X4_beginNumber : plainName yX4_beginNumber.cls = true := by decide +kernel
theorem wd_X4_beginNumber : yX4_beginNumber.cls ≠ "java/lang/invoke/MethodHandle" ∧ yX4_beginNumber.cls ≠ "java/lang/invoke/VarHandle" ∧ (parseMethodDescriptor yX4_beginNumber.desc).map (fun d => d.parameters.length) = some 3 := by decide +kernel
theorem wt_X4_beginNumber : Cond.instanceMethod yX4_beginNumber ∈ lw_good ∧ Cond.selects RX4 yX4_beginNumber yX4_beginNumber ∈ lw_good ∧ Cond.initialized RX4 ∈ lw_good ∧ Cond.code yX4_beginNumber cX4_beginNumber 4 none ∈ lw_good := ⟨gm2 74 rfl rfl, gmp 5 rfl rfl, gm1 7 rfl rfl, gm2 75 rfl rfl⟩
theorem wp_X4_canEnd : plainName yX4_canEnd.cls = true := by decide +kernel
theorem wd_X4_canEnd : yX4_canEnd.cls ≠ "java/lang/invoke/MethodHandle" ∧ yX4_canEnd.cls ≠ "java/lang/invoke/VarHandle" ∧ (parseMethodDescriptor yX4_canEnd.desc).map (fun d => d.parameters.length) = some 0 := by decide +kernel
theorem wt_X4_canEnd : Cond.instanceMethod yX4_canEnd ∈ lw_good ∧ Cond.selects RX4 yX4_canEnd yX4_canEnd ∈ lw_good ∧ Cond.initialized RX4 ∈ lw_good ∧ Cond.code yX4_canEnd cX4_canEnd 1 (some .boolean) ∈ lw_good := ⟨gm4 98 rfl rfl, gm4 99 rfl rfl, gm1 7 rfl rfl, gm4 100 rfl rfl⟩
theorem wp_X4_numberCanStand : plainName yX4_numberCanStand.cls = true := by decide +kernel
theorem wd_X4_numberCanStand : yX4_numberCanStand.cls ≠ "java/lang/invoke/MethodHandle" ∧ yX4_numberCanStand.cls ≠ "java/lang/invoke/VarHandle" ∧ (parseMethodDescriptor yX4_numberCanStand.desc).map (fun d => d.parameters.length) = some 0 := by decide +kernel
theorem wt_X4_numberCanStand : Cond.instanceMethod yX4_numberCanStand ∈ lw_good ∧ Cond.selects RX4 yX4_numberCanStand yX4_numberCanStand ∈ lw_good ∧ Cond.initialized RX4 ∈ lw_good ∧ Cond.code yX4_numberCanStand cX4_numberCanStand 4 (some .boolean) ∈ lw_good := ⟨gm2 85 rfl rfl, gmp 7 rfl rfl, gm1 7 rfl rfl, gm2 86 rfl rfl⟩
theorem wp_X4_numberStands : plainName yX4_numberStands.cls = true := by decide +kernel
theorem wd_X4_numberStands : yX4_numberStands.cls ≠ "java/lang/invoke/MethodHandle" ∧ yX4_numberStands.cls ≠ "java/lang/invoke/VarHandle" ∧ (parseMethodDescriptor yX4_numberStands.desc).map (fun d => d.parameters.length) = some 0 := by decide +kernel
theorem wt_X4_numberStands : Cond.instanceMethod yX4_numberStands ∈ lw_good ∧ Cond.selects RX4 yX4_numberStands yX4_numberStands ∈ lw_good ∧ Cond.initialized RX4 ∈ lw_good ∧ Cond.code yX4_numberStands cX4_numberStands 1 (some .boolean) ∈ lw_good := ⟨gm2 89 rfl rfl, gmp 8 rfl rfl, gm1 7 rfl rfl, gm2 90 rfl rfl⟩
theorem wp_X4_reads : plainName yX4_reads.cls = true := by decide +kernel
theorem wd_X4_reads : yX4_reads.cls ≠ "java/lang/invoke/MethodHandle" ∧ yX4_reads.cls ≠ "java/lang/invoke/VarHandle" ∧ (parseMethodDescriptor yX4_reads.desc).map (fun d => d.parameters.length) = some 1 := by decide +kernel
theorem wt_X4_reads : Cond.instanceMethod yX4_reads ∈ lw_good ∧ Cond.selects RX4 yX4_reads yX4_reads ∈ lw_good ∧ Cond.initialized RX4 ∈ lw_good ∧ Cond.code yX4_reads cX4_reads 2 (some .boolean) ∈ lw_good := ⟨gm2 61 rfl rfl, gm2 62 rfl rfl, gm1 7 rfl rfl, gm2 63 rfl rfl⟩
theorem wp_X4_readsDigit : plainName yX4_readsDigit.cls = true := by decide +kernel
theorem wd_X4_readsDigit : yX4_readsDigit.cls ≠ "java/lang/invoke/MethodHandle" ∧ yX4_readsDigit.cls ≠ "java/lang/invoke/VarHandle" ∧ (parseMethodDescriptor yX4_readsDigit.desc).map (fun d => d.parameters.length) = some 1 := by decide +kernel
theorem wt_X4_readsDigit : Cond.instanceMethod yX4_readsDigit ∈ lw_good ∧ Cond.selects RX4 yX4_readsDigit yX4_readsDigit ∈ lw_good ∧ Cond.initialized RX4 ∈ lw_good ∧ Cond.code yX4_readsDigit cX4_readsDigit 2 (some .boolean) ∈ lw_good := ⟨gm2 81 rfl rfl, gmp 6 rfl rfl, gm1 7 rfl rfl, gm2 82 rfl rfl⟩
theorem wp_X4_readsGrower : plainName yX4_readsGrower.cls = true := by decide +kernel
theorem wd_X4_readsGrower : yX4_readsGrower.cls ≠ "java/lang/invoke/MethodHandle" ∧ yX4_readsGrower.cls ≠ "java/lang/invoke/VarHandle" ∧ (parseMethodDescriptor yX4_readsGrower.desc).map (fun d => d.parameters.length) = some 1 := by decide +kernel
theorem wt_X4_readsGrower : Cond.instanceMethod yX4_readsGrower ∈ lw_good ∧ Cond.selects RX4 yX4_readsGrower yX4_readsGrower ∈ lw_good ∧ Cond.initialized RX4 ∈ lw_good ∧ Cond.code yX4_readsGrower cX4_readsGrower 2 (some .boolean) ∈ lw_good := ⟨gm2 66 rfl rfl, gmp 3 rfl rfl, gm1 7 rfl rfl, gm2 67 rfl rfl⟩
theorem wp_X4_readsSign : plainName yX4_readsSign.cls = true := by decide +kernel
theorem wd_X4_readsSign : yX4_readsSign.cls ≠ "java/lang/invoke/MethodHandle" ∧ yX4_readsSign.cls ≠ "java/lang/invoke/VarHandle" ∧ (parseMethodDescriptor yX4_readsSign.desc).map (fun d => d.parameters.length) = some 1 := by decide +kernel
theorem wt_X4_readsSign : Cond.instanceMethod yX4_readsSign ∈ lw_good ∧ Cond.selects RX4 yX4_readsSign yX4_readsSign ∈ lw_good ∧ Cond.initialized RX4 ∈ lw_good ∧ Cond.code yX4_readsSign cX4_readsSign 2 (some .boolean) ∈ lw_good := ⟨gm2 93 rfl rfl, gmp 9 rfl rfl, gm1 7 rfl rfl, gm2 94 rfl rfl⟩
theorem wp_X4_readsVariety : plainName yX4_readsVariety.cls = true := by decide +kernel
theorem wd_X4_readsVariety : yX4_readsVariety.cls ≠ "java/lang/invoke/MethodHandle" ∧ yX4_readsVariety.cls ≠ "java/lang/invoke/VarHandle" ∧ (parseMethodDescriptor yX4_readsVariety.desc).map (fun d => d.parameters.length) = some 1 := by decide +kernel
theorem wt_X4_readsVariety : Cond.instanceMethod yX4_readsVariety ∈ lw_good ∧ Cond.selects RX4 yX4_readsVariety yX4_readsVariety ∈ lw_good ∧ Cond.initialized RX4 ∈ lw_good ∧ Cond.code yX4_readsVariety cX4_readsVariety 2 (some .boolean) ∈ lw_good := ⟨gm2 70 rfl rfl, gmp 4 rfl rfl, gm1 7 rfl rfl, gm2 71 rfl rfl⟩
theorem wp_X4_restart : plainName yX4_restart.cls = true := by decide +kernel
theorem wd_X4_restart : yX4_restart.cls ≠ "java/lang/invoke/MethodHandle" ∧ yX4_restart.cls ≠ "java/lang/invoke/VarHandle" ∧ (parseMethodDescriptor yX4_restart.desc).map (fun d => d.parameters.length) = some 0 := by decide +kernel
theorem wt_X4_restart : Cond.instanceMethod yX4_restart ∈ lw_good ∧ Cond.selects RX4 yX4_restart yX4_restart ∈ lw_good ∧ Cond.initialized RX4 ∈ lw_good ∧ Cond.code yX4_restart cX4_restart 1 none ∈ lw_good := ⟨gm2 53 rfl rfl, gm2 54 rfl rfl, gm1 7 rfl rfl, gm2 55 rfl rfl⟩
theorem wp_X4_truth : plainName yX4_truth.cls = true := by decide +kernel
theorem wd_X4_truth : yX4_truth.cls ≠ "java/lang/invoke/MethodHandle" ∧ yX4_truth.cls ≠ "java/lang/invoke/VarHandle" ∧ (parseMethodDescriptor yX4_truth.desc).map (fun d => d.parameters.length) = some 0 := by decide +kernel
theorem wt_X4_truth : Cond.instanceMethod yX4_truth ∈ lw_good ∧ Cond.selects RX4 yX4_truth yX4_truth ∈ lw_good ∧ Cond.initialized RX4 ∈ lw_good ∧ Cond.code yX4_truth cX4_truth 1 (some .int) ∈ lw_good := ⟨gm4 111 rfl rfl, gm4 112 rfl rfl, gm1 7 rfl rfl, gm4 113 rfl rfl⟩
theorem wp_X5_add : plainName yX5_add.cls = true := by decide +kernel
theorem wd_X5_add : yX5_add.cls ≠ "java/lang/invoke/MethodHandle" ∧ yX5_add.cls ≠ "java/lang/invoke/VarHandle" ∧ (parseMethodDescriptor yX5_add.desc).map (fun d => d.parameters.length) = some 3 := by decide +kernel
theorem wt_X5_add : Cond.instanceMethod yX5_add ∈ lw_good ∧ Cond.selects RX5 yX5_add yX5_add ∈ lw_good ∧ Cond.initialized RX5 ∈ lw_good ∧ Cond.code yX5_add cX5_add 4 none ∈ lw_good := ⟨gm2 29 rfl rfl, gm2 30 rfl rfl, gm1 3 rfl rfl, gm2 31 rfl rfl⟩
theorem wp_X5_get : plainName yX5_get.cls = true := by decide +kernel
theorem wd_X5_get : yX5_get.cls ≠ "java/lang/invoke/MethodHandle" ∧ yX5_get.cls ≠ "java/lang/invoke/VarHandle" ∧ (parseMethodDescriptor yX5_get.desc).map (fun d => d.parameters.length) = some 2 := by decide +kernel
theorem wt_X5_get : Cond.instanceMethod yX5_get ∈ lw_good ∧ Cond.selects RX5 yX5_get yX5_get ∈ lw_good ∧ Cond.initialized RX5 ∈ lw_good ∧ Cond.code yX5_get cX5_get 4 (some .int) ∈ lw_good := ⟨gm2 33 rfl rfl, gm2 34 rfl rfl, gm1 3 rfl rfl, gm2 35 rfl rfl⟩
theorem wp_X5_put : plainName yX5_put.cls = true := by decide +kernel
theorem wd_X5_put : yX5_put.cls ≠ "java/lang/invoke/MethodHandle" ∧ yX5_put.cls ≠ "java/lang/invoke/VarHandle" ∧ (parseMethodDescriptor yX5_put.desc).map (fun d => d.parameters.length) = some 3 := by decide +kernel
theorem wt_X5_put : Cond.instanceMethod yX5_put ∈ lw_good ∧ Cond.selects RX5 yX5_put yX5_put ∈ lw_good ∧ Cond.initialized RX5 ∈ lw_good ∧ Cond.code yX5_put cX5_put 5 none ∈ lw_good := ⟨gm1 71 rfl rfl, gm1 72 rfl rfl, gm1 3 rfl rfl, gm1 73 rfl rfl⟩
theorem wp_X6_addGrower : plainName yX6_addGrower.cls = true := by decide +kernel
theorem wd_X6_addGrower : yX6_addGrower.cls ≠ "java/lang/invoke/MethodHandle" ∧ yX6_addGrower.cls ≠ "java/lang/invoke/VarHandle" ∧ (parseMethodDescriptor yX6_addGrower.desc).map (fun d => d.parameters.length) = some 0 := by decide +kernel
theorem wt_X6_addGrower : Cond.instanceMethod yX6_addGrower ∈ lw_good ∧ Cond.selects RX6 yX6_addGrower yX6_addGrower ∈ lw_good ∧ Cond.initialized RX6 ∈ lw_good ∧ Cond.code yX6_addGrower cX6_addGrower 2 (some .int) ∈ lw_good := ⟨gm3 186 rfl rfl, gm3 187 rfl rfl, gm1 1 rfl rfl, gm3 188 rfl rfl⟩
theorem wp_X6_addLot : plainName yX6_addLot.cls = true := by decide +kernel
theorem wd_X6_addLot : yX6_addLot.cls ≠ "java/lang/invoke/MethodHandle" ∧ yX6_addLot.cls ≠ "java/lang/invoke/VarHandle" ∧ (parseMethodDescriptor yX6_addLot.desc).map (fun d => d.parameters.length) = some 5 := by decide +kernel
theorem wt_X6_addLot : Cond.instanceMethod yX6_addLot ∈ lw_good ∧ Cond.selects RX6 yX6_addLot yX6_addLot ∈ lw_good ∧ Cond.initialized RX6 ∈ lw_good ∧ Cond.code yX6_addLot cX6_addLot 6 (some .int) ∈ lw_good := ⟨gm3 211 rfl rfl, gm3 212 rfl rfl, gm1 1 rfl rfl, gm3 213 rfl rfl⟩
theorem wp_X6_addSlips : plainName yX6_addSlips.cls = true := by decide +kernel
theorem wd_X6_addSlips : yX6_addSlips.cls ≠ "java/lang/invoke/MethodHandle" ∧ yX6_addSlips.cls ≠ "java/lang/invoke/VarHandle" ∧ (parseMethodDescriptor yX6_addSlips.desc).map (fun d => d.parameters.length) = some 0 := by decide +kernel
theorem wt_X6_addSlips : Cond.instanceMethod yX6_addSlips ∈ lw_good ∧ Cond.selects RX6 yX6_addSlips yX6_addSlips ∈ lw_good ∧ Cond.initialized RX6 ∈ lw_good ∧ Cond.code yX6_addSlips cX6_addSlips 2 (some .int) ∈ lw_good := ⟨gm4 93 rfl rfl, gm4 94 rfl rfl, gm1 1 rfl rfl, gm4 95 rfl rfl⟩
theorem wp_X6_addTank : plainName yX6_addTank.cls = true := by decide +kernel
theorem wd_X6_addTank : yX6_addTank.cls ≠ "java/lang/invoke/MethodHandle" ∧ yX6_addTank.cls ≠ "java/lang/invoke/VarHandle" ∧ (parseMethodDescriptor yX6_addTank.desc).map (fun d => d.parameters.length) = some 1 := by decide +kernel
theorem wt_X6_addTank : Cond.instanceMethod yX6_addTank ∈ lw_good ∧ Cond.selects RX6 yX6_addTank yX6_addTank ∈ lw_good ∧ Cond.initialized RX6 ∈ lw_good ∧ Cond.code yX6_addTank cX6_addTank 3 (some .int) ∈ lw_good := ⟨gm3 225 rfl rfl, gm3 226 rfl rfl, gm1 1 rfl rfl, gm3 227 rfl rfl⟩
theorem wp_X6_appeal : plainName yX6_appeal.cls = true := by decide +kernel
theorem wd_X6_appeal : yX6_appeal.cls ≠ "java/lang/invoke/MethodHandle" ∧ yX6_appeal.cls ≠ "java/lang/invoke/VarHandle" ∧ (parseMethodDescriptor yX6_appeal.desc).map (fun d => d.parameters.length) = some 1 := by decide +kernel
theorem wt_X6_appeal : Cond.instanceMethod yX6_appeal ∈ lw_good ∧ Cond.selects RX6 yX6_appeal yX6_appeal ∈ lw_good ∧ Cond.initialized RX6 ∈ lw_good ∧ Cond.code yX6_appeal cX6_appeal 4 (some .int) ∈ lw_good := ⟨gm4 35 rfl rfl, gm4 36 rfl rfl, gm1 1 rfl rfl, gm4 37 rfl rfl⟩
theorem wp_X6_append : plainName yX6_append.cls = true := by decide +kernel
theorem wd_X6_append : yX6_append.cls ≠ "java/lang/invoke/MethodHandle" ∧ yX6_append.cls ≠ "java/lang/invoke/VarHandle" ∧ (parseMethodDescriptor yX6_append.desc).map (fun d => d.parameters.length) = some 1 := by decide +kernel
theorem wt_X6_append : Cond.instanceMethod yX6_append ∈ lw_good ∧ Cond.selects RX6 yX6_append yX6_append ∈ lw_good ∧ Cond.initialized RX6 ∈ lw_good ∧ Cond.code yX6_append cX6_append 2 (some .int) ∈ lw_good := ⟨gm4 84 rfl rfl, gm4 85 rfl rfl, gm1 1 rfl rfl, gm4 86 rfl rfl⟩
theorem wp_X6_bestTank : plainName yX6_bestTank.cls = true := by decide +kernel
theorem wd_X6_bestTank : yX6_bestTank.cls ≠ "java/lang/invoke/MethodHandle" ∧ yX6_bestTank.cls ≠ "java/lang/invoke/VarHandle" ∧ (parseMethodDescriptor yX6_bestTank.desc).map (fun d => d.parameters.length) = some 0 := by decide +kernel
theorem wt_X6_bestTank : Cond.instanceMethod yX6_bestTank ∈ lw_good ∧ Cond.selects RX6 yX6_bestTank yX6_bestTank ∈ lw_good ∧ Cond.initialized RX6 ∈ lw_good ∧ Cond.code yX6_bestTank cX6_bestTank 6 (some .int) ∈ lw_good := ⟨gm2 96 rfl rfl, gm2 97 rfl rfl, gm1 1 rfl rfl, gm2 98 rfl rfl⟩
theorem wp_X6_bitsOf : plainName yX6_bitsOf.cls = true := by decide +kernel
theorem wd_X6_bitsOf : yX6_bitsOf.cls ≠ "java/lang/invoke/MethodHandle" ∧ yX6_bitsOf.cls ≠ "java/lang/invoke/VarHandle" ∧ (parseMethodDescriptor yX6_bitsOf.desc).map (fun d => d.parameters.length) = some 1 := by decide +kernel
theorem wt_X6_bitsOf : Cond.static yX6_bitsOf ∈ lw_good ∧ Cond.initialized yX6_bitsOf.cls ∈ lw_good ∧ Cond.code yX6_bitsOf cX6_bitsOf 7 (some .long) ∈ lw_good := ⟨gm3 176 rfl rfl, gm1 1 rfl rfl, gm3 177 rfl rfl⟩
theorem wp_X6_checkGrower : plainName yX6_checkGrower.cls = true := by decide +kernel
theorem wd_X6_checkGrower : yX6_checkGrower.cls ≠ "java/lang/invoke/MethodHandle" ∧ yX6_checkGrower.cls ≠ "java/lang/invoke/VarHandle" ∧ (parseMethodDescriptor yX6_checkGrower.desc).map (fun d => d.parameters.length) = some 1 := by decide +kernel
theorem wt_X6_checkGrower : Cond.instanceMethod yX6_checkGrower ∈ lw_good ∧ Cond.selects RX6 yX6_checkGrower yX6_checkGrower ∈ lw_good ∧ Cond.initialized RX6 ∈ lw_good ∧ Cond.code yX6_checkGrower cX6_checkGrower 2 none ∈ lw_good := ⟨gm3 53 rfl rfl, gmp 19 rfl rfl, gm1 1 rfl rfl, gm3 54 rfl rfl⟩
theorem wp_X6_checkLot : plainName yX6_checkLot.cls = true := by decide +kernel
theorem wd_X6_checkLot : yX6_checkLot.cls ≠ "java/lang/invoke/MethodHandle" ∧ yX6_checkLot.cls ≠ "java/lang/invoke/VarHandle" ∧ (parseMethodDescriptor yX6_checkLot.desc).map (fun d => d.parameters.length) = some 1 := by decide +kernel
theorem wt_X6_checkLot : Cond.instanceMethod yX6_checkLot ∈ lw_good ∧ Cond.selects RX6 yX6_checkLot yX6_checkLot ∈ lw_good ∧ Cond.initialized RX6 ∈ lw_good ∧ Cond.code yX6_checkLot cX6_checkLot 2 none ∈ lw_good := ⟨gm3 67 rfl rfl, gmp 21 rfl rfl, gm1 1 rfl rfl, gm3 68 rfl rfl⟩
theorem wp_X6_checkOil : plainName yX6_checkOil.cls = true := by decide +kernel
theorem wd_X6_checkOil : yX6_checkOil.cls ≠ "java/lang/invoke/MethodHandle" ∧ yX6_checkOil.cls ≠ "java/lang/invoke/VarHandle" ∧ (parseMethodDescriptor yX6_checkOil.desc).map (fun d => d.parameters.length) = some 1 := by decide +kernel
theorem wt_X6_checkOil : Cond.static yX6_checkOil ∈ lw_good ∧ Cond.initialized yX6_checkOil.cls ∈ lw_good ∧ Cond.code yX6_checkOil cX6_checkOil 1 none ∈ lw_good := ⟨gm3 117 rfl rfl, gm1 1 rfl rfl, gm3 118 rfl rfl⟩
theorem wp_X6_checkTank : plainName yX6_checkTank.cls = true := by decide +kernel
theorem wd_X6_checkTank : yX6_checkTank.cls ≠ "java/lang/invoke/MethodHandle" ∧ yX6_checkTank.cls ≠ "java/lang/invoke/VarHandle" ∧ (parseMethodDescriptor yX6_checkTank.desc).map (fun d => d.parameters.length) = some 1 := by decide +kernel
theorem wt_X6_checkTank : Cond.instanceMethod yX6_checkTank ∈ lw_good ∧ Cond.selects RX6 yX6_checkTank yX6_checkTank ∈ lw_good ∧ Cond.initialized RX6 ∈ lw_good ∧ Cond.code yX6_checkTank cX6_checkTank 2 none ∈ lw_good := ⟨gm3 93 rfl rfl, gmp 26 rfl rfl, gm1 1 rfl rfl, gm3 94 rfl rfl⟩
theorem wp_X6_checkVariety : plainName yX6_checkVariety.cls = true := by decide +kernel
theorem wd_X6_checkVariety : yX6_checkVariety.cls ≠ "java/lang/invoke/MethodHandle" ∧ yX6_checkVariety.cls ≠ "java/lang/invoke/VarHandle" ∧ (parseMethodDescriptor yX6_checkVariety.desc).map (fun d => d.parameters.length) = some 1 := by decide +kernel
theorem wt_X6_checkVariety : Cond.static yX6_checkVariety ∈ lw_good ∧ Cond.initialized yX6_checkVariety.cls ∈ lw_good ∧ Cond.code yX6_checkVariety cX6_checkVariety 1 none ∈ lw_good := ⟨gm3 147 rfl rfl, gm1 1 rfl rfl, gm3 148 rfl rfl⟩
theorem wp_X6_clean : plainName yX6_clean.cls = true := by decide +kernel
theorem wd_X6_clean : yX6_clean.cls ≠ "java/lang/invoke/MethodHandle" ∧ yX6_clean.cls ≠ "java/lang/invoke/VarHandle" ∧ (parseMethodDescriptor yX6_clean.desc).map (fun d => d.parameters.length) = some 0 := by decide +kernel
theorem wt_X6_clean : Cond.instanceMethod yX6_clean ∈ lw_good ∧ Cond.selects RX6 yX6_clean yX6_clean ∈ lw_good ∧ Cond.initialized RX6 ∈ lw_good ∧ Cond.code yX6_clean cX6_clean 2 (some .int) ∈ lw_good := ⟨gm2 6 rfl rfl, gm2 7 rfl rfl, gm1 1 rfl rfl, gm2 8 rfl rfl⟩
theorem wp_X6_clearBuffer : plainName yX6_clearBuffer.cls = true := by decide +kernel
theorem wd_X6_clearBuffer : yX6_clearBuffer.cls ≠ "java/lang/invoke/MethodHandle" ∧ yX6_clearBuffer.cls ≠ "java/lang/invoke/VarHandle" ∧ (parseMethodDescriptor yX6_clearBuffer.desc).map (fun d => d.parameters.length) = some 0 := by decide +kernel
theorem wt_X6_clearBuffer : Cond.instanceMethod yX6_clearBuffer ∈ lw_good ∧ Cond.selects RX6 yX6_clearBuffer yX6_clearBuffer ∈ lw_good ∧ Cond.initialized RX6 ∈ lw_good ∧ Cond.code yX6_clearBuffer cX6_clearBuffer 2 (some .int) ∈ lw_good := ⟨gm2 45 rfl rfl, gm2 46 rfl rfl, gm1 1 rfl rfl, gm2 47 rfl rfl⟩
theorem wp_X6_codeAt : plainName yX6_codeAt.cls = true := by decide +kernel
theorem wd_X6_codeAt : yX6_codeAt.cls ≠ "java/lang/invoke/MethodHandle" ∧ yX6_codeAt.cls ≠ "java/lang/invoke/VarHandle" ∧ (parseMethodDescriptor yX6_codeAt.desc).map (fun d => d.parameters.length) = some 1 := by decide +kernel
theorem wt_X6_codeAt : Cond.instanceMethod yX6_codeAt ∈ lw_good ∧ Cond.selects RX6 yX6_codeAt yX6_codeAt ∈ lw_good ∧ Cond.initialized RX6 ∈ lw_good ∧ Cond.code yX6_codeAt cX6_codeAt 2 (some .int) ∈ lw_good := ⟨gm2 58 rfl rfl, gmp 2 rfl rfl, gm1 1 rfl rfl, gm2 59 rfl rfl⟩
theorem wp_X6_count : plainName yX6_count.cls = true := by decide +kernel
theorem wd_X6_count : yX6_count.cls ≠ "java/lang/invoke/MethodHandle" ∧ yX6_count.cls ≠ "java/lang/invoke/VarHandle" ∧ (parseMethodDescriptor yX6_count.desc).map (fun d => d.parameters.length) = some 1 := by decide +kernel
theorem wt_X6_count : Cond.instanceMethod yX6_count ∈ lw_good ∧ Cond.selects RX6 yX6_count yX6_count ∈ lw_good ∧ Cond.initialized RX6 ∈ lw_good ∧ Cond.code yX6_count cX6_count 2 (some .int) ∈ lw_good := ⟨gm2 172 rfl rfl, gm2 173 rfl rfl, gm1 1 rfl rfl, gm2 174 rfl rfl⟩
theorem wp_X6_digest : plainName yX6_digest.cls = true := by decide +kernel
theorem wd_X6_digest : yX6_digest.cls ≠ "java/lang/invoke/MethodHandle" ∧ yX6_digest.cls ≠ "java/lang/invoke/VarHandle" ∧ (parseMethodDescriptor yX6_digest.desc).map (fun d => d.parameters.length) = some 0 := by decide +kernel
theorem wt_X6_digest : Cond.instanceMethod yX6_digest ∈ lw_good ∧ Cond.selects RX6 yX6_digest yX6_digest ∈ lw_good ∧ Cond.initialized RX6 ∈ lw_good ∧ Cond.code yX6_digest cX6_digest 4 (some .long) ∈ lw_good := ⟨gm2 167 rfl rfl, gm2 168 rfl rfl, gm1 1 rfl rfl, gm2 169 rfl rfl⟩
theorem wp_X6_draw : plainName yX6_draw.cls = true := by decide +kernel
theorem wd_X6_draw : yX6_draw.cls ≠ "java/lang/invoke/MethodHandle" ∧ yX6_draw.cls ≠ "java/lang/invoke/VarHandle" ∧ (parseMethodDescriptor yX6_draw.desc).map (fun d => d.parameters.length) = some 3 := by decide +kernel
theorem wt_X6_draw : Cond.instanceMethod yX6_draw ∈ lw_good ∧ Cond.selects RX6 yX6_draw yX6_draw ∈ lw_good ∧ Cond.initialized RX6 ∈ lw_good ∧ Cond.code yX6_draw cX6_draw 5 (some .int) ∈ lw_good := ⟨gm4 48 rfl rfl, gm4 49 rfl rfl, gm1 1 rfl rfl, gm4 50 rfl rfl⟩
theorem wp_X6_enterLot : plainName yX6_enterLot.cls = true := by decide +kernel
theorem wd_X6_enterLot : yX6_enterLot.cls ≠ "java/lang/invoke/MethodHandle" ∧ yX6_enterLot.cls ≠ "java/lang/invoke/VarHandle" ∧ (parseMethodDescriptor yX6_enterLot.desc).map (fun d => d.parameters.length) = some 5 := by decide +kernel
theorem wt_X6_enterLot : Cond.instanceMethod yX6_enterLot ∈ lw_good ∧ Cond.selects RX6 yX6_enterLot yX6_enterLot ∈ lw_good ∧ Cond.initialized RX6 ∈ lw_good ∧ Cond.code yX6_enterLot cX6_enterLot 7 (some .int) ∈ lw_good := ⟨gm3 218 rfl rfl, gmp 30 rfl rfl, gm1 1 rfl rfl, gm3 219 rfl rfl⟩
theorem wp_X6_enterPressedLot : plainName yX6_enterPressedLot.cls = true := by decide +kernel
theorem wd_X6_enterPressedLot : yX6_enterPressedLot.cls ≠ "java/lang/invoke/MethodHandle" ∧ yX6_enterPressedLot.cls ≠ "java/lang/invoke/VarHandle" ∧ (parseMethodDescriptor yX6_enterPressedLot.desc).map (fun d => d.parameters.length) = some 1 := by decide +kernel
theorem wt_X6_enterPressedLot : Cond.instanceMethod yX6_enterPressedLot ∈ lw_good ∧ Cond.selects RX6 yX6_enterPressedLot yX6_enterPressedLot ∈ lw_good ∧ Cond.initialized RX6 ∈ lw_good ∧ Cond.code yX6_enterPressedLot cX6_enterPressedLot 3 none ∈ lw_good := ⟨gm4 16 rfl rfl, gmp 31 rfl rfl, gm1 1 rfl rfl, gm4 17 rfl rfl⟩
theorem wp_X6_enterSlips : plainName yX6_enterSlips.cls = true := by decide +kernel
theorem wd_X6_enterSlips : yX6_enterSlips.cls ≠ "java/lang/invoke/MethodHandle" ∧ yX6_enterSlips.cls ≠ "java/lang/invoke/VarHandle" ∧ (parseMethodDescriptor yX6_enterSlips.desc).map (fun d => d.parameters.length) = some 0 := by decide +kernel
theorem wt_X6_enterSlips : Cond.instanceMethod yX6_enterSlips ∈ lw_good ∧ Cond.selects RX6 yX6_enterSlips yX6_enterSlips ∈ lw_good ∧ Cond.initialized RX6 ∈ lw_good ∧ Cond.code yX6_enterSlips cX6_enterSlips 4 (some .int) ∈ lw_good := ⟨gm4 104 rfl rfl, gmp 34 rfl rfl, gm1 1 rfl rfl, gm4 105 rfl rfl⟩
theorem wp_X6_firstError : plainName yX6_firstError.cls = true := by decide +kernel
theorem wd_X6_firstError : yX6_firstError.cls ≠ "java/lang/invoke/MethodHandle" ∧ yX6_firstError.cls ≠ "java/lang/invoke/VarHandle" ∧ (parseMethodDescriptor yX6_firstError.desc).map (fun d => d.parameters.length) = some 0 := by decide +kernel
theorem wt_X6_firstError : Cond.instanceMethod yX6_firstError ∈ lw_good ∧ Cond.selects RX6 yX6_firstError yX6_firstError ∈ lw_good ∧ Cond.initialized RX6 ∈ lw_good ∧ Cond.code yX6_firstError cX6_firstError 2 (some .int) ∈ lw_good := ⟨gm2 49 rfl rfl, gm2 50 rfl rfl, gm1 1 rfl rfl, gm2 51 rfl rfl⟩
theorem wp_X6_goodShare : plainName yX6_goodShare.cls = true := by decide +kernel
theorem wd_X6_goodShare : yX6_goodShare.cls ≠ "java/lang/invoke/MethodHandle" ∧ yX6_goodShare.cls ≠ "java/lang/invoke/VarHandle" ∧ (parseMethodDescriptor yX6_goodShare.desc).map (fun d => d.parameters.length) = some 0 := by decide +kernel
theorem wt_X6_goodShare : Cond.instanceMethod yX6_goodShare ∈ lw_good ∧ Cond.selects RX6 yX6_goodShare yX6_goodShare ∈ lw_good ∧ Cond.initialized RX6 ∈ lw_good ∧ Cond.code yX6_goodShare cX6_goodShare 2 (some .double) ∈ lw_good := ⟨gm2 155 rfl rfl, gm2 156 rfl rfl, gm1 1 rfl rfl, gm2 157 rfl rfl⟩
theorem wp_X6_grower : plainName yX6_grower.cls = true := by decide +kernel
theorem wd_X6_grower : yX6_grower.cls ≠ "java/lang/invoke/MethodHandle" ∧ yX6_grower.cls ≠ "java/lang/invoke/VarHandle" ∧ (parseMethodDescriptor yX6_grower.desc).map (fun d => d.parameters.length) = some 2 := by decide +kernel
theorem wt_X6_grower : Cond.instanceMethod yX6_grower ∈ lw_good ∧ Cond.selects RX6 yX6_grower yX6_grower ∈ lw_good ∧ Cond.initialized RX6 ∈ lw_good ∧ Cond.code yX6_grower cX6_grower 3 (some .int) ∈ lw_good := ⟨gm3 48 rfl rfl, gm3 49 rfl rfl, gm1 1 rfl rfl, gm3 50 rfl rfl⟩
theorem wp_X6_ifPressed : plainName yX6_ifPressed.cls = true := by decide +kernel
theorem wd_X6_ifPressed : yX6_ifPressed.cls ≠ "java/lang/invoke/MethodHandle" ∧ yX6_ifPressed.cls ≠ "java/lang/invoke/VarHandle" ∧ (parseMethodDescriptor yX6_ifPressed.desc).map (fun d => d.parameters.length) = some 3 := by decide +kernel
theorem wt_X6_ifPressed : Cond.instanceMethod yX6_ifPressed ∈ lw_good ∧ Cond.selects RX6 yX6_ifPressed yX6_ifPressed ∈ lw_good ∧ Cond.initialized RX6 ∈ lw_good ∧ Cond.code yX6_ifPressed cX6_ifPressed 4 (some .int) ∈ lw_good := ⟨gm3 72 rfl rfl, gmp 22 rfl rfl, gm1 1 rfl rfl, gm3 73 rfl rfl⟩
theorem wp_X6_isOutside : plainName yX6_isOutside.cls = true := by decide +kernel
theorem wd_X6_isOutside : yX6_isOutside.cls ≠ "java/lang/invoke/MethodHandle" ∧ yX6_isOutside.cls ≠ "java/lang/invoke/VarHandle" ∧ (parseMethodDescriptor yX6_isOutside.desc).map (fun d => d.parameters.length) = some 3 := by decide +kernel
theorem wt_X6_isOutside : Cond.static yX6_isOutside ∈ lw_good ∧ Cond.initialized yX6_isOutside.cls ∈ lw_good ∧ Cond.code yX6_isOutside cX6_isOutside 3 (some .boolean) ∈ lw_good := ⟨gm3 104 rfl rfl, gm1 1 rfl rfl, gm3 105 rfl rfl⟩
theorem wp_X6_isSetting : plainName yX6_isSetting.cls = true := by decide +kernel
theorem wd_X6_isSetting : yX6_isSetting.cls ≠ "java/lang/invoke/MethodHandle" ∧ yX6_isSetting.cls ≠ "java/lang/invoke/VarHandle" ∧ (parseMethodDescriptor yX6_isSetting.desc).map (fun d => d.parameters.length) = some 1 := by decide +kernel
theorem wt_X6_isSetting : Cond.static yX6_isSetting ∈ lw_good ∧ Cond.initialized yX6_isSetting.cls ∈ lw_good ∧ Cond.code yX6_isSetting cX6_isSetting 1 (some .boolean) ∈ lw_good := ⟨gm3 25 rfl rfl, gm1 1 rfl rfl, gm3 26 rfl rfl⟩
theorem wp_X6_isSettingValue : plainName yX6_isSettingValue.cls = true := by decide +kernel
theorem wd_X6_isSettingValue : yX6_isSettingValue.cls ≠ "java/lang/invoke/MethodHandle" ∧ yX6_isSettingValue.cls ≠ "java/lang/invoke/VarHandle" ∧ (parseMethodDescriptor yX6_isSettingValue.desc).map (fun d => d.parameters.length) = some 2 := by decide +kernel
theorem wt_X6_isSettingValue : Cond.static yX6_isSettingValue ∈ lw_good ∧ Cond.initialized yX6_isSettingValue.cls ∈ lw_good ∧ Cond.code yX6_isSettingValue cX6_isSettingValue 2 (some .boolean) ∈ lw_good := ⟨gm3 164 rfl rfl, gm1 1 rfl rfl, gm3 165 rfl rfl⟩
theorem wp_X6_isVariety : plainName yX6_isVariety.cls = true := by decide +kernel
theorem wd_X6_isVariety : yX6_isVariety.cls ≠ "java/lang/invoke/MethodHandle" ∧ yX6_isVariety.cls ≠ "java/lang/invoke/VarHandle" ∧ (parseMethodDescriptor yX6_isVariety.desc).map (fun d => d.parameters.length) = some 1 := by decide +kernel
theorem wt_X6_isVariety : Cond.static yX6_isVariety ∈ lw_good ∧ Cond.initialized yX6_isVariety.cls ∈ lw_good ∧ Cond.code yX6_isVariety cX6_isVariety 1 (some .boolean) ∈ lw_good := ⟨gm2 77 rfl rfl, gm1 1 rfl rfl, gm2 78 rfl rfl⟩
theorem wp_X6_loseByCleaning : plainName yX6_loseByCleaning.cls = true := by decide +kernel
theorem wd_X6_loseByCleaning : yX6_loseByCleaning.cls ≠ "java/lang/invoke/MethodHandle" ∧ yX6_loseByCleaning.cls ≠ "java/lang/invoke/VarHandle" ∧ (parseMethodDescriptor yX6_loseByCleaning.desc).map (fun d => d.parameters.length) = some 2 := by decide +kernel
theorem wt_X6_loseByCleaning : Cond.instanceMethod yX6_loseByCleaning ∈ lw_good ∧ Cond.selects RX6 yX6_loseByCleaning yX6_loseByCleaning ∈ lw_good ∧ Cond.initialized RX6 ∈ lw_good ∧ Cond.code yX6_loseByCleaning cX6_loseByCleaning 3 none ∈ lw_good := ⟨gm2 26 rfl rfl, gmp 1 rfl rfl, gm1 1 rfl rfl, gm2 27 rfl rfl⟩
theorem wp_X6_lossBy : plainName yX6_lossBy.cls = true := by decide +kernel
theorem wd_X6_lossBy : yX6_lossBy.cls ≠ "java/lang/invoke/MethodHandle" ∧ yX6_lossBy.cls ≠ "java/lang/invoke/VarHandle" ∧ (parseMethodDescriptor yX6_lossBy.desc).map (fun d => d.parameters.length) = some 1 := by decide +kernel
theorem wt_X6_lossBy : Cond.instanceMethod yX6_lossBy ∈ lw_good ∧ Cond.selects RX6 yX6_lossBy yX6_lossBy ∈ lw_good ∧ Cond.initialized RX6 ∈ lw_good ∧ Cond.code yX6_lossBy cX6_lossBy 4 (some .int) ∈ lw_good := ⟨gm3 160 rfl rfl, gm3 161 rfl rfl, gm1 1 rfl rfl, gm3 162 rfl rfl⟩
theorem wp_X6_lot : plainName yX6_lot.cls = true := by decide +kernel
theorem wd_X6_lot : yX6_lot.cls ≠ "java/lang/invoke/MethodHandle" ∧ yX6_lot.cls ≠ "java/lang/invoke/VarHandle" ∧ (parseMethodDescriptor yX6_lot.desc).map (fun d => d.parameters.length) = some 2 := by decide +kernel
theorem wt_X6_lot : Cond.instanceMethod yX6_lot ∈ lw_good ∧ Cond.selects RX6 yX6_lot yX6_lot ∈ lw_good ∧ Cond.initialized RX6 ∈ lw_good ∧ Cond.code yX6_lot cX6_lot 3 (some .int) ∈ lw_good := ⟨gm3 62 rfl rfl, gm3 63 rfl rfl, gm1 1 rfl rfl, gm3 64 rfl rfl⟩
theorem wp_X6_lotsWith : plainName yX6_lotsWith.cls = true := by decide +kernel
theorem wd_X6_lotsWith : yX6_lotsWith.cls ≠ "java/lang/invoke/MethodHandle" ∧ yX6_lotsWith.cls ≠ "java/lang/invoke/VarHandle" ∧ (parseMethodDescriptor yX6_lotsWith.desc).map (fun d => d.parameters.length) = some 3 := by decide +kernel
theorem wt_X6_lotsWith : Cond.instanceMethod yX6_lotsWith ∈ lw_good ∧ Cond.selects RX6 yX6_lotsWith yX6_lotsWith ∈ lw_good ∧ Cond.initialized RX6 ∈ lw_good ∧ Cond.code yX6_lotsWith cX6_lotsWith 8 (some .int) ∈ lw_good := ⟨gm2 177 rfl rfl, gmp 14 rfl rfl, gm1 1 rfl rfl, gm2 178 rfl rfl⟩
theorem wp_X6_mixed : plainName yX6_mixed.cls = true := by decide +kernel
theorem wd_X6_mixed : yX6_mixed.cls ≠ "java/lang/invoke/MethodHandle" ∧ yX6_mixed.cls ≠ "java/lang/invoke/VarHandle" ∧ (parseMethodDescriptor yX6_mixed.desc).map (fun d => d.parameters.length) = some 2 := by decide +kernel
theorem wt_X6_mixed : Cond.static yX6_mixed ∈ lw_good ∧ Cond.initialized yX6_mixed.cls ∈ lw_good ∧ Cond.code yX6_mixed cX6_mixed 4 (some .long) ∈ lw_good := ⟨gm3 17 rfl rfl, gm1 1 rfl rfl, gm3 18 rfl rfl⟩
theorem wp_X6_mixedWithGrowers : plainName yX6_mixedWithGrowers.cls = true := by decide +kernel
theorem wd_X6_mixedWithGrowers : yX6_mixedWithGrowers.cls ≠ "java/lang/invoke/MethodHandle" ∧ yX6_mixedWithGrowers.cls ≠ "java/lang/invoke/VarHandle" ∧ (parseMethodDescriptor yX6_mixedWithGrowers.desc).map (fun d => d.parameters.length) = some 1 := by decide +kernel
theorem wt_X6_mixedWithGrowers : Cond.instanceMethod yX6_mixedWithGrowers ∈ lw_good ∧ Cond.selects RX6 yX6_mixedWithGrowers yX6_mixedWithGrowers ∈ lw_good ∧ Cond.initialized RX6 ∈ lw_good ∧ Cond.code yX6_mixedWithGrowers cX6_mixedWithGrowers 8 (some .long) ∈ lw_good := ⟨gm3 45 rfl rfl, gmp 18 rfl rfl, gm1 1 rfl rfl, gm3 46 rfl rfl⟩
theorem wp_X6_mixedWithLots : plainName yX6_mixedWithLots.cls = true := by decide +kernel
theorem wd_X6_mixedWithLots : yX6_mixedWithLots.cls ≠ "java/lang/invoke/MethodHandle" ∧ yX6_mixedWithLots.cls ≠ "java/lang/invoke/VarHandle" ∧ (parseMethodDescriptor yX6_mixedWithLots.desc).map (fun d => d.parameters.length) = some 1 := by decide +kernel
theorem wt_X6_mixedWithLots : Cond.instanceMethod yX6_mixedWithLots ∈ lw_good ∧ Cond.selects RX6 yX6_mixedWithLots yX6_mixedWithLots ∈ lw_good ∧ Cond.initialized RX6 ∈ lw_good ∧ Cond.code yX6_mixedWithLots cX6_mixedWithLots 8 (some .long) ∈ lw_good := ⟨gm3 59 rfl rfl, gmp 20 rfl rfl, gm1 1 rfl rfl, gm3 60 rfl rfl⟩
theorem wp_X6_mixedWithTanks : plainName yX6_mixedWithTanks.cls = true := by decide +kernel
theorem wd_X6_mixedWithTanks : yX6_mixedWithTanks.cls ≠ "java/lang/invoke/MethodHandle" ∧ yX6_mixedWithTanks.cls ≠ "java/lang/invoke/VarHandle" ∧ (parseMethodDescriptor yX6_mixedWithTanks.desc).map (fun d => d.parameters.length) = some 1 := by decide +kernel
theorem wt_X6_mixedWithTanks : Cond.instanceMethod yX6_mixedWithTanks ∈ lw_good ∧ Cond.selects RX6 yX6_mixedWithTanks yX6_mixedWithTanks ∈ lw_good ∧ Cond.initialized RX6 ∈ lw_good ∧ Cond.code yX6_mixedWithTanks cX6_mixedWithTanks 8 (some .long) ∈ lw_good := ⟨gm3 85 rfl rfl, gmp 25 rfl rfl, gm1 1 rfl rfl, gm3 86 rfl rfl⟩
theorem wp_X6_mixedWithVarieties : plainName yX6_mixedWithVarieties.cls = true := by decide +kernel
theorem wd_X6_mixedWithVarieties : yX6_mixedWithVarieties.cls ≠ "java/lang/invoke/MethodHandle" ∧ yX6_mixedWithVarieties.cls ≠ "java/lang/invoke/VarHandle" ∧ (parseMethodDescriptor yX6_mixedWithVarieties.desc).map (fun d => d.parameters.length) = some 1 := by decide +kernel
theorem wt_X6_mixedWithVarieties : Cond.instanceMethod yX6_mixedWithVarieties ∈ lw_good ∧ Cond.selects RX6 yX6_mixedWithVarieties yX6_mixedWithVarieties ∈ lw_good ∧ Cond.initialized RX6 ∈ lw_good ∧ Cond.code yX6_mixedWithVarieties cX6_mixedWithVarieties 7 (some .long) ∈ lw_good := ⟨gm3 140 rfl rfl, gmp 29 rfl rfl, gm1 1 rfl rfl, gm3 141 rfl rfl⟩
theorem wp_X6_move : plainName yX6_move.cls = true := by decide +kernel
theorem wd_X6_move : yX6_move.cls ≠ "java/lang/invoke/MethodHandle" ∧ yX6_move.cls ≠ "java/lang/invoke/VarHandle" ∧ (parseMethodDescriptor yX6_move.desc).map (fun d => d.parameters.length) = some 4 := by decide +kernel
theorem wt_X6_move : Cond.instanceMethod yX6_move ∈ lw_good ∧ Cond.selects RX6 yX6_move yX6_move ∈ lw_good ∧ Cond.initialized RX6 ∈ lw_good ∧ Cond.code yX6_move cX6_move 7 (some .int) ∈ lw_good := ⟨gm4 62 rfl rfl, gm4 63 rfl rfl, gm1 1 rfl rfl, gm4 64 rfl rfl⟩
theorem wp_X6_next : plainName yX6_next.cls = true := by decide +kernel
theorem wd_X6_next : yX6_next.cls ≠ "java/lang/invoke/MethodHandle" ∧ yX6_next.cls ≠ "java/lang/invoke/VarHandle" ∧ (parseMethodDescriptor yX6_next.desc).map (fun d => d.parameters.length) = some 1 := by decide +kernel
theorem wt_X6_next : Cond.instanceMethod yX6_next ∈ lw_good ∧ Cond.selects RX6 yX6_next yX6_next ∈ lw_good ∧ Cond.initialized RX6 ∈ lw_good ∧ Cond.code yX6_next cX6_next 2 (some .int) ∈ lw_good := ⟨gm3 155 rfl rfl, gm3 156 rfl rfl, gm1 1 rfl rfl, gm3 157 rfl rfl⟩
theorem wp_X6_oilIn : plainName yX6_oilIn.cls = true := by decide +kernel
theorem wd_X6_oilIn : yX6_oilIn.cls ≠ "java/lang/invoke/MethodHandle" ∧ yX6_oilIn.cls ≠ "java/lang/invoke/VarHandle" ∧ (parseMethodDescriptor yX6_oilIn.desc).map (fun d => d.parameters.length) = some 2 := by decide +kernel
theorem wt_X6_oilIn : Cond.instanceMethod yX6_oilIn ∈ lw_good ∧ Cond.selects RX6 yX6_oilIn yX6_oilIn ∈ lw_good ∧ Cond.initialized RX6 ∈ lw_good ∧ Cond.code yX6_oilIn cX6_oilIn 5 (some .int) ∈ lw_good := ⟨gm3 100 rfl rfl, gm3 101 rfl rfl, gm1 1 rfl rfl, gm3 102 rfl rfl⟩
theorem wp_X6_pass : plainName yX6_pass.cls = true := by decide +kernel
theorem wd_X6_pass : yX6_pass.cls ≠ "java/lang/invoke/MethodHandle" ∧ yX6_pass.cls ≠ "java/lang/invoke/VarHandle" ∧ (parseMethodDescriptor yX6_pass.desc).map (fun d => d.parameters.length) = some 1 := by decide +kernel
theorem wt_X6_pass : Cond.instanceMethod yX6_pass ∈ lw_good ∧ Cond.selects RX6 yX6_pass yX6_pass ∈ lw_good ∧ Cond.initialized RX6 ∈ lw_good ∧ Cond.code yX6_pass cX6_pass 6 (some .int) ∈ lw_good := ⟨gm4 71 rfl rfl, gm4 72 rfl rfl, gm1 1 rfl rfl, gm4 73 rfl rfl⟩
theorem wp_X6_pourPressedOil : plainName yX6_pourPressedOil.cls = true := by decide +kernel
theorem wd_X6_pourPressedOil : yX6_pourPressedOil.cls ≠ "java/lang/invoke/MethodHandle" ∧ yX6_pourPressedOil.cls ≠ "java/lang/invoke/VarHandle" ∧ (parseMethodDescriptor yX6_pourPressedOil.desc).map (fun d => d.parameters.length) = some 1 := by decide +kernel
theorem wt_X6_pourPressedOil : Cond.instanceMethod yX6_pourPressedOil ∈ lw_good ∧ Cond.selects RX6 yX6_pourPressedOil yX6_pourPressedOil ∈ lw_good ∧ Cond.initialized RX6 ∈ lw_good ∧ Cond.code yX6_pourPressedOil cX6_pourPressedOil 4 none ∈ lw_good := ⟨gm4 20 rfl rfl, gmp 32 rfl rfl, gm1 1 rfl rfl, gm4 21 rfl rfl⟩
theorem wp_X6_press : plainName yX6_press.cls = true := by decide +kernel
theorem wd_X6_press : yX6_press.cls ≠ "java/lang/invoke/MethodHandle" ∧ yX6_press.cls ≠ "java/lang/invoke/VarHandle" ∧ (parseMethodDescriptor yX6_press.desc).map (fun d => d.parameters.length) = some 2 := by decide +kernel
theorem wt_X6_press : Cond.instanceMethod yX6_press ∈ lw_good ∧ Cond.selects RX6 yX6_press yX6_press ∈ lw_good ∧ Cond.initialized RX6 ∈ lw_good ∧ Cond.code yX6_press cX6_press 3 (some .int) ∈ lw_good := ⟨gm4 10 rfl rfl, gm4 11 rfl rfl, gm1 1 rfl rfl, gm4 12 rfl rfl⟩
theorem wp_X6_reasonAgainstAppeal : plainName yX6_reasonAgainstAppeal.cls = true := by decide +kernel
theorem wd_X6_reasonAgainstAppeal : yX6_reasonAgainstAppeal.cls ≠ "java/lang/invoke/MethodHandle" ∧ yX6_reasonAgainstAppeal.cls ≠ "java/lang/invoke/VarHandle" ∧ (parseMethodDescriptor yX6_reasonAgainstAppeal.desc).map (fun d => d.parameters.length) = some 1 := by decide +kernel
theorem wt_X6_reasonAgainstAppeal : Cond.instanceMethod yX6_reasonAgainstAppeal ∈ lw_good ∧ Cond.selects RX6 yX6_reasonAgainstAppeal yX6_reasonAgainstAppeal ∈ lw_good ∧ Cond.initialized RX6 ∈ lw_good ∧ Cond.code yX6_reasonAgainstAppeal cX6_reasonAgainstAppeal 3 (some .int) ∈ lw_good := ⟨gm3 76 rfl rfl, gmp 23 rfl rfl, gm1 1 rfl rfl, gm3 77 rfl rfl⟩
theorem wp_X6_reasonAgainstPress : plainName yX6_reasonAgainstPress.cls = true := by decide +kernel
theorem wd_X6_reasonAgainstPress : yX6_reasonAgainstPress.cls ≠ "java/lang/invoke/MethodHandle" ∧ yX6_reasonAgainstPress.cls ≠ "java/lang/invoke/VarHandle" ∧ (parseMethodDescriptor yX6_reasonAgainstPress.desc).map (fun d => d.parameters.length) = some 2 := by decide +kernel
theorem wt_X6_reasonAgainstPress : Cond.instanceMethod yX6_reasonAgainstPress ∈ lw_good ∧ Cond.selects RX6 yX6_reasonAgainstPress yX6_reasonAgainstPress ∈ lw_good ∧ Cond.initialized RX6 ∈ lw_good ∧ Cond.code yX6_reasonAgainstPress cX6_reasonAgainstPress 3 (some .int) ∈ lw_good := ⟨gm2 101 rfl rfl, gmp 10 rfl rfl, gm1 1 rfl rfl, gm2 102 rfl rfl⟩
theorem wp_X6_residueVariety : plainName yX6_residueVariety.cls = true := by decide +kernel
theorem wd_X6_residueVariety : yX6_residueVariety.cls ≠ "java/lang/invoke/MethodHandle" ∧ yX6_residueVariety.cls ≠ "java/lang/invoke/VarHandle" ∧ (parseMethodDescriptor yX6_residueVariety.desc).map (fun d => d.parameters.length) = some 0 := by decide +kernel
theorem wt_X6_residueVariety : Cond.instanceMethod yX6_residueVariety ∈ lw_good ∧ Cond.selects RX6 yX6_residueVariety yX6_residueVariety ∈ lw_good ∧ Cond.initialized RX6 ∈ lw_good ∧ Cond.code yX6_residueVariety cX6_residueVariety 1 (some .int) ∈ lw_good := ⟨gm2 182 rfl rfl, gmp 15 rfl rfl, gm1 1 rfl rfl, gm2 183 rfl rfl⟩
theorem wp_X6_secondOilOf : plainName yX6_secondOilOf.cls = true := by decide +kernel
theorem wd_X6_secondOilOf : yX6_secondOilOf.cls ≠ "java/lang/invoke/MethodHandle" ∧ yX6_secondOilOf.cls ≠ "java/lang/invoke/VarHandle" ∧ (parseMethodDescriptor yX6_secondOilOf.desc).map (fun d => d.parameters.length) = some 1 := by decide +kernel
theorem wt_X6_secondOilOf : Cond.instanceMethod yX6_secondOilOf ∈ lw_good ∧ Cond.selects RX6 yX6_secondOilOf yX6_secondOilOf ∈ lw_good ∧ Cond.initialized RX6 ∈ lw_good ∧ Cond.code yX6_secondOilOf cX6_secondOilOf 3 (some .int) ∈ lw_good := ⟨gm3 80 rfl rfl, gmp 24 rfl rfl, gm1 1 rfl rfl, gm3 81 rfl rfl⟩
theorem wp_X6_set : plainName yX6_set.cls = true := by decide +kernel
theorem wd_X6_set : yX6_set.cls ≠ "java/lang/invoke/MethodHandle" ∧ yX6_set.cls ≠ "java/lang/invoke/VarHandle" ∧ (parseMethodDescriptor yX6_set.desc).map (fun d => d.parameters.length) = some 2 := by decide +kernel
theorem wt_X6_set : Cond.instanceMethod yX6_set ∈ lw_good ∧ Cond.selects RX6 yX6_set yX6_set ∈ lw_good ∧ Cond.initialized RX6 ∈ lw_good ∧ Cond.code yX6_set cX6_set 4 (some .int) ∈ lw_good := ⟨gm4 2 rfl rfl, gm4 3 rfl rfl, gm1 1 rfl rfl, gm4 4 rfl rfl⟩
theorem wp_X6_setYield : plainName yX6_setYield.cls = true := by decide +kernel
theorem wd_X6_setYield : yX6_setYield.cls ≠ "java/lang/invoke/MethodHandle" ∧ yX6_setYield.cls ≠ "java/lang/invoke/VarHandle" ∧ (parseMethodDescriptor yX6_setYield.desc).map (fun d => d.parameters.length) = some 2 := by decide +kernel
theorem wt_X6_setYield : Cond.instanceMethod yX6_setYield ∈ lw_good ∧ Cond.selects RX6 yX6_setYield yX6_setYield ∈ lw_good ∧ Cond.initialized RX6 ∈ lw_good ∧ Cond.code yX6_setYield cX6_setYield 4 (some .int) ∈ lw_good := ⟨gm3 234 rfl rfl, gm3 235 rfl rfl, gm1 1 rfl rfl, gm3 236 rfl rfl⟩
theorem wp_X6_setting : plainName yX6_setting.cls = true := by decide +kernel
theorem wd_X6_setting : yX6_setting.cls ≠ "java/lang/invoke/MethodHandle" ∧ yX6_setting.cls ≠ "java/lang/invoke/VarHandle" ∧ (parseMethodDescriptor yX6_setting.desc).map (fun d => d.parameters.length) = some 1 := by decide +kernel
theorem wt_X6_setting : Cond.instanceMethod yX6_setting ∈ lw_good ∧ Cond.selects RX6 yX6_setting yX6_setting ∈ lw_good ∧ Cond.initialized RX6 ∈ lw_good ∧ Cond.code yX6_setting cX6_setting 2 (some .int) ∈ lw_good := ⟨gm3 21 rfl rfl, gm3 22 rfl rfl, gm1 1 rfl rfl, gm3 23 rfl rfl⟩
theorem wp_X6_settleAppeal : plainName yX6_settleAppeal.cls = true := by decide +kernel
theorem wd_X6_settleAppeal : yX6_settleAppeal.cls ≠ "java/lang/invoke/MethodHandle" ∧ yX6_settleAppeal.cls ≠ "java/lang/invoke/VarHandle" ∧ (parseMethodDescriptor yX6_settleAppeal.desc).map (fun d => d.parameters.length) = some 2 := by decide +kernel
theorem wt_X6_settleAppeal : Cond.instanceMethod yX6_settleAppeal ∈ lw_good ∧ Cond.selects RX6 yX6_settleAppeal yX6_settleAppeal ∈ lw_good ∧ Cond.initialized RX6 ∈ lw_good ∧ Cond.code yX6_settleAppeal cX6_settleAppeal 4 none ∈ lw_good := ⟨gm4 41 rfl rfl, gmp 33 rfl rfl, gm1 1 rfl rfl, gm4 42 rfl rfl⟩
theorem wp_X6_sumOfGrowers : plainName yX6_sumOfGrowers.cls = true := by decide +kernel
theorem wd_X6_sumOfGrowers : yX6_sumOfGrowers.cls ≠ "java/lang/invoke/MethodHandle" ∧ yX6_sumOfGrowers.cls ≠ "java/lang/invoke/VarHandle" ∧ (parseMethodDescriptor yX6_sumOfGrowers.desc).map (fun d => d.parameters.length) = some 1 := by decide +kernel
theorem wt_X6_sumOfGrowers : Cond.instanceMethod yX6_sumOfGrowers ∈ lw_good ∧ Cond.selects RX6 yX6_sumOfGrowers yX6_sumOfGrowers ∈ lw_good ∧ Cond.initialized RX6 ∈ lw_good ∧ Cond.code yX6_sumOfGrowers cX6_sumOfGrowers 4 (some .int) ∈ lw_good := ⟨gm2 186 rfl rfl, gmp 16 rfl rfl, gm1 1 rfl rfl, gm2 187 rfl rfl⟩
theorem wp_X6_taken : plainName yX6_taken.cls = true := by decide +kernel
theorem wd_X6_taken : yX6_taken.cls ≠ "java/lang/invoke/MethodHandle" ∧ yX6_taken.cls ≠ "java/lang/invoke/VarHandle" ∧ (parseMethodDescriptor yX6_taken.desc).map (fun d => d.parameters.length) = some 3 := by decide +kernel
theorem wt_X6_taken : Cond.instanceMethod yX6_taken ∈ lw_good ∧ Cond.selects RX6 yX6_taken yX6_taken ∈ lw_good ∧ Cond.initialized RX6 ∈ lw_good ∧ Cond.code yX6_taken cX6_taken 4 (some .int) ∈ lw_good := ⟨gm3 113 rfl rfl, gm3 114 rfl rfl, gm1 1 rfl rfl, gm3 115 rfl rfl⟩
theorem wp_X6_tank : plainName yX6_tank.cls = true := by decide +kernel
theorem wd_X6_tank : yX6_tank.cls ≠ "java/lang/invoke/MethodHandle" ∧ yX6_tank.cls ≠ "java/lang/invoke/VarHandle" ∧ (parseMethodDescriptor yX6_tank.desc).map (fun d => d.parameters.length) = some 2 := by decide +kernel
theorem wt_X6_tank : Cond.instanceMethod yX6_tank ∈ lw_good ∧ Cond.selects RX6 yX6_tank yX6_tank ∈ lw_good ∧ Cond.initialized RX6 ∈ lw_good ∧ Cond.code yX6_tank cX6_tank 3 (some .int) ∈ lw_good := ⟨gm3 88 rfl rfl, gm3 89 rfl rfl, gm1 1 rfl rfl, gm3 90 rfl rfl⟩
theorem wp_X6_undo : plainName yX6_undo.cls = true := by decide +kernel
theorem wd_X6_undo : yX6_undo.cls ≠ "java/lang/invoke/MethodHandle" ∧ yX6_undo.cls ≠ "java/lang/invoke/VarHandle" ∧ (parseMethodDescriptor yX6_undo.desc).map (fun d => d.parameters.length) = some 0 := by decide +kernel
theorem wt_X6_undo : Cond.instanceMethod yX6_undo ∈ lw_good ∧ Cond.selects RX6 yX6_undo yX6_undo ∈ lw_good ∧ Cond.initialized RX6 ∈ lw_good ∧ Cond.code yX6_undo cX6_undo 1 (some .int) ∈ lw_good := ⟨gm4 118 rfl rfl, gm4 119 rfl rfl, gm1 1 rfl rfl, gm4 120 rfl rfl⟩
theorem wp_X6_variety : plainName yX6_variety.cls = true := by decide +kernel
theorem wd_X6_variety : yX6_variety.cls ≠ "java/lang/invoke/MethodHandle" ∧ yX6_variety.cls ≠ "java/lang/invoke/VarHandle" ∧ (parseMethodDescriptor yX6_variety.desc).map (fun d => d.parameters.length) = some 2 := by decide +kernel
theorem wt_X6_variety : Cond.instanceMethod yX6_variety ∈ lw_good ∧ Cond.selects RX6 yX6_variety yX6_variety ∈ lw_good ∧ Cond.initialized RX6 ∈ lw_good ∧ Cond.code yX6_variety cX6_variety 3 (some .int) ∈ lw_good := ⟨gm3 143 rfl rfl, gm3 144 rfl rfl, gm1 1 rfl rfl, gm3 145 rfl rfl⟩
theorem wp_X6_whyNot : plainName yX6_whyNot.cls = true := by decide +kernel
theorem wd_X6_whyNot : yX6_whyNot.cls ≠ "java/lang/invoke/MethodHandle" ∧ yX6_whyNot.cls ≠ "java/lang/invoke/VarHandle" ∧ (parseMethodDescriptor yX6_whyNot.desc).map (fun d => d.parameters.length) = some 2 := by decide +kernel
theorem wt_X6_whyNot : Cond.instanceMethod yX6_whyNot ∈ lw_good ∧ Cond.selects RX6 yX6_whyNot yX6_whyNot ∈ lw_good ∧ Cond.initialized RX6 ∈ lw_good ∧ Cond.code yX6_whyNot cX6_whyNot 3 (some .int) ∈ lw_good := ⟨gm4 154 rfl rfl, gm4 155 rfl rfl, gm1 1 rfl rfl, gm4 156 rfl rfl⟩
theorem wp_X7_accounts : plainName yX7_accounts.cls = true := by decide +kernel
theorem wd_X7_accounts : yX7_accounts.cls ≠ "java/lang/invoke/MethodHandle" ∧ yX7_accounts.cls ≠ "java/lang/invoke/VarHandle" ∧ (parseMethodDescriptor yX7_accounts.desc).map (fun d => d.parameters.length) = some 0 := by decide +kernel
theorem wt_X7_accounts : Cond.instanceMethod yX7_accounts ∈ lw_good ∧ Cond.selects RX7 yX7_accounts yX7_accounts ∈ lw_good ∧ Cond.initialized RX7 ∈ lw_good ∧ Cond.code yX7_accounts cX7_accounts 3 (some .int) ∈ lw_good := ⟨gm6 41 rfl rfl, gmp 76 rfl rfl, gm1 8 rfl rfl, gm6 42 rfl rfl⟩
theorem wp_X7_addGrower : plainName yX7_addGrower.cls = true := by decide +kernel
theorem wd_X7_addGrower : yX7_addGrower.cls ≠ "java/lang/invoke/MethodHandle" ∧ yX7_addGrower.cls ≠ "java/lang/invoke/VarHandle" ∧ (parseMethodDescriptor yX7_addGrower.desc).map (fun d => d.parameters.length) = some 0 := by decide +kernel
theorem wt_X7_addGrower : Cond.instanceMethod yX7_addGrower ∈ lw_good ∧ Cond.selects RX7 yX7_addGrower yX7_addGrower ∈ lw_good ∧ Cond.initialized RX7 ∈ lw_good ∧ Cond.code yX7_addGrower cX7_addGrower 1 (some .int) ∈ lw_good := ⟨gm5 14 rfl rfl, gm5 15 rfl rfl, gm1 8 rfl rfl, gm5 16 rfl rfl⟩
theorem wp_X7_addLot : plainName yX7_addLot.cls = true := by decide +kernel
theorem wd_X7_addLot : yX7_addLot.cls ≠ "java/lang/invoke/MethodHandle" ∧ yX7_addLot.cls ≠ "java/lang/invoke/VarHandle" ∧ (parseMethodDescriptor yX7_addLot.desc).map (fun d => d.parameters.length) = some 5 := by decide +kernel
theorem wt_X7_addLot : Cond.instanceMethod yX7_addLot ∈ lw_good ∧ Cond.selects RX7 yX7_addLot yX7_addLot ∈ lw_good ∧ Cond.initialized RX7 ∈ lw_good ∧ Cond.code yX7_addLot cX7_addLot 6 (some .int) ∈ lw_good := ⟨gm5 22 rfl rfl, gm5 23 rfl rfl, gm1 8 rfl rfl, gm5 24 rfl rfl⟩
theorem wp_X7_addSlips : plainName yX7_addSlips.cls = true := by decide +kernel
theorem wd_X7_addSlips : yX7_addSlips.cls ≠ "java/lang/invoke/MethodHandle" ∧ yX7_addSlips.cls ≠ "java/lang/invoke/VarHandle" ∧ (parseMethodDescriptor yX7_addSlips.desc).map (fun d => d.parameters.length) = some 0 := by decide +kernel
theorem wt_X7_addSlips : Cond.instanceMethod yX7_addSlips ∈ lw_good ∧ Cond.selects RX7 yX7_addSlips yX7_addSlips ∈ lw_good ∧ Cond.initialized RX7 ∈ lw_good ∧ Cond.code yX7_addSlips cX7_addSlips 3 (some .int) ∈ lw_good := ⟨gm5 216 rfl rfl, gm5 217 rfl rfl, gm1 8 rfl rfl, gm5 218 rfl rfl⟩
theorem wp_X7_addTank : plainName yX7_addTank.cls = true := by decide +kernel
theorem wd_X7_addTank : yX7_addTank.cls ≠ "java/lang/invoke/MethodHandle" ∧ yX7_addTank.cls ≠ "java/lang/invoke/VarHandle" ∧ (parseMethodDescriptor yX7_addTank.desc).map (fun d => d.parameters.length) = some 1 := by decide +kernel
theorem wt_X7_addTank : Cond.instanceMethod yX7_addTank ∈ lw_good ∧ Cond.selects RX7 yX7_addTank yX7_addTank ∈ lw_good ∧ Cond.initialized RX7 ∈ lw_good ∧ Cond.code yX7_addTank cX7_addTank 2 (some .int) ∈ lw_good := ⟨gm5 48 rfl rfl, gm5 49 rfl rfl, gm1 8 rfl rfl, gm5 50 rfl rfl⟩
theorem wp_X7_adds : plainName yX7_adds.cls = true := by decide +kernel
theorem wd_X7_adds : yX7_adds.cls ≠ "java/lang/invoke/MethodHandle" ∧ yX7_adds.cls ≠ "java/lang/invoke/VarHandle" ∧ (parseMethodDescriptor yX7_adds.desc).map (fun d => d.parameters.length) = some 1 := by decide +kernel
theorem wt_X7_adds : Cond.instanceMethod yX7_adds ∈ lw_good ∧ Cond.selects RX7 yX7_adds yX7_adds ∈ lw_good ∧ Cond.initialized RX7 ∈ lw_good ∧ Cond.code yX7_adds cX7_adds 4 (some .boolean) ∈ lw_good := ⟨gm5 221 rfl rfl, gmp 67 rfl rfl, gm1 8 rfl rfl, gm5 222 rfl rfl⟩
theorem wp_X7_appeal : plainName yX7_appeal.cls = true := by decide +kernel
theorem wd_X7_appeal : yX7_appeal.cls ≠ "java/lang/invoke/MethodHandle" ∧ yX7_appeal.cls ≠ "java/lang/invoke/VarHandle" ∧ (parseMethodDescriptor yX7_appeal.desc).map (fun d => d.parameters.length) = some 1 := by decide +kernel
theorem wt_X7_appeal : Cond.instanceMethod yX7_appeal ∈ lw_good ∧ Cond.selects RX7 yX7_appeal yX7_appeal ∈ lw_good ∧ Cond.initialized RX7 ∈ lw_good ∧ Cond.code yX7_appeal cX7_appeal 5 (some .int) ∈ lw_good := ⟨gm5 138 rfl rfl, gm5 139 rfl rfl, gm1 8 rfl rfl, gm5 140 rfl rfl⟩
theorem wp_X7_append : plainName yX7_append.cls = true := by decide +kernel
theorem wd_X7_append : yX7_append.cls ≠ "java/lang/invoke/MethodHandle" ∧ yX7_append.cls ≠ "java/lang/invoke/VarHandle" ∧ (parseMethodDescriptor yX7_append.desc).map (fun d => d.parameters.length) = some 1 := by decide +kernel
theorem wt_X7_append : Cond.instanceMethod yX7_append ∈ lw_good ∧ Cond.selects RX7 yX7_append yX7_append ∈ lw_good ∧ Cond.initialized RX7 ∈ lw_good ∧ Cond.code yX7_append cX7_append 2 (some .int) ∈ lw_good := ⟨gm5 181 rfl rfl, gm5 182 rfl rfl, gm1 8 rfl rfl, gm5 183 rfl rfl⟩
theorem wp_X7_bestTank : plainName yX7_bestTank.cls = true := by decide +kernel
theorem wd_X7_bestTank : yX7_bestTank.cls ≠ "java/lang/invoke/MethodHandle" ∧ yX7_bestTank.cls ≠ "java/lang/invoke/VarHandle" ∧ (parseMethodDescriptor yX7_bestTank.desc).map (fun d => d.parameters.length) = some 0 := by decide +kernel
theorem wt_X7_bestTank : Cond.instanceMethod yX7_bestTank ∈ lw_good ∧ Cond.selects RX7 yX7_bestTank yX7_bestTank ∈ lw_good ∧ Cond.initialized RX7 ∈ lw_good ∧ Cond.code yX7_bestTank cX7_bestTank 1 (some .int) ∈ lw_good := ⟨gm6 84 rfl rfl, gm6 85 rfl rfl, gm1 8 rfl rfl, gm6 86 rfl rfl⟩
theorem wp_X7_canBeTruth : plainName yX7_canBeTruth.cls = true := by decide +kernel
theorem wd_X7_canBeTruth : yX7_canBeTruth.cls ≠ "java/lang/invoke/MethodHandle" ∧ yX7_canBeTruth.cls ≠ "java/lang/invoke/VarHandle" ∧ (parseMethodDescriptor yX7_canBeTruth.desc).map (fun d => d.parameters.length) = some 1 := by decide +kernel
theorem wt_X7_canBeTruth : Cond.static yX7_canBeTruth ∈ lw_good ∧ Cond.initialized yX7_canBeTruth.cls ∈ lw_good ∧ Cond.code yX7_canBeTruth cX7_canBeTruth 4 (some .boolean) ∈ lw_good := ⟨gm5 213 rfl rfl, gm1 8 rfl rfl, gm5 214 rfl rfl⟩
theorem wp_X7_canMove : plainName yX7_canMove.cls = true := by decide +kernel
theorem wd_X7_canMove : yX7_canMove.cls ≠ "java/lang/invoke/MethodHandle" ∧ yX7_canMove.cls ≠ "java/lang/invoke/VarHandle" ∧ (parseMethodDescriptor yX7_canMove.desc).map (fun d => d.parameters.length) = some 4 := by decide +kernel
theorem wt_X7_canMove : Cond.instanceMethod yX7_canMove ∈ lw_good ∧ Cond.selects RX7 yX7_canMove yX7_canMove ∈ lw_good ∧ Cond.initialized RX7 ∈ lw_good ∧ Cond.code yX7_canMove cX7_canMove 5 (some .boolean) ∈ lw_good := ⟨gm5 174 rfl rfl, gmp 61 rfl rfl, gm1 8 rfl rfl, gm5 175 rfl rfl⟩
theorem wp_X7_clean : plainName yX7_clean.cls = true := by decide +kernel
theorem wd_X7_clean : yX7_clean.cls ≠ "java/lang/invoke/MethodHandle" ∧ yX7_clean.cls ≠ "java/lang/invoke/VarHandle" ∧ (parseMethodDescriptor yX7_clean.desc).map (fun d => d.parameters.length) = some 0 := by decide +kernel
theorem wt_X7_clean : Cond.instanceMethod yX7_clean ∈ lw_good ∧ Cond.selects RX7 yX7_clean yX7_clean ∈ lw_good ∧ Cond.initialized RX7 ∈ lw_good ∧ Cond.code yX7_clean cX7_clean 2 (some .int) ∈ lw_good := ⟨gm5 134 rfl rfl, gm5 135 rfl rfl, gm1 8 rfl rfl, gm5 136 rfl rfl⟩
theorem wp_X7_cleanNow : plainName yX7_cleanNow.cls = true := by decide +kernel
theorem wd_X7_cleanNow : yX7_cleanNow.cls ≠ "java/lang/invoke/MethodHandle" ∧ yX7_cleanNow.cls ≠ "java/lang/invoke/VarHandle" ∧ (parseMethodDescriptor yX7_cleanNow.desc).map (fun d => d.parameters.length) = some 1 := by decide +kernel
theorem wt_X7_cleanNow : Cond.instanceMethod yX7_cleanNow ∈ lw_good ∧ Cond.selects RX7 yX7_cleanNow yX7_cleanNow ∈ lw_good ∧ Cond.initialized RX7 ∈ lw_good ∧ Cond.code yX7_cleanNow cX7_cleanNow 2 none ∈ lw_good := ⟨gm5 127 rfl rfl, gmp 54 rfl rfl, gm1 8 rfl rfl, gm5 128 rfl rfl⟩
theorem wp_X7_clearBuffer : plainName yX7_clearBuffer.cls = true := by decide +kernel
theorem wd_X7_clearBuffer : yX7_clearBuffer.cls ≠ "java/lang/invoke/MethodHandle" ∧ yX7_clearBuffer.cls ≠ "java/lang/invoke/VarHandle" ∧ (parseMethodDescriptor yX7_clearBuffer.desc).map (fun d => d.parameters.length) = some 0 := by decide +kernel
theorem wt_X7_clearBuffer : Cond.instanceMethod yX7_clearBuffer ∈ lw_good ∧ Cond.selects RX7 yX7_clearBuffer yX7_clearBuffer ∈ lw_good ∧ Cond.initialized RX7 ∈ lw_good ∧ Cond.code yX7_clearBuffer cX7_clearBuffer 2 (some .int) ∈ lw_good := ⟨gm5 185 rfl rfl, gm5 186 rfl rfl, gm1 8 rfl rfl, gm5 187 rfl rfl⟩
theorem wp_X7_contentBy : plainName yX7_contentBy.cls = true := by decide +kernel
theorem wd_X7_contentBy : yX7_contentBy.cls ≠ "java/lang/invoke/MethodHandle" ∧ yX7_contentBy.cls ≠ "java/lang/invoke/VarHandle" ∧ (parseMethodDescriptor yX7_contentBy.desc).map (fun d => d.parameters.length) = some 2 := by decide +kernel
theorem wt_X7_contentBy : Cond.instanceMethod yX7_contentBy ∈ lw_good ∧ Cond.selects RX7 yX7_contentBy yX7_contentBy ∈ lw_good ∧ Cond.initialized RX7 ∈ lw_good ∧ Cond.code yX7_contentBy cX7_contentBy 3 (some .int) ∈ lw_good := ⟨gm5 99 rfl rfl, gmp 47 rfl rfl, gm1 8 rfl rfl, gm5 100 rfl rfl⟩
theorem wp_X7_count : plainName yX7_count.cls = true := by decide +kernel
theorem wd_X7_count : yX7_count.cls ≠ "java/lang/invoke/MethodHandle" ∧ yX7_count.cls ≠ "java/lang/invoke/VarHandle" ∧ (parseMethodDescriptor yX7_count.desc).map (fun d => d.parameters.length) = some 1 := by decide +kernel
theorem wt_X7_count : Cond.instanceMethod yX7_count ∈ lw_good ∧ Cond.selects RX7 yX7_count yX7_count ∈ lw_good ∧ Cond.initialized RX7 ∈ lw_good ∧ Cond.code yX7_count cX7_count 2 (some .int) ∈ lw_good := ⟨gm6 28 rfl rfl, gm6 29 rfl rfl, gm1 8 rfl rfl, gm6 30 rfl rfl⟩
theorem wp_X7_counted : plainName yX7_counted.cls = true := by decide +kernel
theorem wd_X7_counted : yX7_counted.cls ≠ "java/lang/invoke/MethodHandle" ∧ yX7_counted.cls ≠ "java/lang/invoke/VarHandle" ∧ (parseMethodDescriptor yX7_counted.desc).map (fun d => d.parameters.length) = some 1 := by decide +kernel
theorem wt_X7_counted : Cond.instanceMethod yX7_counted ∈ lw_good ∧ Cond.selects RX7 yX7_counted yX7_counted ∈ lw_good ∧ Cond.initialized RX7 ∈ lw_good ∧ Cond.code yX7_counted cX7_counted 2 (some .int) ∈ lw_good := ⟨gm6 33 rfl rfl, gmp 74 rfl rfl, gm1 8 rfl rfl, gm6 34 rfl rfl⟩
theorem wp_X7_digest : plainName yX7_digest.cls = true := by decide +kernel
theorem wd_X7_digest : yX7_digest.cls ≠ "java/lang/invoke/MethodHandle" ∧ yX7_digest.cls ≠ "java/lang/invoke/VarHandle" ∧ (parseMethodDescriptor yX7_digest.desc).map (fun d => d.parameters.length) = some 0 := by decide +kernel
theorem wt_X7_digest : Cond.instanceMethod yX7_digest ∈ lw_good ∧ Cond.selects RX7 yX7_digest yX7_digest ∈ lw_good ∧ Cond.initialized RX7 ∈ lw_good ∧ Cond.code yX7_digest cX7_digest 2 (some .long) ∈ lw_good := ⟨gm6 100 rfl rfl, gm6 101 rfl rfl, gm1 8 rfl rfl, gm6 102 rfl rfl⟩
theorem wp_X7_draw : plainName yX7_draw.cls = true := by decide +kernel
theorem wd_X7_draw : yX7_draw.cls ≠ "java/lang/invoke/MethodHandle" ∧ yX7_draw.cls ≠ "java/lang/invoke/VarHandle" ∧ (parseMethodDescriptor yX7_draw.desc).map (fun d => d.parameters.length) = some 3 := by decide +kernel
theorem wt_X7_draw : Cond.instanceMethod yX7_draw ∈ lw_good ∧ Cond.selects RX7 yX7_draw yX7_draw ∈ lw_good ∧ Cond.initialized RX7 ∈ lw_good ∧ Cond.code yX7_draw cX7_draw 5 (some .int) ∈ lw_good := ⟨gm5 154 rfl rfl, gm5 155 rfl rfl, gm1 8 rfl rfl, gm5 156 rfl rfl⟩
theorem wp_X7_ends : plainName yX7_ends.cls = true := by decide +kernel
theorem wd_X7_ends : yX7_ends.cls ≠ "java/lang/invoke/MethodHandle" ∧ yX7_ends.cls ≠ "java/lang/invoke/VarHandle" ∧ (parseMethodDescriptor yX7_ends.desc).map (fun d => d.parameters.length) = some 1 := by decide +kernel
theorem wt_X7_ends : Cond.instanceMethod yX7_ends ∈ lw_good ∧ Cond.selects RX7 yX7_ends yX7_ends ∈ lw_good ∧ Cond.initialized RX7 ∈ lw_good ∧ Cond.code yX7_ends cX7_ends 2 (some .boolean) ∈ lw_good := ⟨gm5 202 rfl rfl, gmp 64 rfl rfl, gm1 8 rfl rfl, gm5 203 rfl rfl⟩
theorem wp_X7_firstError : plainName yX7_firstError.cls = true := by decide +kernel
theorem wd_X7_firstError : yX7_firstError.cls ≠ "java/lang/invoke/MethodHandle" ∧ yX7_firstError.cls ≠ "java/lang/invoke/VarHandle" ∧ (parseMethodDescriptor yX7_firstError.desc).map (fun d => d.parameters.length) = some 0 := by decide +kernel
theorem wt_X7_firstError : Cond.instanceMethod yX7_firstError ∈ lw_good ∧ Cond.selects RX7 yX7_firstError yX7_firstError ∈ lw_good ∧ Cond.initialized RX7 ∈ lw_good ∧ Cond.code yX7_firstError cX7_firstError 1 (some .int) ∈ lw_good := ⟨gm5 189 rfl rfl, gm5 190 rfl rfl, gm1 8 rfl rfl, gm5 191 rfl rfl⟩
theorem wp_X7_firstWaiting : plainName yX7_firstWaiting.cls = true := by decide +kernel
theorem wd_X7_firstWaiting : yX7_firstWaiting.cls ≠ "java/lang/invoke/MethodHandle" ∧ yX7_firstWaiting.cls ≠ "java/lang/invoke/VarHandle" ∧ (parseMethodDescriptor yX7_firstWaiting.desc).map (fun d => d.parameters.length) = some 1 := by decide +kernel
theorem wt_X7_firstWaiting : Cond.instanceMethod yX7_firstWaiting ∈ lw_good ∧ Cond.selects RX7 yX7_firstWaiting yX7_firstWaiting ∈ lw_good ∧ Cond.initialized RX7 ∈ lw_good ∧ Cond.code yX7_firstWaiting cX7_firstWaiting 3 (some .int) ∈ lw_good := ⟨gm5 95 rfl rfl, gmp 46 rfl rfl, gm1 8 rfl rfl, gm5 96 rfl rfl⟩
theorem wp_X7_goodShare : plainName yX7_goodShare.cls = true := by decide +kernel
theorem wd_X7_goodShare : yX7_goodShare.cls ≠ "java/lang/invoke/MethodHandle" ∧ yX7_goodShare.cls ≠ "java/lang/invoke/VarHandle" ∧ (parseMethodDescriptor yX7_goodShare.desc).map (fun d => d.parameters.length) = some 0 := by decide +kernel
theorem wt_X7_goodShare : Cond.instanceMethod yX7_goodShare ∈ lw_good ∧ Cond.selects RX7 yX7_goodShare yX7_goodShare ∈ lw_good ∧ Cond.initialized RX7 ∈ lw_good ∧ Cond.code yX7_goodShare cX7_goodShare 1 (some .double) ∈ lw_good := ⟨gm6 92 rfl rfl, gm6 93 rfl rfl, gm1 8 rfl rfl, gm6 94 rfl rfl⟩
theorem wp_X7_gradeOf : plainName yX7_gradeOf.cls = true := by decide +kernel
theorem wd_X7_gradeOf : yX7_gradeOf.cls ≠ "java/lang/invoke/MethodHandle" ∧ yX7_gradeOf.cls ≠ "java/lang/invoke/VarHandle" ∧ (parseMethodDescriptor yX7_gradeOf.desc).map (fun d => d.parameters.length) = some 1 := by decide +kernel
theorem wt_X7_gradeOf : Cond.instanceMethod yX7_gradeOf ∈ lw_good ∧ Cond.selects RX7 yX7_gradeOf yX7_gradeOf ∈ lw_good ∧ Cond.initialized RX7 ∈ lw_good ∧ Cond.code yX7_gradeOf cX7_gradeOf 2 (some .int) ∈ lw_good := ⟨gm5 123 rfl rfl, gmp 53 rfl rfl, gm1 8 rfl rfl, gm5 124 rfl rfl⟩
theorem wp_X7_gradeOfLot : plainName yX7_gradeOfLot.cls = true := by decide +kernel
theorem wd_X7_gradeOfLot : yX7_gradeOfLot.cls ≠ "java/lang/invoke/MethodHandle" ∧ yX7_gradeOfLot.cls ≠ "java/lang/invoke/VarHandle" ∧ (parseMethodDescriptor yX7_gradeOfLot.desc).map (fun d => d.parameters.length) = some 1 := by decide +kernel
theorem wt_X7_gradeOfLot : Cond.instanceMethod yX7_gradeOfLot ∈ lw_good ∧ Cond.selects RX7 yX7_gradeOfLot yX7_gradeOfLot ∈ lw_good ∧ Cond.initialized RX7 ∈ lw_good ∧ Cond.code yX7_gradeOfLot cX7_gradeOfLot 3 (some .int) ∈ lw_good := ⟨gm5 115 rfl rfl, gmp 51 rfl rfl, gm1 8 rfl rfl, gm5 116 rfl rfl⟩
theorem wp_X7_grower : plainName yX7_grower.cls = true := by decide +kernel
theorem wd_X7_grower : yX7_grower.cls ≠ "java/lang/invoke/MethodHandle" ∧ yX7_grower.cls ≠ "java/lang/invoke/VarHandle" ∧ (parseMethodDescriptor yX7_grower.desc).map (fun d => d.parameters.length) = some 2 := by decide +kernel
theorem wt_X7_grower : Cond.instanceMethod yX7_grower ∈ lw_good ∧ Cond.selects RX7 yX7_grower yX7_grower ∈ lw_good ∧ Cond.initialized RX7 ∈ lw_good ∧ Cond.code yX7_grower cX7_grower 3 (some .int) ∈ lw_good := ⟨gm5 228 rfl rfl, gm5 229 rfl rfl, gm1 8 rfl rfl, gm5 230 rfl rfl⟩
theorem wp_X7_growerNow : plainName yX7_growerNow.cls = true := by decide +kernel
theorem wd_X7_growerNow : yX7_growerNow.cls ≠ "java/lang/invoke/MethodHandle" ∧ yX7_growerNow.cls ≠ "java/lang/invoke/VarHandle" ∧ (parseMethodDescriptor yX7_growerNow.desc).map (fun d => d.parameters.length) = some 2 := by decide +kernel
theorem wt_X7_growerNow : Cond.instanceMethod yX7_growerNow ∈ lw_good ∧ Cond.selects RX7 yX7_growerNow yX7_growerNow ∈ lw_good ∧ Cond.initialized RX7 ∈ lw_good ∧ Cond.code yX7_growerNow cX7_growerNow 3 (some .int) ∈ lw_good := ⟨gm5 233 rfl rfl, gmp 68 rfl rfl, gm1 8 rfl rfl, gm5 234 rfl rfl⟩
theorem wp_X7_inTanks : plainName yX7_inTanks.cls = true := by decide +kernel
theorem wd_X7_inTanks : yX7_inTanks.cls ≠ "java/lang/invoke/MethodHandle" ∧ yX7_inTanks.cls ≠ "java/lang/invoke/VarHandle" ∧ (parseMethodDescriptor yX7_inTanks.desc).map (fun d => d.parameters.length) = some 1 := by decide +kernel
theorem wt_X7_inTanks : Cond.instanceMethod yX7_inTanks ∈ lw_good ∧ Cond.selects RX7 yX7_inTanks yX7_inTanks ∈ lw_good ∧ Cond.initialized RX7 ∈ lw_good ∧ Cond.code yX7_inTanks cX7_inTanks 4 (some .int) ∈ lw_good := ⟨gm6 25 rfl rfl, gmp 73 rfl rfl, gm1 8 rfl rfl, gm6 26 rfl rfl⟩
theorem wp_X7_isEnded : plainName yX7_isEnded.cls = true := by decide +kernel
theorem wd_X7_isEnded : yX7_isEnded.cls ≠ "java/lang/invoke/MethodHandle" ∧ yX7_isEnded.cls ≠ "java/lang/invoke/VarHandle" ∧ (parseMethodDescriptor yX7_isEnded.desc).map (fun d => d.parameters.length) = some 0 := by decide +kernel
theorem wt_X7_isEnded : Cond.instanceMethod yX7_isEnded ∈ lw_good ∧ Cond.selects RX7 yX7_isEnded yX7_isEnded ∈ lw_good ∧ Cond.initialized RX7 ∈ lw_good ∧ Cond.code yX7_isEnded cX7_isEnded 1 (some .boolean) ∈ lw_good := ⟨gm5 206 rfl rfl, gmp 65 rfl rfl, gm1 8 rfl rfl, gm5 207 rfl rfl⟩
theorem wp_X7_isGrower : plainName yX7_isGrower.cls = true := by decide +kernel
theorem wd_X7_isGrower : yX7_isGrower.cls ≠ "java/lang/invoke/MethodHandle" ∧ yX7_isGrower.cls ≠ "java/lang/invoke/VarHandle" ∧ (parseMethodDescriptor yX7_isGrower.desc).map (fun d => d.parameters.length) = some 1 := by decide +kernel
theorem wt_X7_isGrower : Cond.instanceMethod yX7_isGrower ∈ lw_good ∧ Cond.selects RX7 yX7_isGrower yX7_isGrower ∈ lw_good ∧ Cond.initialized RX7 ∈ lw_good ∧ Cond.code yX7_isGrower cX7_isGrower 2 (some .boolean) ∈ lw_good := ⟨gm5 37 rfl rfl, gmp 37 rfl rfl, gm1 8 rfl rfl, gm5 38 rfl rfl⟩
theorem wp_X7_isLot : plainName yX7_isLot.cls = true := by decide +kernel
theorem wd_X7_isLot : yX7_isLot.cls ≠ "java/lang/invoke/MethodHandle" ∧ yX7_isLot.cls ≠ "java/lang/invoke/VarHandle" ∧ (parseMethodDescriptor yX7_isLot.desc).map (fun d => d.parameters.length) = some 1 := by decide +kernel
theorem wt_X7_isLot : Cond.instanceMethod yX7_isLot ∈ lw_good ∧ Cond.selects RX7 yX7_isLot yX7_isLot ∈ lw_good ∧ Cond.initialized RX7 ∈ lw_good ∧ Cond.code yX7_isLot cX7_isLot 2 (some .boolean) ∈ lw_good := ⟨gm5 143 rfl rfl, gmp 56 rfl rfl, gm1 8 rfl rfl, gm5 144 rfl rfl⟩
theorem wp_X7_isOil : plainName yX7_isOil.cls = true := by decide +kernel
theorem wd_X7_isOil : yX7_isOil.cls ≠ "java/lang/invoke/MethodHandle" ∧ yX7_isOil.cls ≠ "java/lang/invoke/VarHandle" ∧ (parseMethodDescriptor yX7_isOil.desc).map (fun d => d.parameters.length) = some 1 := by decide +kernel
theorem wt_X7_isOil : Cond.static yX7_isOil ∈ lw_good ∧ Cond.initialized yX7_isOil.cls ∈ lw_good ∧ Cond.code yX7_isOil cX7_isOil 1 (some .boolean) ∈ lw_good := ⟨gm5 158 rfl rfl, gm1 8 rfl rfl, gm5 159 rfl rfl⟩
theorem wp_X7_isSetting : plainName yX7_isSetting.cls = true := by decide +kernel
theorem wd_X7_isSetting : yX7_isSetting.cls ≠ "java/lang/invoke/MethodHandle" ∧ yX7_isSetting.cls ≠ "java/lang/invoke/VarHandle" ∧ (parseMethodDescriptor yX7_isSetting.desc).map (fun d => d.parameters.length) = some 1 := by decide +kernel
theorem wt_X7_isSetting : Cond.static yX7_isSetting ∈ lw_good ∧ Cond.initialized yX7_isSetting.cls ∈ lw_good ∧ Cond.code yX7_isSetting cX7_isSetting 1 (some .boolean) ∈ lw_good := ⟨gm5 60 rfl rfl, gm1 8 rfl rfl, gm5 61 rfl rfl⟩
theorem wp_X7_isTank : plainName yX7_isTank.cls = true := by decide +kernel
theorem wd_X7_isTank : yX7_isTank.cls ≠ "java/lang/invoke/MethodHandle" ∧ yX7_isTank.cls ≠ "java/lang/invoke/VarHandle" ∧ (parseMethodDescriptor yX7_isTank.desc).map (fun d => d.parameters.length) = some 1 := by decide +kernel
theorem wt_X7_isTank : Cond.instanceMethod yX7_isTank ∈ lw_good ∧ Cond.selects RX7 yX7_isTank yX7_isTank ∈ lw_good ∧ Cond.initialized RX7 ∈ lw_good ∧ Cond.code yX7_isTank cX7_isTank 2 (some .boolean) ∈ lw_good := ⟨gm5 71 rfl rfl, gmp 40 rfl rfl, gm1 8 rfl rfl, gm5 72 rfl rfl⟩
theorem wp_X7_isValue : plainName yX7_isValue.cls = true := by decide +kernel
theorem wd_X7_isValue : yX7_isValue.cls ≠ "java/lang/invoke/MethodHandle" ∧ yX7_isValue.cls ≠ "java/lang/invoke/VarHandle" ∧ (parseMethodDescriptor yX7_isValue.desc).map (fun d => d.parameters.length) = some 2 := by decide +kernel
theorem wt_X7_isValue : Cond.static yX7_isValue ∈ lw_good ∧ Cond.initialized yX7_isValue.cls ∈ lw_good ∧ Cond.code yX7_isValue cX7_isValue 2 (some .boolean) ∈ lw_good := ⟨gm5 63 rfl rfl, gm1 8 rfl rfl, gm5 64 rfl rfl⟩
theorem wp_X7_isVariety : plainName yX7_isVariety.cls = true := by decide +kernel
theorem wd_X7_isVariety : yX7_isVariety.cls ≠ "java/lang/invoke/MethodHandle" ∧ yX7_isVariety.cls ≠ "java/lang/invoke/VarHandle" ∧ (parseMethodDescriptor yX7_isVariety.desc).map (fun d => d.parameters.length) = some 1 := by decide +kernel
theorem wt_X7_isVariety : Cond.static yX7_isVariety ∈ lw_good ∧ Cond.initialized yX7_isVariety.cls ∈ lw_good ∧ Cond.code yX7_isVariety cX7_isVariety 1 (some .boolean) ∈ lw_good := ⟨gm5 30 rfl rfl, gm1 8 rfl rfl, gm5 31 rfl rfl⟩
theorem wp_X7_layMill : plainName yX7_layMill.cls = true := by decide +kernel
theorem wd_X7_layMill : yX7_layMill.cls ≠ "java/lang/invoke/MethodHandle" ∧ yX7_layMill.cls ≠ "java/lang/invoke/VarHandle" ∧ (parseMethodDescriptor yX7_layMill.desc).map (fun d => d.parameters.length) = some 0 := by decide +kernel
theorem wt_X7_layMill : Cond.instanceMethod yX7_layMill ∈ lw_good ∧ Cond.selects RX7 yX7_layMill yX7_layMill ∈ lw_good ∧ Cond.initialized RX7 ∈ lw_good ∧ Cond.code yX7_layMill cX7_layMill 2 none ∈ lw_good := ⟨gm5 83 rfl rfl, gmp 43 rfl rfl, gm1 8 rfl rfl, gm5 84 rfl rfl⟩
theorem wp_X7_layNext : plainName yX7_layNext.cls = true := by decide +kernel
theorem wd_X7_layNext : yX7_layNext.cls ≠ "java/lang/invoke/MethodHandle" ∧ yX7_layNext.cls ≠ "java/lang/invoke/VarHandle" ∧ (parseMethodDescriptor yX7_layNext.desc).map (fun d => d.parameters.length) = some 1 := by decide +kernel
theorem wt_X7_layNext : Cond.instanceMethod yX7_layNext ∈ lw_good ∧ Cond.selects RX7 yX7_layNext yX7_layNext ∈ lw_good ∧ Cond.initialized RX7 ∈ lw_good ∧ Cond.code yX7_layNext cX7_layNext 5 (some .boolean) ∈ lw_good := ⟨gm5 91 rfl rfl, gmp 45 rfl rfl, gm1 8 rfl rfl, gm5 92 rfl rfl⟩
theorem wp_X7_layNextNow : plainName yX7_layNextNow.cls = true := by decide +kernel
theorem wd_X7_layNextNow : yX7_layNextNow.cls ≠ "java/lang/invoke/MethodHandle" ∧ yX7_layNextNow.cls ≠ "java/lang/invoke/VarHandle" ∧ (parseMethodDescriptor yX7_layNextNow.desc).map (fun d => d.parameters.length) = some 0 := by decide +kernel
theorem wt_X7_layNextNow : Cond.instanceMethod yX7_layNextNow ∈ lw_good ∧ Cond.selects RX7 yX7_layNextNow yX7_layNextNow ∈ lw_good ∧ Cond.initialized RX7 ∈ lw_good ∧ Cond.code yX7_layNextNow cX7_layNextNow 1 (some .boolean) ∈ lw_good := ⟨gm5 79 rfl rfl, gmp 42 rfl rfl, gm1 8 rfl rfl, gm5 80 rfl rfl⟩
theorem wp_X7_layShares : plainName yX7_layShares.cls = true := by decide +kernel
theorem wd_X7_layShares : yX7_layShares.cls ≠ "java/lang/invoke/MethodHandle" ∧ yX7_layShares.cls ≠ "java/lang/invoke/VarHandle" ∧ (parseMethodDescriptor yX7_layShares.desc).map (fun d => d.parameters.length) = some 2 := by decide +kernel
theorem wt_X7_layShares : Cond.instanceMethod yX7_layShares ∈ lw_good ∧ Cond.selects RX7 yX7_layShares yX7_layShares ∈ lw_good ∧ Cond.initialized RX7 ∈ lw_good ∧ Cond.code yX7_layShares cX7_layShares 7 none ∈ lw_good := ⟨gm5 162 rfl rfl, gmp 59 rfl rfl, gm1 8 rfl rfl, gm5 163 rfl rfl⟩
theorem wp_X7_lossBy : plainName yX7_lossBy.cls = true := by decide +kernel
theorem wd_X7_lossBy : yX7_lossBy.cls ≠ "java/lang/invoke/MethodHandle" ∧ yX7_lossBy.cls ≠ "java/lang/invoke/VarHandle" ∧ (parseMethodDescriptor yX7_lossBy.desc).map (fun d => d.parameters.length) = some 1 := by decide +kernel
theorem wt_X7_lossBy : Cond.instanceMethod yX7_lossBy ∈ lw_good ∧ Cond.selects RX7 yX7_lossBy yX7_lossBy ∈ lw_good ∧ Cond.initialized RX7 ∈ lw_good ∧ Cond.code yX7_lossBy cX7_lossBy 2 (some .int) ∈ lw_good := ⟨gm6 76 rfl rfl, gm6 77 rfl rfl, gm1 8 rfl rfl, gm6 78 rfl rfl⟩
theorem wp_X7_lossNow : plainName yX7_lossNow.cls = true := by decide +kernel
theorem wd_X7_lossNow : yX7_lossNow.cls ≠ "java/lang/invoke/MethodHandle" ∧ yX7_lossNow.cls ≠ "java/lang/invoke/VarHandle" ∧ (parseMethodDescriptor yX7_lossNow.desc).map (fun d => d.parameters.length) = some 1 := by decide +kernel
theorem wt_X7_lossNow : Cond.instanceMethod yX7_lossNow ∈ lw_good ∧ Cond.selects RX7 yX7_lossNow yX7_lossNow ∈ lw_good ∧ Cond.initialized RX7 ∈ lw_good ∧ Cond.code yX7_lossNow cX7_lossNow 3 (some .int) ∈ lw_good := ⟨gm6 81 rfl rfl, gmp 80 rfl rfl, gm1 8 rfl rfl, gm6 82 rfl rfl⟩
theorem wp_X7_lot : plainName yX7_lot.cls = true := by decide +kernel
theorem wd_X7_lot : yX7_lot.cls ≠ "java/lang/invoke/MethodHandle" ∧ yX7_lot.cls ≠ "java/lang/invoke/VarHandle" ∧ (parseMethodDescriptor yX7_lot.desc).map (fun d => d.parameters.length) = some 2 := by decide +kernel
theorem wt_X7_lot : Cond.instanceMethod yX7_lot ∈ lw_good ∧ Cond.selects RX7 yX7_lot yX7_lot ∈ lw_good ∧ Cond.initialized RX7 ∈ lw_good ∧ Cond.code yX7_lot cX7_lot 3 (some .int) ∈ lw_good := ⟨gm6 0 rfl rfl, gm6 1 rfl rfl, gm1 8 rfl rfl, gm6 2 rfl rfl⟩
theorem wp_X7_lotNow : plainName yX7_lotNow.cls = true := by decide +kernel
theorem wd_X7_lotNow : yX7_lotNow.cls ≠ "java/lang/invoke/MethodHandle" ∧ yX7_lotNow.cls ≠ "java/lang/invoke/VarHandle" ∧ (parseMethodDescriptor yX7_lotNow.desc).map (fun d => d.parameters.length) = some 2 := by decide +kernel
theorem wt_X7_lotNow : Cond.instanceMethod yX7_lotNow ∈ lw_good ∧ Cond.selects RX7 yX7_lotNow yX7_lotNow ∈ lw_good ∧ Cond.initialized RX7 ∈ lw_good ∧ Cond.code yX7_lotNow cX7_lotNow 3 (some .int) ∈ lw_good := ⟨gm6 5 rfl rfl, gmp 70 rfl rfl, gm1 8 rfl rfl, gm6 6 rfl rfl⟩
theorem wp_X7_lotsOf : plainName yX7_lotsOf.cls = true := by decide +kernel
theorem wd_X7_lotsOf : yX7_lotsOf.cls ≠ "java/lang/invoke/MethodHandle" ∧ yX7_lotsOf.cls ≠ "java/lang/invoke/VarHandle" ∧ (parseMethodDescriptor yX7_lotsOf.desc).map (fun d => d.parameters.length) = some 3 := by decide +kernel
theorem wt_X7_lotsOf : Cond.instanceMethod yX7_lotsOf ∈ lw_good ∧ Cond.selects RX7 yX7_lotsOf yX7_lotsOf ∈ lw_good ∧ Cond.initialized RX7 ∈ lw_good ∧ Cond.code yX7_lotsOf cX7_lotsOf 7 (some .int) ∈ lw_good := ⟨gm5 237 rfl rfl, gmp 69 rfl rfl, gm1 8 rfl rfl, gm5 238 rfl rfl⟩
theorem wp_X7_mix : plainName yX7_mix.cls = true := by decide +kernel
theorem wd_X7_mix : yX7_mix.cls ≠ "java/lang/invoke/MethodHandle" ∧ yX7_mix.cls ≠ "java/lang/invoke/VarHandle" ∧ (parseMethodDescriptor yX7_mix.desc).map (fun d => d.parameters.length) = some 1 := by decide +kernel
theorem wt_X7_mix : Cond.instanceMethod yX7_mix ∈ lw_good ∧ Cond.selects RX7 yX7_mix yX7_mix ∈ lw_good ∧ Cond.initialized RX7 ∈ lw_good ∧ Cond.code yX7_mix cX7_mix 3 none ∈ lw_good := ⟨gm6 106 rfl rfl, gmp 83 rfl rfl, gm1 8 rfl rfl, gm6 107 rfl rfl⟩
theorem wp_X7_mixTank : plainName yX7_mixTank.cls = true := by decide +kernel
theorem wd_X7_mixTank : yX7_mixTank.cls ≠ "java/lang/invoke/MethodHandle" ∧ yX7_mixTank.cls ≠ "java/lang/invoke/VarHandle" ∧ (parseMethodDescriptor yX7_mixTank.desc).map (fun d => d.parameters.length) = some 1 := by decide +kernel
theorem wt_X7_mixTank : Cond.instanceMethod yX7_mixTank ∈ lw_good ∧ Cond.selects RX7 yX7_mixTank yX7_mixTank ∈ lw_good ∧ Cond.initialized RX7 ∈ lw_good ∧ Cond.code yX7_mixTank cX7_mixTank 3 none ∈ lw_good := ⟨gm6 111 rfl rfl, gmp 84 rfl rfl, gm1 8 rfl rfl, gm6 112 rfl rfl⟩
theorem wp_X7_move : plainName yX7_move.cls = true := by decide +kernel
theorem wd_X7_move : yX7_move.cls ≠ "java/lang/invoke/MethodHandle" ∧ yX7_move.cls ≠ "java/lang/invoke/VarHandle" ∧ (parseMethodDescriptor yX7_move.desc).map (fun d => d.parameters.length) = some 4 := by decide +kernel
theorem wt_X7_move : Cond.instanceMethod yX7_move ∈ lw_good ∧ Cond.selects RX7 yX7_move yX7_move ∈ lw_good ∧ Cond.initialized RX7 ∈ lw_good ∧ Cond.code yX7_move cX7_move 7 (some .int) ∈ lw_good := ⟨gm5 169 rfl rfl, gm5 170 rfl rfl, gm1 8 rfl rfl, gm5 171 rfl rfl⟩
theorem wp_X7_next : plainName yX7_next.cls = true := by decide +kernel
theorem wd_X7_next : yX7_next.cls ≠ "java/lang/invoke/MethodHandle" ∧ yX7_next.cls ≠ "java/lang/invoke/VarHandle" ∧ (parseMethodDescriptor yX7_next.desc).map (fun d => d.parameters.length) = some 1 := by decide +kernel
theorem wt_X7_next : Cond.instanceMethod yX7_next ∈ lw_good ∧ Cond.selects RX7 yX7_next yX7_next ∈ lw_good ∧ Cond.initialized RX7 ∈ lw_good ∧ Cond.code yX7_next cX7_next 2 (some .int) ∈ lw_good := ⟨gm6 52 rfl rfl, gm6 53 rfl rfl, gm1 8 rfl rfl, gm6 54 rfl rfl⟩
theorem wp_X7_nextNow : plainName yX7_nextNow.cls = true := by decide +kernel
theorem wd_X7_nextNow : yX7_nextNow.cls ≠ "java/lang/invoke/MethodHandle" ∧ yX7_nextNow.cls ≠ "java/lang/invoke/VarHandle" ∧ (parseMethodDescriptor yX7_nextNow.desc).map (fun d => d.parameters.length) = some 1 := by decide +kernel
theorem wt_X7_nextNow : Cond.instanceMethod yX7_nextNow ∈ lw_good ∧ Cond.selects RX7 yX7_nextNow yX7_nextNow ∈ lw_good ∧ Cond.initialized RX7 ∈ lw_good ∧ Cond.code yX7_nextNow cX7_nextNow 2 (some .int) ∈ lw_good := ⟨gm6 57 rfl rfl, gmp 77 rfl rfl, gm1 8 rfl rfl, gm6 58 rfl rfl⟩
theorem wp_X7_ofLot : plainName yX7_ofLot.cls = true := by decide +kernel
theorem wd_X7_ofLot : yX7_ofLot.cls ≠ "java/lang/invoke/MethodHandle" ∧ yX7_ofLot.cls ≠ "java/lang/invoke/VarHandle" ∧ (parseMethodDescriptor yX7_ofLot.desc).map (fun d => d.parameters.length) = some 2 := by decide +kernel
theorem wt_X7_ofLot : Cond.instanceMethod yX7_ofLot ∈ lw_good ∧ Cond.selects RX7 yX7_ofLot yX7_ofLot ∈ lw_good ∧ Cond.initialized RX7 ∈ lw_good ∧ Cond.code yX7_ofLot cX7_ofLot 3 (some .int) ∈ lw_good := ⟨gm5 87 rfl rfl, gmp 44 rfl rfl, gm1 8 rfl rfl, gm5 88 rfl rfl⟩
theorem wp_X7_ofTank : plainName yX7_ofTank.cls = true := by decide +kernel
theorem wd_X7_ofTank : yX7_ofTank.cls ≠ "java/lang/invoke/MethodHandle" ∧ yX7_ofTank.cls ≠ "java/lang/invoke/VarHandle" ∧ (parseMethodDescriptor yX7_ofTank.desc).map (fun d => d.parameters.length) = some 2 := by decide +kernel
theorem wt_X7_ofTank : Cond.instanceMethod yX7_ofTank ∈ lw_good ∧ Cond.selects RX7 yX7_ofTank yX7_ofTank ∈ lw_good ∧ Cond.initialized RX7 ∈ lw_good ∧ Cond.code yX7_ofTank cX7_ofTank 3 (some .int) ∈ lw_good := ⟨gm5 107 rfl rfl, gmp 49 rfl rfl, gm1 8 rfl rfl, gm5 108 rfl rfl⟩
theorem wp_X7_oilBehind : plainName yX7_oilBehind.cls = true := by decide +kernel
theorem wd_X7_oilBehind : yX7_oilBehind.cls ≠ "java/lang/invoke/MethodHandle" ∧ yX7_oilBehind.cls ≠ "java/lang/invoke/VarHandle" ∧ (parseMethodDescriptor yX7_oilBehind.desc).map (fun d => d.parameters.length) = some 2 := by decide +kernel
theorem wt_X7_oilBehind : Cond.instanceMethod yX7_oilBehind ∈ lw_good ∧ Cond.selects RX7 yX7_oilBehind yX7_oilBehind ∈ lw_good ∧ Cond.initialized RX7 ∈ lw_good ∧ Cond.code yX7_oilBehind cX7_oilBehind 7 (some .int) ∈ lw_good := ⟨gm6 73 rfl rfl, gmp 79 rfl rfl, gm1 8 rfl rfl, gm6 74 rfl rfl⟩
theorem wp_X7_oilIn : plainName yX7_oilIn.cls = true := by decide +kernel
theorem wd_X7_oilIn : yX7_oilIn.cls ≠ "java/lang/invoke/MethodHandle" ∧ yX7_oilIn.cls ≠ "java/lang/invoke/VarHandle" ∧ (parseMethodDescriptor yX7_oilIn.desc).map (fun d => d.parameters.length) = some 2 := by decide +kernel
theorem wt_X7_oilIn : Cond.instanceMethod yX7_oilIn ∈ lw_good ∧ Cond.selects RX7 yX7_oilIn yX7_oilIn ∈ lw_good ∧ Cond.initialized RX7 ∈ lw_good ∧ Cond.code yX7_oilIn cX7_oilIn 3 (some .int) ∈ lw_good := ⟨gm6 68 rfl rfl, gm6 69 rfl rfl, gm1 8 rfl rfl, gm6 70 rfl rfl⟩
theorem wp_X7_oilOf : plainName yX7_oilOf.cls = true := by decide +kernel
theorem wd_X7_oilOf : yX7_oilOf.cls ≠ "java/lang/invoke/MethodHandle" ∧ yX7_oilOf.cls ≠ "java/lang/invoke/VarHandle" ∧ (parseMethodDescriptor yX7_oilOf.desc).map (fun d => d.parameters.length) = some 1 := by decide +kernel
theorem wt_X7_oilOf : Cond.instanceMethod yX7_oilOf ∈ lw_good ∧ Cond.selects RX7 yX7_oilOf yX7_oilOf ∈ lw_good ∧ Cond.initialized RX7 ∈ lw_good ∧ Cond.code yX7_oilOf cX7_oilOf 4 (some .int) ∈ lw_good := ⟨gm5 111 rfl rfl, gmp 50 rfl rfl, gm1 8 rfl rfl, gm5 112 rfl rfl⟩
theorem wp_X7_pass : plainName yX7_pass.cls = true := by decide +kernel
theorem wd_X7_pass : yX7_pass.cls ≠ "java/lang/invoke/MethodHandle" ∧ yX7_pass.cls ≠ "java/lang/invoke/VarHandle" ∧ (parseMethodDescriptor yX7_pass.desc).map (fun d => d.parameters.length) = some 1 := by decide +kernel
theorem wt_X7_pass : Cond.instanceMethod yX7_pass ∈ lw_good ∧ Cond.selects RX7 yX7_pass yX7_pass ∈ lw_good ∧ Cond.initialized RX7 ∈ lw_good ∧ Cond.code yX7_pass cX7_pass 7 (some .int) ∈ lw_good := ⟨gm5 177 rfl rfl, gm5 178 rfl rfl, gm1 8 rfl rfl, gm5 179 rfl rfl⟩
theorem wp_X7_pour : plainName yX7_pour.cls = true := by decide +kernel
theorem wd_X7_pour : yX7_pour.cls ≠ "java/lang/invoke/MethodHandle" ∧ yX7_pour.cls ≠ "java/lang/invoke/VarHandle" ∧ (parseMethodDescriptor yX7_pour.desc).map (fun d => d.parameters.length) = some 4 := by decide +kernel
theorem wt_X7_pour : Cond.instanceMethod yX7_pour ∈ lw_good ∧ Cond.selects RX7 yX7_pour yX7_pour ∈ lw_good ∧ Cond.initialized RX7 ∈ lw_good ∧ Cond.code yX7_pour cX7_pour 6 none ∈ lw_good := ⟨gm5 131 rfl rfl, gmp 55 rfl rfl, gm1 8 rfl rfl, gm5 132 rfl rfl⟩
theorem wp_X7_press : plainName yX7_press.cls = true := by decide +kernel
theorem wd_X7_press : yX7_press.cls ≠ "java/lang/invoke/MethodHandle" ∧ yX7_press.cls ≠ "java/lang/invoke/VarHandle" ∧ (parseMethodDescriptor yX7_press.desc).map (fun d => d.parameters.length) = some 2 := by decide +kernel
theorem wt_X7_press : Cond.instanceMethod yX7_press ∈ lw_good ∧ Cond.selects RX7 yX7_press yX7_press ∈ lw_good ∧ Cond.initialized RX7 ∈ lw_good ∧ Cond.code yX7_press cX7_press 5 (some .int) ∈ lw_good := ⟨gm5 66 rfl rfl, gm5 67 rfl rfl, gm1 8 rfl rfl, gm5 68 rfl rfl⟩
theorem wp_X7_putLot : plainName yX7_putLot.cls = true := by decide +kernel
theorem wd_X7_putLot : yX7_putLot.cls ≠ "java/lang/invoke/MethodHandle" ∧ yX7_putLot.cls ≠ "java/lang/invoke/VarHandle" ∧ (parseMethodDescriptor yX7_putLot.desc).map (fun d => d.parameters.length) = some 5 := by decide +kernel
theorem wt_X7_putLot : Cond.instanceMethod yX7_putLot ∈ lw_good ∧ Cond.selects RX7 yX7_putLot yX7_putLot ∈ lw_good ∧ Cond.initialized RX7 ∈ lw_good ∧ Cond.code yX7_putLot cX7_putLot 8 (some .int) ∈ lw_good := ⟨gm5 41 rfl rfl, gmp 38 rfl rfl, gm1 8 rfl rfl, gm5 42 rfl rfl⟩
theorem wp_X7_reason : plainName yX7_reason.cls = true := by decide +kernel
theorem wd_X7_reason : yX7_reason.cls ≠ "java/lang/invoke/MethodHandle" ∧ yX7_reason.cls ≠ "java/lang/invoke/VarHandle" ∧ (parseMethodDescriptor yX7_reason.desc).map (fun d => d.parameters.length) = some 2 := by decide +kernel
theorem wt_X7_reason : Cond.instanceMethod yX7_reason ∈ lw_good ∧ Cond.selects RX7 yX7_reason yX7_reason ∈ lw_good ∧ Cond.initialized RX7 ∈ lw_good ∧ Cond.code yX7_reason cX7_reason 4 (some .int) ∈ lw_good := ⟨gm5 75 rfl rfl, gmp 41 rfl rfl, gm1 8 rfl rfl, gm5 76 rfl rfl⟩
theorem wp_X7_refusedLot : plainName yX7_refusedLot.cls = true := by decide +kernel
theorem wd_X7_refusedLot : yX7_refusedLot.cls ≠ "java/lang/invoke/MethodHandle" ∧ yX7_refusedLot.cls ≠ "java/lang/invoke/VarHandle" ∧ (parseMethodDescriptor yX7_refusedLot.desc).map (fun d => d.parameters.length) = some 5 := by decide +kernel
theorem wt_X7_refusedLot : Cond.instanceMethod yX7_refusedLot ∈ lw_good ∧ Cond.selects RX7 yX7_refusedLot yX7_refusedLot ∈ lw_good ∧ Cond.initialized RX7 ∈ lw_good ∧ Cond.code yX7_refusedLot cX7_refusedLot 7 (some .int) ∈ lw_good := ⟨gm5 27 rfl rfl, gmp 36 rfl rfl, gm1 8 rfl rfl, gm5 28 rfl rfl⟩
theorem wp_X7_rightUpTo : plainName yX7_rightUpTo.cls = true := by decide +kernel
theorem wd_X7_rightUpTo : yX7_rightUpTo.cls ≠ "java/lang/invoke/MethodHandle" ∧ yX7_rightUpTo.cls ≠ "java/lang/invoke/VarHandle" ∧ (parseMethodDescriptor yX7_rightUpTo.desc).map (fun d => d.parameters.length) = some 0 := by decide +kernel
theorem wt_X7_rightUpTo : Cond.instanceMethod yX7_rightUpTo ∈ lw_good ∧ Cond.selects RX7 yX7_rightUpTo yX7_rightUpTo ∈ lw_good ∧ Cond.initialized RX7 ∈ lw_good ∧ Cond.code yX7_rightUpTo cX7_rightUpTo 2 (some .int) ∈ lw_good := ⟨gm5 194 rfl rfl, gmp 62 rfl rfl, gm1 8 rfl rfl, gm5 195 rfl rfl⟩
theorem wp_X7_roomIn : plainName yX7_roomIn.cls = true := by decide +kernel
theorem wd_X7_roomIn : yX7_roomIn.cls ≠ "java/lang/invoke/MethodHandle" ∧ yX7_roomIn.cls ≠ "java/lang/invoke/VarHandle" ∧ (parseMethodDescriptor yX7_roomIn.desc).map (fun d => d.parameters.length) = some 1 := by decide +kernel
theorem wt_X7_roomIn : Cond.instanceMethod yX7_roomIn ∈ lw_good ∧ Cond.selects RX7 yX7_roomIn yX7_roomIn ∈ lw_good ∧ Cond.initialized RX7 ∈ lw_good ∧ Cond.code yX7_roomIn cX7_roomIn 2 (some .int) ∈ lw_good := ⟨gm5 103 rfl rfl, gmp 48 rfl rfl, gm1 8 rfl rfl, gm5 104 rfl rfl⟩
theorem wp_X7_save : plainName yX7_save.cls = true := by decide +kernel
theorem wd_X7_save : yX7_save.cls ≠ "java/lang/invoke/MethodHandle" ∧ yX7_save.cls ≠ "java/lang/invoke/VarHandle" ∧ (parseMethodDescriptor yX7_save.desc).map (fun d => d.parameters.length) = some 0 := by decide +kernel
theorem wt_X7_save : Cond.instanceMethod yX7_save ∈ lw_good ∧ Cond.selects RX7 yX7_save yX7_save ∈ lw_good ∧ Cond.initialized RX7 ∈ lw_good ∧ Cond.code yX7_save cX7_save 2 none ∈ lw_good := ⟨gm5 19 rfl rfl, gmp 35 rfl rfl, gm1 8 rfl rfl, gm5 20 rfl rfl⟩
theorem wp_X7_secondOf : plainName yX7_secondOf.cls = true := by decide +kernel
theorem wd_X7_secondOf : yX7_secondOf.cls ≠ "java/lang/invoke/MethodHandle" ∧ yX7_secondOf.cls ≠ "java/lang/invoke/VarHandle" ∧ (parseMethodDescriptor yX7_secondOf.desc).map (fun d => d.parameters.length) = some 1 := by decide +kernel
theorem wt_X7_secondOf : Cond.instanceMethod yX7_secondOf ∈ lw_good ∧ Cond.selects RX7 yX7_secondOf yX7_secondOf ∈ lw_good ∧ Cond.initialized RX7 ∈ lw_good ∧ Cond.code yX7_secondOf cX7_secondOf 2 (some .int) ∈ lw_good := ⟨gm5 151 rfl rfl, gmp 58 rfl rfl, gm1 8 rfl rfl, gm5 152 rfl rfl⟩
theorem wp_X7_set : plainName yX7_set.cls = true := by decide +kernel
theorem wd_X7_set : yX7_set.cls ≠ "java/lang/invoke/MethodHandle" ∧ yX7_set.cls ≠ "java/lang/invoke/VarHandle" ∧ (parseMethodDescriptor yX7_set.desc).map (fun d => d.parameters.length) = some 2 := by decide +kernel
theorem wt_X7_set : Cond.instanceMethod yX7_set ∈ lw_good ∧ Cond.selects RX7 yX7_set yX7_set ∈ lw_good ∧ Cond.initialized RX7 ∈ lw_good ∧ Cond.code yX7_set cX7_set 4 (some .int) ∈ lw_good := ⟨gm5 56 rfl rfl, gm5 57 rfl rfl, gm1 8 rfl rfl, gm5 58 rfl rfl⟩
theorem wp_X7_setLot : plainName yX7_setLot.cls = true := by decide +kernel
theorem wd_X7_setLot : yX7_setLot.cls ≠ "java/lang/invoke/MethodHandle" ∧ yX7_setLot.cls ≠ "java/lang/invoke/VarHandle" ∧ (parseMethodDescriptor yX7_setLot.desc).map (fun d => d.parameters.length) = some 3 := by decide +kernel
theorem wt_X7_setLot : Cond.instanceMethod yX7_setLot ∈ lw_good ∧ Cond.selects RX7 yX7_setLot yX7_setLot ∈ lw_good ∧ Cond.initialized RX7 ∈ lw_good ∧ Cond.code yX7_setLot cX7_setLot 4 none ∈ lw_good := ⟨gm5 45 rfl rfl, gmp 39 rfl rfl, gm1 8 rfl rfl, gm5 46 rfl rfl⟩
theorem wp_X7_setYield : plainName yX7_setYield.cls = true := by decide +kernel
theorem wd_X7_setYield : yX7_setYield.cls ≠ "java/lang/invoke/MethodHandle" ∧ yX7_setYield.cls ≠ "java/lang/invoke/VarHandle" ∧ (parseMethodDescriptor yX7_setYield.desc).map (fun d => d.parameters.length) = some 2 := by decide +kernel
theorem wt_X7_setYield : Cond.instanceMethod yX7_setYield ∈ lw_good ∧ Cond.selects RX7 yX7_setYield yX7_setYield ∈ lw_good ∧ Cond.initialized RX7 ∈ lw_good ∧ Cond.code yX7_setYield cX7_setYield 4 (some .int) ∈ lw_good := ⟨gm5 52 rfl rfl, gm5 53 rfl rfl, gm1 8 rfl rfl, gm5 54 rfl rfl⟩
theorem wp_X7_setting : plainName yX7_setting.cls = true := by decide +kernel
theorem wd_X7_setting : yX7_setting.cls ≠ "java/lang/invoke/MethodHandle" ∧ yX7_setting.cls ≠ "java/lang/invoke/VarHandle" ∧ (parseMethodDescriptor yX7_setting.desc).map (fun d => d.parameters.length) = some 1 := by decide +kernel
theorem wt_X7_setting : Cond.instanceMethod yX7_setting ∈ lw_good ∧ Cond.selects RX7 yX7_setting yX7_setting ∈ lw_good ∧ Cond.initialized RX7 ∈ lw_good ∧ Cond.code yX7_setting cX7_setting 2 (some .int) ∈ lw_good := ⟨gm6 44 rfl rfl, gm6 45 rfl rfl, gm1 8 rfl rfl, gm6 46 rfl rfl⟩
theorem wp_X7_share : plainName yX7_share.cls = true := by decide +kernel
theorem wd_X7_share : yX7_share.cls ≠ "java/lang/invoke/MethodHandle" ∧ yX7_share.cls ≠ "java/lang/invoke/VarHandle" ∧ (parseMethodDescriptor yX7_share.desc).map (fun d => d.parameters.length) = some 0 := by decide +kernel
theorem wt_X7_share : Cond.instanceMethod yX7_share ∈ lw_good ∧ Cond.selects RX7 yX7_share yX7_share ∈ lw_good ∧ Cond.initialized RX7 ∈ lw_good ∧ Cond.code yX7_share cX7_share 2 (some .double) ∈ lw_good := ⟨gm6 97 rfl rfl, gmp 82 rfl rfl, gm1 8 rfl rfl, gm6 98 rfl rfl⟩
theorem wp_X7_suits : plainName yX7_suits.cls = true := by decide +kernel
theorem wd_X7_suits : yX7_suits.cls ≠ "java/lang/invoke/MethodHandle" ∧ yX7_suits.cls ≠ "java/lang/invoke/VarHandle" ∧ (parseMethodDescriptor yX7_suits.desc).map (fun d => d.parameters.length) = some 3 := by decide +kernel
theorem wt_X7_suits : Cond.instanceMethod yX7_suits ∈ lw_good ∧ Cond.selects RX7 yX7_suits yX7_suits ∈ lw_good ∧ Cond.initialized RX7 ∈ lw_good ∧ Cond.code yX7_suits cX7_suits 4 (some .boolean) ∈ lw_good := ⟨gm5 119 rfl rfl, gmp 52 rfl rfl, gm1 8 rfl rfl, gm5 120 rfl rfl⟩
theorem wp_X7_sumOil : plainName yX7_sumOil.cls = true := by decide +kernel
theorem wd_X7_sumOil : yX7_sumOil.cls ≠ "java/lang/invoke/MethodHandle" ∧ yX7_sumOil.cls ≠ "java/lang/invoke/VarHandle" ∧ (parseMethodDescriptor yX7_sumOil.desc).map (fun d => d.parameters.length) = some 1 := by decide +kernel
theorem wt_X7_sumOil : Cond.instanceMethod yX7_sumOil ∈ lw_good ∧ Cond.selects RX7 yX7_sumOil yX7_sumOil ∈ lw_good ∧ Cond.initialized RX7 ∈ lw_good ∧ Cond.code yX7_sumOil cX7_sumOil 4 (some .int) ∈ lw_good := ⟨gm6 37 rfl rfl, gmp 75 rfl rfl, gm1 8 rfl rfl, gm6 38 rfl rfl⟩
theorem wp_X7_takeShares : plainName yX7_takeShares.cls = true := by decide +kernel
theorem wd_X7_takeShares : yX7_takeShares.cls ≠ "java/lang/invoke/MethodHandle" ∧ yX7_takeShares.cls ≠ "java/lang/invoke/VarHandle" ∧ (parseMethodDescriptor yX7_takeShares.desc).map (fun d => d.parameters.length) = some 1 := by decide +kernel
theorem wt_X7_takeShares : Cond.instanceMethod yX7_takeShares ∈ lw_good ∧ Cond.selects RX7 yX7_takeShares yX7_takeShares ∈ lw_good ∧ Cond.initialized RX7 ∈ lw_good ∧ Cond.code yX7_takeShares cX7_takeShares 3 none ∈ lw_good := ⟨gm5 166 rfl rfl, gmp 60 rfl rfl, gm1 8 rfl rfl, gm5 167 rfl rfl⟩
theorem wp_X7_taken : plainName yX7_taken.cls = true := by decide +kernel
theorem wd_X7_taken : yX7_taken.cls ≠ "java/lang/invoke/MethodHandle" ∧ yX7_taken.cls ≠ "java/lang/invoke/VarHandle" ∧ (parseMethodDescriptor yX7_taken.desc).map (fun d => d.parameters.length) = some 3 := by decide +kernel
theorem wt_X7_taken : Cond.instanceMethod yX7_taken ∈ lw_good ∧ Cond.selects RX7 yX7_taken yX7_taken ∈ lw_good ∧ Cond.initialized RX7 ∈ lw_good ∧ Cond.code yX7_taken cX7_taken 4 (some .int) ∈ lw_good := ⟨gm6 60 rfl rfl, gm6 61 rfl rfl, gm1 8 rfl rfl, gm6 62 rfl rfl⟩
theorem wp_X7_takenNow : plainName yX7_takenNow.cls = true := by decide +kernel
theorem wd_X7_takenNow : yX7_takenNow.cls ≠ "java/lang/invoke/MethodHandle" ∧ yX7_takenNow.cls ≠ "java/lang/invoke/VarHandle" ∧ (parseMethodDescriptor yX7_takenNow.desc).map (fun d => d.parameters.length) = some 3 := by decide +kernel
theorem wt_X7_takenNow : Cond.instanceMethod yX7_takenNow ∈ lw_good ∧ Cond.selects RX7 yX7_takenNow yX7_takenNow ∈ lw_good ∧ Cond.initialized RX7 ∈ lw_good ∧ Cond.code yX7_takenNow cX7_takenNow 4 (some .int) ∈ lw_good := ⟨gm6 65 rfl rfl, gmp 78 rfl rfl, gm1 8 rfl rfl, gm6 66 rfl rfl⟩
theorem wp_X7_takes : plainName yX7_takes.cls = true := by decide +kernel
theorem wd_X7_takes : yX7_takes.cls ≠ "java/lang/invoke/MethodHandle" ∧ yX7_takes.cls ≠ "java/lang/invoke/VarHandle" ∧ (parseMethodDescriptor yX7_takes.desc).map (fun d => d.parameters.length) = some 1 := by decide +kernel
theorem wt_X7_takes : Cond.instanceMethod yX7_takes ∈ lw_good ∧ Cond.selects RX7 yX7_takes yX7_takes ∈ lw_good ∧ Cond.initialized RX7 ∈ lw_good ∧ Cond.code yX7_takes cX7_takes 2 (some .boolean) ∈ lw_good := ⟨gm5 198 rfl rfl, gmp 63 rfl rfl, gm1 8 rfl rfl, gm5 199 rfl rfl⟩
theorem wp_X7_takesDigit : plainName yX7_takesDigit.cls = true := by decide +kernel
theorem wd_X7_takesDigit : yX7_takesDigit.cls ≠ "java/lang/invoke/MethodHandle" ∧ yX7_takesDigit.cls ≠ "java/lang/invoke/VarHandle" ∧ (parseMethodDescriptor yX7_takesDigit.desc).map (fun d => d.parameters.length) = some 1 := by decide +kernel
theorem wt_X7_takesDigit : Cond.instanceMethod yX7_takesDigit ∈ lw_good ∧ Cond.selects RX7 yX7_takesDigit yX7_takesDigit ∈ lw_good ∧ Cond.initialized RX7 ∈ lw_good ∧ Cond.code yX7_takesDigit cX7_takesDigit 4 (some .boolean) ∈ lw_good := ⟨gm5 210 rfl rfl, gmp 66 rfl rfl, gm1 8 rfl rfl, gm5 211 rfl rfl⟩
theorem wp_X7_tank : plainName yX7_tank.cls = true := by decide +kernel
theorem wd_X7_tank : yX7_tank.cls ≠ "java/lang/invoke/MethodHandle" ∧ yX7_tank.cls ≠ "java/lang/invoke/VarHandle" ∧ (parseMethodDescriptor yX7_tank.desc).map (fun d => d.parameters.length) = some 2 := by decide +kernel
theorem wt_X7_tank : Cond.instanceMethod yX7_tank ∈ lw_good ∧ Cond.selects RX7 yX7_tank yX7_tank ∈ lw_good ∧ Cond.initialized RX7 ∈ lw_good ∧ Cond.code yX7_tank cX7_tank 3 (some .int) ∈ lw_good := ⟨gm6 8 rfl rfl, gm6 9 rfl rfl, gm1 8 rfl rfl, gm6 10 rfl rfl⟩
theorem wp_X7_tankForNext : plainName yX7_tankForNext.cls = true := by decide +kernel
theorem wd_X7_tankForNext : yX7_tankForNext.cls ≠ "java/lang/invoke/MethodHandle" ∧ yX7_tankForNext.cls ≠ "java/lang/invoke/VarHandle" ∧ (parseMethodDescriptor yX7_tankForNext.desc).map (fun d => d.parameters.length) = some 0 := by decide +kernel
theorem wt_X7_tankForNext : Cond.instanceMethod yX7_tankForNext ∈ lw_good ∧ Cond.selects RX7 yX7_tankForNext yX7_tankForNext ∈ lw_good ∧ Cond.initialized RX7 ∈ lw_good ∧ Cond.code yX7_tankForNext cX7_tankForNext 7 (some .int) ∈ lw_good := ⟨gm6 89 rfl rfl, gmp 81 rfl rfl, gm1 8 rfl rfl, gm6 90 rfl rfl⟩
theorem wp_X7_tankNow : plainName yX7_tankNow.cls = true := by decide +kernel
theorem wd_X7_tankNow : yX7_tankNow.cls ≠ "java/lang/invoke/MethodHandle" ∧ yX7_tankNow.cls ≠ "java/lang/invoke/VarHandle" ∧ (parseMethodDescriptor yX7_tankNow.desc).map (fun d => d.parameters.length) = some 2 := by decide +kernel
theorem wt_X7_tankNow : Cond.instanceMethod yX7_tankNow ∈ lw_good ∧ Cond.selects RX7 yX7_tankNow yX7_tankNow ∈ lw_good ∧ Cond.initialized RX7 ∈ lw_good ∧ Cond.code yX7_tankNow cX7_tankNow 3 (some .int) ∈ lw_good := ⟨gm6 13 rfl rfl, gmp 71 rfl rfl, gm1 8 rfl rfl, gm6 14 rfl rfl⟩
theorem wp_X7_thrown : plainName yX7_thrown.cls = true := by decide +kernel
theorem wd_X7_thrown : yX7_thrown.cls ≠ "java/lang/invoke/MethodHandle" ∧ yX7_thrown.cls ≠ "java/lang/invoke/VarHandle" ∧ (parseMethodDescriptor yX7_thrown.desc).map (fun d => d.parameters.length) = some 0 := by decide +kernel
theorem wt_X7_thrown : Cond.instanceMethod yX7_thrown ∈ lw_good ∧ Cond.selects RX7 yX7_thrown yX7_thrown ∈ lw_good ∧ Cond.initialized RX7 ∈ lw_good ∧ Cond.code yX7_thrown cX7_thrown 1 (some .int) ∈ lw_good := ⟨gm5 10 rfl rfl, gm5 11 rfl rfl, gm1 8 rfl rfl, gm5 12 rfl rfl⟩
theorem wp_X7_undo : plainName yX7_undo.cls = true := by decide +kernel
theorem wd_X7_undo : yX7_undo.cls ≠ "java/lang/invoke/MethodHandle" ∧ yX7_undo.cls ≠ "java/lang/invoke/VarHandle" ∧ (parseMethodDescriptor yX7_undo.desc).map (fun d => d.parameters.length) = some 0 := by decide +kernel
theorem wt_X7_undo : Cond.instanceMethod yX7_undo ∈ lw_good ∧ Cond.selects RX7 yX7_undo yX7_undo ∈ lw_good ∧ Cond.initialized RX7 ∈ lw_good ∧ Cond.code yX7_undo cX7_undo 2 (some .int) ∈ lw_good := ⟨gm5 224 rfl rfl, gm5 225 rfl rfl, gm1 8 rfl rfl, gm5 226 rfl rfl⟩
theorem wp_X7_variety : plainName yX7_variety.cls = true := by decide +kernel
theorem wd_X7_variety : yX7_variety.cls ≠ "java/lang/invoke/MethodHandle" ∧ yX7_variety.cls ≠ "java/lang/invoke/VarHandle" ∧ (parseMethodDescriptor yX7_variety.desc).map (fun d => d.parameters.length) = some 2 := by decide +kernel
theorem wt_X7_variety : Cond.instanceMethod yX7_variety ∈ lw_good ∧ Cond.selects RX7 yX7_variety yX7_variety ∈ lw_good ∧ Cond.initialized RX7 ∈ lw_good ∧ Cond.code yX7_variety cX7_variety 3 (some .int) ∈ lw_good := ⟨gm6 16 rfl rfl, gm6 17 rfl rfl, gm1 8 rfl rfl, gm6 18 rfl rfl⟩
theorem wp_X7_varietyNow : plainName yX7_varietyNow.cls = true := by decide +kernel
theorem wd_X7_varietyNow : yX7_varietyNow.cls ≠ "java/lang/invoke/MethodHandle" ∧ yX7_varietyNow.cls ≠ "java/lang/invoke/VarHandle" ∧ (parseMethodDescriptor yX7_varietyNow.desc).map (fun d => d.parameters.length) = some 2 := by decide +kernel
theorem wt_X7_varietyNow : Cond.instanceMethod yX7_varietyNow ∈ lw_good ∧ Cond.selects RX7 yX7_varietyNow yX7_varietyNow ∈ lw_good ∧ Cond.initialized RX7 ∈ lw_good ∧ Cond.code yX7_varietyNow cX7_varietyNow 3 (some .int) ∈ lw_good := ⟨gm6 21 rfl rfl, gmp 72 rfl rfl, gm1 8 rfl rfl, gm6 22 rfl rfl⟩
theorem wp_X7_whyNoAppeal : plainName yX7_whyNoAppeal.cls = true := by decide +kernel
theorem wd_X7_whyNoAppeal : yX7_whyNoAppeal.cls ≠ "java/lang/invoke/MethodHandle" ∧ yX7_whyNoAppeal.cls ≠ "java/lang/invoke/VarHandle" ∧ (parseMethodDescriptor yX7_whyNoAppeal.desc).map (fun d => d.parameters.length) = some 1 := by decide +kernel
theorem wt_X7_whyNoAppeal : Cond.instanceMethod yX7_whyNoAppeal ∈ lw_good ∧ Cond.selects RX7 yX7_whyNoAppeal yX7_whyNoAppeal ∈ lw_good ∧ Cond.initialized RX7 ∈ lw_good ∧ Cond.code yX7_whyNoAppeal cX7_whyNoAppeal 3 (some .int) ∈ lw_good := ⟨gm5 147 rfl rfl, gmp 57 rfl rfl, gm1 8 rfl rfl, gm5 148 rfl rfl⟩
theorem wp_X7_whyNot : plainName yX7_whyNot.cls = true := by decide +kernel
theorem wd_X7_whyNot : yX7_whyNot.cls ≠ "java/lang/invoke/MethodHandle" ∧ yX7_whyNot.cls ≠ "java/lang/invoke/VarHandle" ∧ (parseMethodDescriptor yX7_whyNot.desc).map (fun d => d.parameters.length) = some 2 := by decide +kernel
theorem wt_X7_whyNot : Cond.instanceMethod yX7_whyNot ∈ lw_good ∧ Cond.selects RX7 yX7_whyNot yX7_whyNot ∈ lw_good ∧ Cond.initialized RX7 ∈ lw_good ∧ Cond.code yX7_whyNot cX7_whyNot 3 (some .int) ∈ lw_good := ⟨gm6 48 rfl rfl, gm6 49 rfl rfl, gm1 8 rfl rfl, gm6 50 rfl rfl⟩
theorem wp_X7_within : plainName yX7_within.cls = true := by decide +kernel
theorem wd_X7_within : yX7_within.cls ≠ "java/lang/invoke/MethodHandle" ∧ yX7_within.cls ≠ "java/lang/invoke/VarHandle" ∧ (parseMethodDescriptor yX7_within.desc).map (fun d => d.parameters.length) = some 3 := by decide +kernel
theorem wt_X7_within : Cond.static yX7_within ∈ lw_good ∧ Cond.initialized yX7_within.cls ∈ lw_good ∧ Cond.code yX7_within cX7_within 3 (some .boolean) ∈ lw_good := ⟨gm5 33 rfl rfl, gm1 8 rfl rfl, gm5 34 rfl rfl⟩
theorem wv_RJxe99ae_122 : gS RJxe99ae 122 yJxe99ae_isNaN_b9ae7 cJxe99ae_isNaN_b9ae7 2 (some .boolean) 1 := ⟨wd_Jxe99ae_isNaN_b9ae7, wp_Jxe99ae_isNaN_b9ae7, by decide, gm6 116 rfl rfl, wt_Jxe99ae_isNaN_b9ae7⟩
theorem wv_RL_7 : gV RL 7 RX6 yX6_addGrower cX6_addGrower 2 (some .int) 0 := ⟨⟨rfl, wd_X6_addGrower⟩, wp_X6_addGrower, by decide, gm3 185 rfl rfl, wt_X6_addGrower⟩
theorem wv_RL_15 : gV RL 15 RX6 yX6_addLot cX6_addLot 6 (some .int) 5 := ⟨⟨rfl, wd_X6_addLot⟩, wp_X6_addLot, by decide, gm3 210 rfl rfl, wt_X6_addLot⟩
theorem wv_RL_23 : gV RL 23 RX6 yX6_addTank cX6_addTank 3 (some .int) 1 := ⟨⟨rfl, wd_X6_addTank⟩, wp_X6_addTank, by decide, gm3 224 rfl rfl, wt_X6_addTank⟩
theorem wv_RL_27 : gV RL 27 RX6 yX6_setYield cX6_setYield 4 (some .int) 2 := ⟨⟨rfl, wd_X6_setYield⟩, wp_X6_setYield, by decide, gm3 233 rfl rfl, wt_X6_setYield⟩
theorem wv_RL_31 : gV RL 31 RX6 yX6_set cX6_set 4 (some .int) 2 := ⟨⟨rfl, wd_X6_set⟩, wp_X6_set, by decide, gm4 1 rfl rfl, wt_X6_set⟩
theorem wv_RL_34 : gV RL 34 RX6 yX6_press cX6_press 3 (some .int) 2 := ⟨⟨rfl, wd_X6_press⟩, wp_X6_press, by decide, gm4 9 rfl rfl, wt_X6_press⟩
theorem wv_RL_38 : gV RL 38 RX6 yX6_appeal cX6_appeal 4 (some .int) 1 := ⟨⟨rfl, wd_X6_appeal⟩, wp_X6_appeal, by decide, gm4 34 rfl rfl, wt_X6_appeal⟩
theorem wv_RL_41 : gV RL 41 RX6 yX6_draw cX6_draw 5 (some .int) 3 := ⟨⟨rfl, wd_X6_draw⟩, wp_X6_draw, by decide, gm4 47 rfl rfl, wt_X6_draw⟩
theorem wv_RL_45 : gV RL 45 RX6 yX6_move cX6_move 7 (some .int) 4 := ⟨⟨rfl, wd_X6_move⟩, wp_X6_move, by decide, gm4 61 rfl rfl, wt_X6_move⟩
theorem wv_RL_49 : gV RL 49 RX6 yX6_pass cX6_pass 6 (some .int) 1 := ⟨⟨rfl, wd_X6_pass⟩, wp_X6_pass, by decide, gm4 70 rfl rfl, wt_X6_pass⟩
theorem wv_RL_52 : gV RL 52 RX6 yX6_append cX6_append 2 (some .int) 1 := ⟨⟨rfl, wd_X6_append⟩, wp_X6_append, by decide, gm4 83 rfl rfl, wt_X6_append⟩
theorem wv_RL_55 : gV RL 55 RX6 yX6_addSlips cX6_addSlips 2 (some .int) 0 := ⟨⟨rfl, wd_X6_addSlips⟩, wp_X6_addSlips, by decide, gm4 92 rfl rfl, wt_X6_addSlips⟩
theorem wv_RL_58 : gV RL 58 RX6 yX6_undo cX6_undo 1 (some .int) 0 := ⟨⟨rfl, wd_X6_undo⟩, wp_X6_undo, by decide, gm4 117 rfl rfl, wt_X6_undo⟩
theorem wv_RL_61 : gV RL 61 RX6 yX6_grower cX6_grower 3 (some .int) 2 := ⟨⟨rfl, wd_X6_grower⟩, wp_X6_grower, by decide, gm4 129 rfl rfl, wt_X6_grower⟩
theorem wv_RL_64 : gV RL 64 RX6 yX6_lot cX6_lot 3 (some .int) 2 := ⟨⟨rfl, wd_X6_lot⟩, wp_X6_lot, by decide, gm4 133 rfl rfl, wt_X6_lot⟩
theorem wv_RL_67 : gV RL 67 RX6 yX6_tank cX6_tank 3 (some .int) 2 := ⟨⟨rfl, wd_X6_tank⟩, wp_X6_tank, by decide, gm4 137 rfl rfl, wt_X6_tank⟩
theorem wv_RL_70 : gV RL 70 RX6 yX6_variety cX6_variety 3 (some .int) 2 := ⟨⟨rfl, wd_X6_variety⟩, wp_X6_variety, by decide, gm4 141 rfl rfl, wt_X6_variety⟩
theorem wv_RL_73 : gV RL 73 RX6 yX6_count cX6_count 2 (some .int) 1 := ⟨⟨rfl, wd_X6_count⟩, wp_X6_count, by decide, gm4 145 rfl rfl, wt_X6_count⟩
theorem wv_RL_76 : gV RL 76 RX6 yX6_setting cX6_setting 2 (some .int) 1 := ⟨⟨rfl, wd_X6_setting⟩, wp_X6_setting, by decide, gm4 149 rfl rfl, wt_X6_setting⟩
theorem wv_RL_79 : gV RL 79 RX6 yX6_whyNot cX6_whyNot 3 (some .int) 2 := ⟨⟨rfl, wd_X6_whyNot⟩, wp_X6_whyNot, by decide, gm4 153 rfl rfl, wt_X6_whyNot⟩
theorem wv_RL_82 : gV RL 82 RX6 yX6_next cX6_next 2 (some .int) 1 := ⟨⟨rfl, wd_X6_next⟩, wp_X6_next, by decide, gm4 160 rfl rfl, wt_X6_next⟩
theorem wv_RL_85 : gV RL 85 RX6 yX6_taken cX6_taken 4 (some .int) 3 := ⟨⟨rfl, wd_X6_taken⟩, wp_X6_taken, by decide, gm4 164 rfl rfl, wt_X6_taken⟩
theorem wv_RL_88 : gV RL 88 RX6 yX6_oilIn cX6_oilIn 5 (some .int) 2 := ⟨⟨rfl, wd_X6_oilIn⟩, wp_X6_oilIn, by decide, gm4 168 rfl rfl, wt_X6_oilIn⟩
theorem wv_RL_91 : gV RL 91 RX6 yX6_lossBy cX6_lossBy 4 (some .int) 1 := ⟨⟨rfl, wd_X6_lossBy⟩, wp_X6_lossBy, by decide, gm4 172 rfl rfl, wt_X6_lossBy⟩
theorem wv_RL_98 : gSX RL 98 yL_addGrower cL_addGrower 3 (some .int) [(0, 8, 11, 13)] 2 := ⟨wd_L_addGrower, wp_L_addGrower, by decide, gm3 181 rfl rfl, wt_L_addGrower⟩
theorem wv_RL_103 : gV RL 103 RX7 yX7_addGrower cX7_addGrower 1 (some .int) 0 := ⟨⟨rfl, wd_X7_addGrower⟩, wp_X7_addGrower, by decide, gm5 13 rfl rfl, wt_X7_addGrower⟩
theorem wv_RL_104 : gV RL 104 RX7 yX7_thrown cX7_thrown 1 (some .int) 0 := ⟨⟨rfl, wd_X7_thrown⟩, wp_X7_thrown, by decide, gm5 9 rfl rfl, wt_X7_thrown⟩
theorem wv_RL_107 : gSX RL 107 yL_addLot cL_addLot 8 (some .int) [(0, 16, 19, 19), (0, 16, 23, 21), (0, 16, 27, 13)] 7 := ⟨wd_L_addLot, wp_L_addLot, by decide, gm3 205 rfl rfl, wt_L_addLot⟩
theorem wv_RL_110 : gV RL 110 RX7 yX7_addLot cX7_addLot 6 (some .int) 5 := ⟨⟨rfl, wd_X7_addLot⟩, wp_X7_addLot, by decide, gm5 21 rfl rfl, wt_X7_addLot⟩
theorem wv_RL_111 : gSX RL 111 yL_addTank cL_addTank 4 (some .int) [(0, 9, 12, 21), (0, 9, 15, 13)] 3 := ⟨wd_L_addTank, wp_L_addTank, by decide, gm3 221 rfl rfl, wt_L_addTank⟩
theorem wv_RL_114 : gV RL 114 RX7 yX7_addTank cX7_addTank 2 (some .int) 1 := ⟨⟨rfl, wd_X7_addTank⟩, wp_X7_addTank, by decide, gm5 47 rfl rfl, wt_X7_addTank⟩
theorem wv_RL_115 : gSX RL 115 yL_setYield cL_setYield 5 (some .int) [(0, 10, 13, 19), (0, 10, 17, 21)] 4 := ⟨wd_L_setYield, wp_L_setYield, by decide, gm3 230 rfl rfl, wt_L_setYield⟩
theorem wv_RL_118 : gV RL 118 RX7 yX7_setYield cX7_setYield 4 (some .int) 2 := ⟨⟨rfl, wd_X7_setYield⟩, wp_X7_setYield, by decide, gm5 51 rfl rfl, wt_X7_setYield⟩
theorem wv_RL_119 : gSX RL 119 yL_set cL_set 5 (some .int) [(0, 10, 13, 19), (0, 10, 17, 21)] 4 := ⟨wd_L_set, wp_L_set, by decide, gm3 238 rfl rfl, wt_L_set⟩
theorem wv_RL_121 : gV RL 121 RX7 yX7_set cX7_set 4 (some .int) 2 := ⟨⟨rfl, wd_X7_set⟩, wp_X7_set, by decide, gm5 55 rfl rfl, wt_X7_set⟩
theorem wv_RL_122 : gSX RL 122 yL_press cL_press 5 (some .int) [(0, 10, 13, 19), (0, 10, 17, 13)] 4 := ⟨wd_L_press, wp_L_press, by decide, gm4 6 rfl rfl, wt_L_press⟩
theorem wv_RL_125 : gV RL 125 RX7 yX7_press cX7_press 5 (some .int) 2 := ⟨⟨rfl, wd_X7_press⟩, wp_X7_press, by decide, gm5 65 rfl rfl, wt_X7_press⟩
theorem wv_RL_126 : gV RL 126 RX6 yX6_clean cX6_clean 2 (some .int) 0 := ⟨⟨rfl, wd_X6_clean⟩, wp_X6_clean, by decide, gm2 5 rfl rfl, wt_X6_clean⟩
theorem wv_RL_129 : gV RL 129 RX7 yX7_clean cX7_clean 2 (some .int) 0 := ⟨⟨rfl, wd_X7_clean⟩, wp_X7_clean, by decide, gm5 133 rfl rfl, wt_X7_clean⟩
theorem wv_RL_130 : gSX RL 130 yL_appeal cL_appeal 4 (some .int) [(0, 9, 12, 19), (0, 9, 15, 13)] 3 := ⟨wd_L_appeal, wp_L_appeal, by decide, gm4 31 rfl rfl, wt_L_appeal⟩
theorem wv_RL_132 : gV RL 132 RX7 yX7_appeal cX7_appeal 5 (some .int) 1 := ⟨⟨rfl, wd_X7_appeal⟩, wp_X7_appeal, by decide, gm5 137 rfl rfl, wt_X7_appeal⟩
theorem wv_RL_133 : gSX RL 133 yL_draw cL_draw 6 (some .int) [(0, 12, 15, 19), (0, 12, 19, 21), (0, 12, 23, 13)] 5 := ⟨wd_L_draw, wp_L_draw, by decide, gm4 44 rfl rfl, wt_L_draw⟩
theorem wv_RL_136 : gV RL 136 RX7 yX7_draw cX7_draw 5 (some .int) 3 := ⟨⟨rfl, wd_X7_draw⟩, wp_X7_draw, by decide, gm5 153 rfl rfl, wt_X7_draw⟩
theorem wv_RL_137 : gSX RL 137 yL_move cL_move 7 (some .int) [(0, 14, 17, 19), (0, 14, 21, 21), (0, 14, 25, 13)] 6 := ⟨wd_L_move, wp_L_move, by decide, gm4 58 rfl rfl, wt_L_move⟩
theorem wv_RL_140 : gV RL 140 RX7 yX7_move cX7_move 7 (some .int) 4 := ⟨⟨rfl, wd_X7_move⟩, wp_X7_move, by decide, gm5 168 rfl rfl, wt_X7_move⟩
theorem wv_RL_141 : gSX RL 141 yL_pass cL_pass 4 (some .int) [(0, 9, 12, 21)] 3 := ⟨wd_L_pass, wp_L_pass, by decide, gm4 67 rfl rfl, wt_L_pass⟩
theorem wv_RL_143 : gV RL 143 RX7 yX7_pass cX7_pass 7 (some .int) 1 := ⟨⟨rfl, wd_X7_pass⟩, wp_X7_pass, by decide, gm5 176 rfl rfl, wt_X7_pass⟩
theorem wv_RL_144 : gSX RL 144 yL_append cL_append 4 (some .int) [(0, 9, 12, 21), (0, 9, 15, 13)] 3 := ⟨wd_L_append, wp_L_append, by decide, gm4 80 rfl rfl, wt_L_append⟩
theorem wv_RL_146 : gV RL 146 RX7 yX7_append cX7_append 2 (some .int) 1 := ⟨⟨rfl, wd_X7_append⟩, wp_X7_append, by decide, gm5 180 rfl rfl, wt_X7_append⟩
theorem wv_RL_147 : gV RL 147 RX6 yX6_clearBuffer cX6_clearBuffer 2 (some .int) 0 := ⟨⟨rfl, wd_X6_clearBuffer⟩, wp_X6_clearBuffer, by decide, gm2 44 rfl rfl, wt_X6_clearBuffer⟩
theorem wv_RL_150 : gV RL 150 RX7 yX7_clearBuffer cX7_clearBuffer 2 (some .int) 0 := ⟨⟨rfl, wd_X7_clearBuffer⟩, wp_X7_clearBuffer, by decide, gm5 184 rfl rfl, wt_X7_clearBuffer⟩
theorem wv_RL_151 : gV RL 151 RX6 yX6_firstError cX6_firstError 2 (some .int) 0 := ⟨⟨rfl, wd_X6_firstError⟩, wp_X6_firstError, by decide, gm2 48 rfl rfl, wt_X6_firstError⟩
theorem wv_RL_154 : gV RL 154 RX7 yX7_firstError cX7_firstError 1 (some .int) 0 := ⟨⟨rfl, wd_X7_firstError⟩, wp_X7_firstError, by decide, gm5 188 rfl rfl, wt_X7_firstError⟩
theorem wv_RL_155 : gSX RL 155 yL_addSlips cL_addSlips 3 (some .int) [(0, 8, 11, 21)] 2 := ⟨wd_L_addSlips, wp_L_addSlips, by decide, gm4 89 rfl rfl, wt_L_addSlips⟩
theorem wv_RL_157 : gV RL 157 RX7 yX7_addSlips cX7_addSlips 3 (some .int) 0 := ⟨⟨rfl, wd_X7_addSlips⟩, wp_X7_addSlips, by decide, gm5 215 rfl rfl, wt_X7_addSlips⟩
theorem wv_RL_158 : gSX RL 158 yL_undo cL_undo 3 (some .int) [(0, 8, 11, 13)] 2 := ⟨wd_L_undo, wp_L_undo, by decide, gm4 114 rfl rfl, wt_L_undo⟩
theorem wv_RL_160 : gV RL 160 RX7 yX7_undo cX7_undo 2 (some .int) 0 := ⟨⟨rfl, wd_X7_undo⟩, wp_X7_undo, by decide, gm5 223 rfl rfl, wt_X7_undo⟩
theorem wv_RL_161 : gSX RL 161 yL_grower cL_grower 5 (some .int) [(0, 10, 13, 19), (0, 10, 17, 21)] 4 := ⟨wd_L_grower, wp_L_grower, by decide, gm4 126 rfl rfl, wt_L_grower⟩
theorem wv_RL_163 : gV RL 163 RX7 yX7_grower cX7_grower 3 (some .int) 2 := ⟨⟨rfl, wd_X7_grower⟩, wp_X7_grower, by decide, gm5 227 rfl rfl, wt_X7_grower⟩
theorem wv_RL_164 : gSX RL 164 yL_lot cL_lot 5 (some .int) [(0, 10, 13, 19), (0, 10, 17, 21)] 4 := ⟨wd_L_lot, wp_L_lot, by decide, gm4 130 rfl rfl, wt_L_lot⟩
theorem wv_RL_166 : gV RL 166 RX7 yX7_lot cX7_lot 3 (some .int) 2 := ⟨⟨rfl, wd_X7_lot⟩, wp_X7_lot, by decide, gm5 239 rfl rfl, wt_X7_lot⟩
theorem wv_RL_167 : gSX RL 167 yL_tank cL_tank 5 (some .int) [(0, 10, 13, 19), (0, 10, 17, 21)] 4 := ⟨wd_L_tank, wp_L_tank, by decide, gm4 134 rfl rfl, wt_L_tank⟩
theorem wv_RL_169 : gV RL 169 RX7 yX7_tank cX7_tank 3 (some .int) 2 := ⟨⟨rfl, wd_X7_tank⟩, wp_X7_tank, by decide, gm6 7 rfl rfl, wt_X7_tank⟩
theorem wv_RL_170 : gSX RL 170 yL_variety cL_variety 5 (some .int) [(0, 10, 13, 19), (0, 10, 17, 21)] 4 := ⟨wd_L_variety, wp_L_variety, by decide, gm4 138 rfl rfl, wt_L_variety⟩
theorem wv_RL_172 : gV RL 172 RX7 yX7_variety cX7_variety 3 (some .int) 2 := ⟨⟨rfl, wd_X7_variety⟩, wp_X7_variety, by decide, gm6 15 rfl rfl, wt_X7_variety⟩
theorem wv_RL_173 : gSX RL 173 yL_count cL_count 4 (some .int) [(0, 9, 12, 21)] 3 := ⟨wd_L_count, wp_L_count, by decide, gm4 142 rfl rfl, wt_L_count⟩
theorem wv_RL_175 : gV RL 175 RX7 yX7_count cX7_count 2 (some .int) 1 := ⟨⟨rfl, wd_X7_count⟩, wp_X7_count, by decide, gm6 27 rfl rfl, wt_X7_count⟩
theorem wv_RL_176 : gSX RL 176 yL_setting cL_setting 4 (some .int) [(0, 9, 12, 19)] 3 := ⟨wd_L_setting, wp_L_setting, by decide, gm4 146 rfl rfl, wt_L_setting⟩
theorem wv_RL_178 : gV RL 178 RX7 yX7_setting cX7_setting 2 (some .int) 1 := ⟨⟨rfl, wd_X7_setting⟩, wp_X7_setting, by decide, gm6 43 rfl rfl, wt_X7_setting⟩
theorem wv_RL_179 : gSX RL 179 yL_whyNot cL_whyNot 5 (some .int) [(0, 10, 13, 19)] 4 := ⟨wd_L_whyNot, wp_L_whyNot, by decide, gm4 150 rfl rfl, wt_L_whyNot⟩
theorem wv_RL_181 : gV RL 181 RX7 yX7_whyNot cX7_whyNot 3 (some .int) 2 := ⟨⟨rfl, wd_X7_whyNot⟩, wp_X7_whyNot, by decide, gm6 47 rfl rfl, wt_X7_whyNot⟩
theorem wv_RL_182 : gSX RL 182 yL_next cL_next 4 (some .int) [(0, 9, 12, 21)] 3 := ⟨wd_L_next, wp_L_next, by decide, gm4 157 rfl rfl, wt_L_next⟩
theorem wv_RL_184 : gV RL 184 RX7 yX7_next cX7_next 2 (some .int) 1 := ⟨⟨rfl, wd_X7_next⟩, wp_X7_next, by decide, gm6 51 rfl rfl, wt_X7_next⟩
theorem wv_RL_185 : gSX RL 185 yL_taken cL_taken 6 (some .int) [(0, 12, 15, 19), (0, 12, 19, 21)] 5 := ⟨wd_L_taken, wp_L_taken, by decide, gm4 161 rfl rfl, wt_L_taken⟩
theorem wv_RL_187 : gV RL 187 RX7 yX7_taken cX7_taken 4 (some .int) 3 := ⟨⟨rfl, wd_X7_taken⟩, wp_X7_taken, by decide, gm6 59 rfl rfl, wt_X7_taken⟩
theorem wv_RL_188 : gSX RL 188 yL_oilIn cL_oilIn 5 (some .int) [(0, 10, 13, 19), (0, 10, 17, 21)] 4 := ⟨wd_L_oilIn, wp_L_oilIn, by decide, gm4 165 rfl rfl, wt_L_oilIn⟩
theorem wv_RL_190 : gV RL 190 RX7 yX7_oilIn cX7_oilIn 3 (some .int) 2 := ⟨⟨rfl, wd_X7_oilIn⟩, wp_X7_oilIn, by decide, gm6 67 rfl rfl, wt_X7_oilIn⟩
theorem wv_RL_191 : gSX RL 191 yL_lossBy cL_lossBy 4 (some .int) [(0, 9, 12, 21)] 3 := ⟨wd_L_lossBy, wp_L_lossBy, by decide, gm4 169 rfl rfl, wt_L_lossBy⟩
theorem wv_RL_193 : gV RL 193 RX7 yX7_lossBy cX7_lossBy 2 (some .int) 1 := ⟨⟨rfl, wd_X7_lossBy⟩, wp_X7_lossBy, by decide, gm6 75 rfl rfl, wt_X7_lossBy⟩
theorem wv_RL_194 : gV RL 194 RX6 yX6_bestTank cX6_bestTank 6 (some .int) 0 := ⟨⟨rfl, wd_X6_bestTank⟩, wp_X6_bestTank, by decide, gm2 95 rfl rfl, wt_X6_bestTank⟩
theorem wv_RL_197 : gV RL 197 RX7 yX7_bestTank cX7_bestTank 1 (some .int) 0 := ⟨⟨rfl, wd_X7_bestTank⟩, wp_X7_bestTank, by decide, gm6 83 rfl rfl, wt_X7_bestTank⟩
theorem wv_RL_198 : gV RL 198 RX6 yX6_goodShare cX6_goodShare 2 (some .double) 0 := ⟨⟨rfl, wd_X6_goodShare⟩, wp_X6_goodShare, by decide, gm2 154 rfl rfl, wt_X6_goodShare⟩
theorem wv_RL_202 : gV RL 202 RX7 yX7_goodShare cX7_goodShare 1 (some .double) 0 := ⟨⟨rfl, wd_X7_goodShare⟩, wp_X7_goodShare, by decide, gm6 91 rfl rfl, wt_X7_goodShare⟩
theorem wv_RL_203 : gV RL 203 RX6 yX6_digest cX6_digest 4 (some .long) 0 := ⟨⟨rfl, wd_X6_digest⟩, wp_X6_digest, by decide, gm2 166 rfl rfl, wt_X6_digest⟩
theorem wv_RL_207 : gV RL 207 RX7 yX7_digest cX7_digest 2 (some .long) 0 := ⟨⟨rfl, wd_X7_digest⟩, wp_X7_digest, by decide, gm6 99 rfl rfl, wt_X7_digest⟩
theorem wv_RX0_61 : gV RX0 61 RX5 yX5_get cX5_get 4 (some .int) 2 := ⟨⟨rfl, wd_X5_get⟩, wp_X5_get, by decide, gm2 145 rfl rfl, wt_X5_get⟩
theorem wv_RX0_72 : gV RX0 72 RX0 yX0_placeOfSaved cX0_placeOfSaved 2 (some .int) 1 := ⟨⟨rfl, wd_X0_placeOfSaved⟩, wp_X0_placeOfSaved, by decide, gm2 13 rfl rfl, wt_X0_placeOfSaved⟩
theorem wv_RX1_28 : gV RX1 28 RX5 yX5_get cX5_get 4 (some .int) 2 := ⟨⟨rfl, wd_X5_get⟩, wp_X5_get, by decide, gm2 136 rfl rfl, wt_X5_get⟩
theorem wv_RX1_34 : gV RX1 34 RX1 yX1_oilOf cX1_oilOf 4 (some .int) 1 := ⟨⟨rfl, wd_X1_oilOf⟩, wp_X1_oilOf, by decide, gm2 137 rfl rfl, wt_X1_oilOf⟩
theorem wv_RX1_38 : gV RX1 38 RX1 yX1_gradeOf cX1_gradeOf 2 (some .int) 1 := ⟨⟨rfl, wd_X1_gradeOf⟩, wp_X1_gradeOf, by decide, gm2 150 rfl rfl, wt_X1_gradeOf⟩
theorem wv_RX1_46 : gV RX1 46 RX5 yX5_put cX5_put 5 none 3 := ⟨⟨rfl, wd_X5_put⟩, wp_X5_put, by decide, gm4 29 rfl rfl, wt_X5_put⟩
theorem wv_RX1_50 : gV RX1 50 RX5 yX5_add cX5_add 4 none 3 := ⟨⟨rfl, wd_X5_add⟩, wp_X5_add, by decide, gm4 30 rfl rfl, wt_X5_add⟩
theorem wv_RX1_53 : gV RX1 53 RX1 yX1_split cX1_split 7 none 2 := ⟨⟨rfl, wd_X1_split⟩, wp_X1_split, by decide, gm4 56 rfl rfl, wt_X1_split⟩
theorem wv_RX1_57 : gV RX1 57 RX1 yX1_part cX1_part 2 (some .int) 1 := ⟨⟨rfl, wd_X1_part⟩, wp_X1_part, by decide, gm4 57 rfl rfl, wt_X1_part⟩
theorem wv_RX1_64 : gV RX1 64 RX3 yX3_get cX3_get 3 (some .int) 1 := ⟨⟨rfl, wd_X3_get⟩, wp_X3_get, by decide, gm3 111 rfl rfl, wt_X3_get⟩
theorem wv_RX1_68 : gV RX1 68 RX1 yX1_oilAfter cX1_oilAfter 5 (some .int) 2 := ⟨⟨rfl, wd_X1_oilAfter⟩, wp_X1_oilAfter, by decide, gm4 79 rfl rfl, wt_X1_oilAfter⟩
theorem wv_RX1_74 : gV RX1 74 RX1 yX1_greatestRemainder cX1_greatestRemainder 3 (some .int) 0 := ⟨⟨rfl, wd_X1_greatestRemainder⟩, wp_X1_greatestRemainder, by decide, gm3 126 rfl rfl, wt_X1_greatestRemainder⟩
theorem wv_RX1_78 : gV RX1 78 RX1 yX1_roundUp cX1_roundUp 2 none 1 := ⟨⟨rfl, wd_X1_roundUp⟩, wp_X1_roundUp, by decide, gm3 130 rfl rfl, wt_X1_roundUp⟩
theorem wv_RX2_25 : gV RX2 25 RX3 yX3_get cX3_get 3 (some .int) 1 := ⟨⟨rfl, wd_X3_get⟩, wp_X3_get, by decide, gm2 111 rfl rfl, wt_X3_get⟩
theorem wv_RX2_35 : gV RX2 35 RX5 yX5_get cX5_get 4 (some .int) 2 := ⟨⟨rfl, wd_X5_get⟩, wp_X5_get, by decide, gm2 112 rfl rfl, wt_X5_get⟩
theorem wv_RX2_47 : gV RX2 47 RX2 yX2_begin cX2_begin 3 none 0 := ⟨⟨rfl, wd_X2_begin⟩, wp_X2_begin, by decide, gm2 107 rfl rfl, wt_X2_begin⟩
theorem wv_RX2_53 : gV RX2 53 RX2 yX2_step cX2_step 2 (some .boolean) 1 := ⟨⟨rfl, wd_X2_step⟩, wp_X2_step, by decide, gm2 113 rfl rfl, wt_X2_step⟩
theorem wv_RX2_57 : gV RX2 57 RX2 yX2_lotInTurn cX2_lotInTurn 3 (some .int) 1 := ⟨⟨rfl, wd_X2_lotInTurn⟩, wp_X2_lotInTurn, by decide, gm2 117 rfl rfl, wt_X2_lotInTurn⟩
theorem wv_RX2_63 : gV RX2 63 RX2 yX2_weigh cX2_weigh 2 none 0 := ⟨⟨rfl, wd_X2_weigh⟩, wp_X2_weigh, by decide, gm2 121 rfl rfl, wt_X2_weigh⟩
theorem wv_RX2_66 : gV RX2 66 RX2 yX2_passThroughMill cX2_passThroughMill 5 none 1 := ⟨⟨rfl, wd_X2_passThroughMill⟩, wp_X2_passThroughMill, by decide, gm2 125 rfl rfl, wt_X2_passThroughMill⟩
theorem wv_RX3_17 : gV RX3 17 RX3 yX3_get cX3_get 3 (some .int) 1 := ⟨⟨rfl, wd_X3_get⟩, wp_X3_get, by decide, gm2 41 rfl rfl, wt_X3_get⟩
theorem wv_RX3_21 : gV RX3 21 RX3 yX3_put cX3_put 4 none 2 := ⟨⟨rfl, wd_X3_put⟩, wp_X3_put, by decide, gm2 42 rfl rfl, wt_X3_put⟩
theorem wv_RX4_15 : gV RX4 15 RX4 yX4_readsGrower cX4_readsGrower 2 (some .boolean) 1 := ⟨⟨rfl, wd_X4_readsGrower⟩, wp_X4_readsGrower, by decide, gm2 64 rfl rfl, wt_X4_readsGrower⟩
theorem wv_RX4_19 : gV RX4 19 RX4 yX4_readsVariety cX4_readsVariety 2 (some .boolean) 1 := ⟨⟨rfl, wd_X4_readsVariety⟩, wp_X4_readsVariety, by decide, gm2 68 rfl rfl, wt_X4_readsVariety⟩
theorem wv_RX4_22 : gV RX4 22 RX4 yX4_readsDigit cX4_readsDigit 2 (some .boolean) 1 := ⟨⟨rfl, wd_X4_readsDigit⟩, wp_X4_readsDigit, by decide, gm2 79 rfl rfl, wt_X4_readsDigit⟩
theorem wv_RX4_25 : gV RX4 25 RX4 yX4_numberStands cX4_numberStands 1 (some .boolean) 0 := ⟨⟨rfl, wd_X4_numberStands⟩, wp_X4_numberStands, by decide, gm2 87 rfl rfl, wt_X4_numberStands⟩
theorem wv_RX4_29 : gV RX4 29 RX4 yX4_readsSign cX4_readsSign 2 (some .boolean) 1 := ⟨⟨rfl, wd_X4_readsSign⟩, wp_X4_readsSign, by decide, gm2 91 rfl rfl, wt_X4_readsSign⟩
theorem wv_RX4_44 : gV RX4 44 RX4 yX4_beginNumber cX4_beginNumber 4 none 3 := ⟨⟨rfl, wd_X4_beginNumber⟩, wp_X4_beginNumber, by decide, gm2 72 rfl rfl, wt_X4_beginNumber⟩
theorem wv_RX4_48 : gSN RX4 "OliveMill" 48 yX6_isVariety cX6_isVariety 1 (some .boolean) 1 := ⟨wd_X6_isVariety, wp_X6_isVariety, by decide, by decide +kernel, wt_X6_isVariety⟩
theorem wv_RX4_55 : gV RX4 55 RX4 yX4_numberCanStand cX4_numberCanStand 4 (some .boolean) 0 := ⟨⟨rfl, wd_X4_numberCanStand⟩, wp_X4_numberCanStand, by decide, gm2 83 rfl rfl, wt_X4_numberCanStand⟩
theorem wv_RX5_20 : gV RX5 20 RX5 yX5_get cX5_get 4 (some .int) 2 := ⟨⟨rfl, wd_X5_get⟩, wp_X5_get, by decide, gm2 32 rfl rfl, wt_X5_get⟩
theorem wv_RX5_24 : gV RX5 24 RX5 yX5_put cX5_put 5 none 3 := ⟨⟨rfl, wd_X5_put⟩, wp_X5_put, by decide, gm2 36 rfl rfl, wt_X5_put⟩
theorem wv_RX6_51 : gV RX6 51 RX3 yX3_get cX3_get 3 (some .int) 1 := ⟨⟨rfl, wd_X3_get⟩, wp_X3_get, by decide, gm2 20 rfl rfl, wt_X3_get⟩
theorem wv_RX6_64 : gV RX6 64 RX0 yX0_save cX0_save 2 none 0 := ⟨⟨rfl, wd_X0_save⟩, wp_X0_save, by decide, gm2 9 rfl rfl, wt_X0_save⟩
theorem wv_RX6_67 : gV RX6 67 RX3 yX3_add cX3_add 3 none 2 := ⟨⟨rfl, wd_X3_add⟩, wp_X3_add, by decide, gm2 37 rfl rfl, wt_X3_add⟩
theorem wv_RX6_71 : gV RX6 71 RX6 yX6_checkGrower cX6_checkGrower 2 none 1 := ⟨⟨rfl, wd_X6_checkGrower⟩, wp_X6_checkGrower, by decide, gm3 51 rfl rfl, wt_X6_checkGrower⟩
theorem wv_RX6_75 : gS RX6 75 yX6_isVariety cX6_isVariety 1 (some .boolean) 1 := ⟨wd_X6_isVariety, wp_X6_isVariety, by decide, gm3 120 rfl rfl, wt_X6_isVariety⟩
theorem wv_RX6_79 : gS RX6 79 yX6_isOutside cX6_isOutside 3 (some .boolean) 3 := ⟨wd_X6_isOutside, wp_X6_isOutside, by decide, gm3 103 rfl rfl, wt_X6_isOutside⟩
theorem wv_RX6_90 : gV RX6 90 RX6 yX6_enterLot cX6_enterLot 7 (some .int) 5 := ⟨⟨rfl, wd_X6_enterLot⟩, wp_X6_enterLot, by decide, gm3 216 rfl rfl, wt_X6_enterLot⟩
theorem wv_RX6_102 : gV RX6 102 RX5 yX5_put cX5_put 5 none 3 := ⟨⟨rfl, wd_X5_put⟩, wp_X5_put, by decide, gm3 220 rfl rfl, wt_X5_put⟩
theorem wv_RX6_108 : gS RX6 108 yX6_checkVariety cX6_checkVariety 1 none 1 := ⟨wd_X6_checkVariety, wp_X6_checkVariety, by decide, gm3 146 rfl rfl, wt_X6_checkVariety⟩
theorem wv_RX6_116 : gV RX6 116 RX5 yX5_get cX5_get 4 (some .int) 2 := ⟨⟨rfl, wd_X5_get⟩, wp_X5_get, by decide, gm2 179 rfl rfl, wt_X5_get⟩
theorem wv_RX6_119 : gS RX6 119 yX6_isSetting cX6_isSetting 1 (some .boolean) 1 := ⟨wd_X6_isSetting, wp_X6_isSetting, by decide, gm3 24 rfl rfl, wt_X6_isSetting⟩
theorem wv_RX6_127 : gS RX6 127 yX6_isSettingValue cX6_isSettingValue 2 (some .boolean) 2 := ⟨wd_X6_isSettingValue, wp_X6_isSettingValue, by decide, gm3 163 rfl rfl, wt_X6_isSettingValue⟩
theorem wv_RX6_136 : gV RX6 136 RX3 yX3_put cX3_put 4 none 2 := ⟨⟨rfl, wd_X3_put⟩, wp_X3_put, by decide, gm2 43 rfl rfl, wt_X3_put⟩
theorem wv_RX6_138 : gV RX6 138 RX6 yX6_checkTank cX6_checkTank 2 none 1 := ⟨⟨rfl, wd_X6_checkTank⟩, wp_X6_checkTank, by decide, gm3 91 rfl rfl, wt_X6_checkTank⟩
theorem wv_RX6_141 : gV RX6 141 RX6 yX6_reasonAgainstPress cX6_reasonAgainstPress 3 (some .int) 2 := ⟨⟨rfl, wd_X6_reasonAgainstPress⟩, wp_X6_reasonAgainstPress, by decide, gm2 99 rfl rfl, wt_X6_reasonAgainstPress⟩
theorem wv_RX6_153 : gV RX6 153 RX6 yX6_loseByCleaning cX6_loseByCleaning 3 none 2 := ⟨⟨rfl, wd_X6_loseByCleaning⟩, wp_X6_loseByCleaning, by decide, gm2 24 rfl rfl, wt_X6_loseByCleaning⟩
theorem wv_RX6_156 : gV RX6 156 RX6 yX6_enterPressedLot cX6_enterPressedLot 3 none 1 := ⟨⟨rfl, wd_X6_enterPressedLot⟩, wp_X6_enterPressedLot, by decide, gm4 14 rfl rfl, wt_X6_enterPressedLot⟩
theorem wv_RX6_159 : gV RX6 159 RX6 yX6_pourPressedOil cX6_pourPressedOil 4 none 1 := ⟨⟨rfl, wd_X6_pourPressedOil⟩, wp_X6_pourPressedOil, by decide, gm4 18 rfl rfl, wt_X6_pourPressedOil⟩
theorem wv_RX6_171 : gV RX6 171 RX6 yX6_checkLot cX6_checkLot 2 none 1 := ⟨⟨rfl, wd_X6_checkLot⟩, wp_X6_checkLot, by decide, gm3 65 rfl rfl, wt_X6_checkLot⟩
theorem wv_RX6_174 : gV RX6 174 RX6 yX6_reasonAgainstAppeal cX6_reasonAgainstAppeal 3 (some .int) 1 := ⟨⟨rfl, wd_X6_reasonAgainstAppeal⟩, wp_X6_reasonAgainstAppeal, by decide, gm3 74 rfl rfl, wt_X6_reasonAgainstAppeal⟩
theorem wv_RX6_179 : gV RX6 179 RX6 yX6_secondOilOf cX6_secondOilOf 3 (some .int) 1 := ⟨⟨rfl, wd_X6_secondOilOf⟩, wp_X6_secondOilOf, by decide, gm3 78 rfl rfl, wt_X6_secondOilOf⟩
theorem wv_RX6_185 : gV RX6 185 RX5 yX5_add cX5_add 4 none 3 := ⟨⟨rfl, wd_X5_add⟩, wp_X5_add, by decide, gm2 28 rfl rfl, wt_X5_add⟩
theorem wv_RX6_187 : gV RX6 187 RX0 yX0_gradeOfLot cX0_gradeOfLot 3 (some .int) 1 := ⟨⟨rfl, wd_X0_gradeOfLot⟩, wp_X0_gradeOfLot, by decide, gm2 141 rfl rfl, wt_X0_gradeOfLot⟩
theorem wv_RX6_190 : gV RX6 190 RX1 yX1_pour cX1_pour 5 none 4 := ⟨⟨rfl, wd_X1_pour⟩, wp_X1_pour, by decide, gm4 22 rfl rfl, wt_X1_pour⟩
theorem wv_RX6_194 : gV RX6 194 RX6 yX6_settleAppeal cX6_settleAppeal 4 none 2 := ⟨⟨rfl, wd_X6_settleAppeal⟩, wp_X6_settleAppeal, by decide, gm4 39 rfl rfl, wt_X6_settleAppeal⟩
theorem wv_RX6_197 : gS RX6 197 yX6_checkOil cX6_checkOil 1 none 1 := ⟨wd_X6_checkOil, wp_X6_checkOil, by decide, gm3 116 rfl rfl, wt_X6_checkOil⟩
theorem wv_RX6_203 : gV RX6 203 RX1 yX1_oilOf cX1_oilOf 4 (some .int) 1 := ⟨⟨rfl, wd_X1_oilOf⟩, wp_X1_oilOf, by decide, gm3 96 rfl rfl, wt_X1_oilOf⟩
theorem wv_RX6_208 : gV RX6 208 RX1 yX1_takeOut cX1_takeOut 4 none 2 := ⟨⟨rfl, wd_X1_takeOut⟩, wp_X1_takeOut, by decide, gm4 52 rfl rfl, wt_X1_takeOut⟩
theorem wv_RX6_211 : gV RX6 211 RX1 yX1_part cX1_part 2 (some .int) 1 := ⟨⟨rfl, wd_X1_part⟩, wp_X1_part, by decide, gm3 134 rfl rfl, wt_X1_part⟩
theorem wv_RX6_216 : gV RX6 216 RX1 yX1_gradeOf cX1_gradeOf 2 (some .int) 1 := ⟨⟨rfl, wd_X1_gradeOf⟩, wp_X1_gradeOf, by decide, gm3 97 rfl rfl, wt_X1_gradeOf⟩
theorem wv_RX6_219 : gV RX6 219 RX1 yX1_roomOf cX1_roomOf 2 (some .int) 1 := ⟨⟨rfl, wd_X1_roomOf⟩, wp_X1_roomOf, by decide, gm2 132 rfl rfl, wt_X1_roomOf⟩
theorem wv_RX6_222 : gV RX6 222 RX1 yX1_admits cX1_admits 5 (some .boolean) 3 := ⟨⟨rfl, wd_X1_admits⟩, wp_X1_admits, by decide, gm2 146 rfl rfl, wt_X1_admits⟩
theorem wv_RX6_230 : gV RX6 230 RX1 yX1_settle cX1_settle 6 (some .int) 3 := ⟨⟨rfl, wd_X1_settle⟩, wp_X1_settle, by decide, gm4 75 rfl rfl, wt_X1_settle⟩
theorem wv_RX6_238 : gV RX6 238 RX4 yX4_restart cX4_restart 1 none 0 := ⟨⟨rfl, wd_X4_restart⟩, wp_X4_restart, by decide, gm2 52 rfl rfl, wt_X4_restart⟩
theorem wv_RX6_241 : gV RX6 241 RX6 yX6_codeAt cX6_codeAt 2 (some .int) 1 := ⟨⟨rfl, wd_X6_codeAt⟩, wp_X6_codeAt, by decide, gm2 56 rfl rfl, wt_X6_codeAt⟩
theorem wv_RX6_244 : gV RX6 244 RX4 yX4_reads cX4_reads 2 (some .boolean) 1 := ⟨⟨rfl, wd_X4_reads⟩, wp_X4_reads, by decide, gm2 60 rfl rfl, wt_X4_reads⟩
theorem wv_RX6_247 : gV RX6 247 RX6 yX6_firstError cX6_firstError 2 (some .int) 0 := ⟨⟨rfl, wd_X6_firstError⟩, wp_X6_firstError, by decide, gm4 96 rfl rfl, wt_X6_firstError⟩
theorem wv_RX6_251 : gV RX6 251 RX4 yX4_canEnd cX4_canEnd 1 (some .boolean) 0 := ⟨⟨rfl, wd_X4_canEnd⟩, wp_X4_canEnd, by decide, gm4 97 rfl rfl, wt_X4_canEnd⟩
theorem wv_RX6_257 : gV RX6 257 RX6 yX6_enterSlips cX6_enterSlips 4 (some .int) 0 := ⟨⟨rfl, wd_X6_enterSlips⟩, wp_X6_enterSlips, by decide, gm4 102 rfl rfl, wt_X6_enterSlips⟩
theorem wv_RX6_265 : gV RX6 265 RX0 yX0_restore cX0_restore 2 none 0 := ⟨⟨rfl, wd_X0_restore⟩, wp_X0_restore, by decide, gm4 122 rfl rfl, wt_X0_restore⟩
theorem wv_RX6_268 : gV RX6 268 RX6 yX6_lotsWith cX6_lotsWith 8 (some .int) 3 := ⟨⟨rfl, wd_X6_lotsWith⟩, wp_X6_lotsWith, by decide, gm2 175 rfl rfl, wt_X6_lotsWith⟩
theorem wv_RX6_274 : gV RX6 274 RX6 yX6_ifPressed cX6_ifPressed 4 (some .int) 3 := ⟨⟨rfl, wd_X6_ifPressed⟩, wp_X6_ifPressed, by decide, gm3 70 rfl rfl, wt_X6_ifPressed⟩
theorem wv_RX6_281 : gV RX6 281 RX1 yX1_oilOfVariety cX1_oilOfVariety 4 (some .int) 1 := ⟨⟨rfl, wd_X1_oilOfVariety⟩, wp_X1_oilOfVariety, by decide, gm3 149 rfl rfl, wt_X1_oilOfVariety⟩
theorem wv_RX6_284 : gV RX6 284 RX6 yX6_residueVariety cX6_residueVariety 1 (some .int) 0 := ⟨⟨rfl, wd_X6_residueVariety⟩, wp_X6_residueVariety, by decide, gm2 180 rfl rfl, wt_X6_residueVariety⟩
theorem wv_RX6_289 : gV RX6 289 RX1 yX1_allOil cX1_allOil 3 (some .int) 0 := ⟨⟨rfl, wd_X1_allOil⟩, wp_X1_allOil, by decide, gm2 158 rfl rfl, wt_X1_allOil⟩
theorem wv_RX6_292 : gV RX6 292 RX6 yX6_sumOfGrowers cX6_sumOfGrowers 4 (some .int) 1 := ⟨⟨rfl, wd_X6_sumOfGrowers⟩, wp_X6_sumOfGrowers, by decide, gm2 184 rfl rfl, wt_X6_sumOfGrowers⟩
theorem wv_RX6_295 : gV RX6 295 RX1 yX1_oilOfGrade cX1_oilOfGrade 4 (some .int) 1 := ⟨⟨rfl, wd_X1_oilOfGrade⟩, wp_X1_oilOfGrade, by decide, gm2 162 rfl rfl, wt_X1_oilOfGrade⟩
theorem wv_RX6_302 : gV RX6 302 RX2 yX2_lookAhead cX2_lookAhead 1 (some .boolean) 0 := ⟨⟨rfl, wd_X2_lookAhead⟩, wp_X2_lookAhead, by decide, gm2 103 rfl rfl, wt_X2_lookAhead⟩
theorem wv_RX6_313 : gV RX6 313 RX1 yX1_split cX1_split 7 none 2 := ⟨⟨rfl, wd_X1_split⟩, wp_X1_split, by decide, gm3 122 rfl rfl, wt_X1_split⟩
theorem wv_RX6_318 : gV RX6 318 RX1 yX1_oilAfter cX1_oilAfter 5 (some .int) 2 := ⟨⟨rfl, wd_X1_oilAfter⟩, wp_X1_oilAfter, by decide, gm3 107 rfl rfl, wt_X1_oilAfter⟩
theorem wv_RX6_323 : gV RX6 323 RX2 yX2_begin cX2_begin 3 none 0 := ⟨⟨rfl, wd_X2_begin⟩, wp_X2_begin, by decide, gm3 171 rfl rfl, wt_X2_begin⟩
theorem wv_RX6_326 : gV RX6 326 RX2 yX2_step cX2_step 2 (some .boolean) 1 := ⟨⟨rfl, wd_X2_step⟩, wp_X2_step, by decide, gm3 172 rfl rfl, wt_X2_step⟩
theorem wv_RX6_331 : gV RX6 331 RX6 yX6_count cX6_count 2 (some .int) 1 := ⟨⟨rfl, wd_X6_count⟩, wp_X6_count, by decide, gm2 171 rfl rfl, wt_X6_count⟩
theorem wv_RX6_334 : gS RX6 334 yX6_mixed cX6_mixed 4 (some .long) 2 := ⟨wd_X6_mixed, wp_X6_mixed, by decide, gm3 16 rfl rfl, wt_X6_mixed⟩
theorem wv_RX6_338 : gV RX6 338 RX6 yX6_setting cX6_setting 2 (some .int) 1 := ⟨⟨rfl, wd_X6_setting⟩, wp_X6_setting, by decide, gm3 20 rfl rfl, wt_X6_setting⟩
theorem wv_RX6_341 : gV RX6 341 RX6 yX6_mixedWithGrowers cX6_mixedWithGrowers 8 (some .long) 1 := ⟨⟨rfl, wd_X6_mixedWithGrowers⟩, wp_X6_mixedWithGrowers, by decide, gm3 43 rfl rfl, wt_X6_mixedWithGrowers⟩
theorem wv_RX6_345 : gV RX6 345 RX6 yX6_mixedWithLots cX6_mixedWithLots 8 (some .long) 1 := ⟨⟨rfl, wd_X6_mixedWithLots⟩, wp_X6_mixedWithLots, by decide, gm3 57 rfl rfl, wt_X6_mixedWithLots⟩
theorem wv_RX6_348 : gV RX6 348 RX6 yX6_mixedWithTanks cX6_mixedWithTanks 8 (some .long) 1 := ⟨⟨rfl, wd_X6_mixedWithTanks⟩, wp_X6_mixedWithTanks, by decide, gm3 83 rfl rfl, wt_X6_mixedWithTanks⟩
theorem wv_RX6_351 : gV RX6 351 RX6 yX6_mixedWithVarieties cX6_mixedWithVarieties 7 (some .long) 1 := ⟨⟨rfl, wd_X6_mixedWithVarieties⟩, wp_X6_mixedWithVarieties, by decide, gm3 138 rfl rfl, wt_X6_mixedWithVarieties⟩
theorem wv_RX6_354 : gV RX6 354 RX6 yX6_next cX6_next 2 (some .int) 1 := ⟨⟨rfl, wd_X6_next⟩, wp_X6_next, by decide, gm3 154 rfl rfl, wt_X6_next⟩
theorem wv_RX6_357 : gV RX6 357 RX6 yX6_lossBy cX6_lossBy 4 (some .int) 1 := ⟨⟨rfl, wd_X6_lossBy⟩, wp_X6_lossBy, by decide, gm3 159 rfl rfl, wt_X6_lossBy⟩
theorem wv_RX6_360 : gV RX6 360 RX6 yX6_bestTank cX6_bestTank 6 (some .int) 0 := ⟨⟨rfl, wd_X6_bestTank⟩, wp_X6_bestTank, by decide, gm3 173 rfl rfl, wt_X6_bestTank⟩
theorem wv_RX6_363 : gV RX6 363 RX6 yX6_goodShare cX6_goodShare 2 (some .double) 0 := ⟨⟨rfl, wd_X6_goodShare⟩, wp_X6_goodShare, by decide, gm3 174 rfl rfl, wt_X6_goodShare⟩
theorem wv_RX6_367 : gS RX6 367 yX6_bitsOf cX6_bitsOf 7 (some .long) 1 := ⟨wd_X6_bitsOf, wp_X6_bitsOf, by decide, gm3 175 rfl rfl, wt_X6_bitsOf⟩
theorem wv_RX6_394 : gV RX6 394 RX4 yX4_acidity cX4_acidity 1 (some .int) 0 := ⟨⟨rfl, wd_X4_acidity⟩, wp_X4_acidity, by decide, gm4 106 rfl rfl, wt_X4_acidity⟩
theorem wv_RX6_397 : gV RX6 397 RX4 yX4_truth cX4_truth 1 (some .int) 0 := ⟨⟨rfl, wd_X4_truth⟩, wp_X4_truth, by decide, gm4 110 rfl rfl, wt_X4_truth⟩
theorem wv_RX6_416 : gV RX6 416 RX6 yX6_grower cX6_grower 3 (some .int) 2 := ⟨⟨rfl, wd_X6_grower⟩, wp_X6_grower, by decide, gm3 47 rfl rfl, wt_X6_grower⟩
theorem wv_RX6_418 : gV RX6 418 RX6 yX6_lot cX6_lot 3 (some .int) 2 := ⟨⟨rfl, wd_X6_lot⟩, wp_X6_lot, by decide, gm3 61 rfl rfl, wt_X6_lot⟩
theorem wv_RX6_420 : gV RX6 420 RX6 yX6_tank cX6_tank 3 (some .int) 2 := ⟨⟨rfl, wd_X6_tank⟩, wp_X6_tank, by decide, gm3 87 rfl rfl, wt_X6_tank⟩
theorem wv_RX6_423 : gV RX6 423 RX6 yX6_oilIn cX6_oilIn 5 (some .int) 2 := ⟨⟨rfl, wd_X6_oilIn⟩, wp_X6_oilIn, by decide, gm3 99 rfl rfl, wt_X6_oilIn⟩
theorem wv_RX6_426 : gV RX6 426 RX6 yX6_taken cX6_taken 4 (some .int) 3 := ⟨⟨rfl, wd_X6_taken⟩, wp_X6_taken, by decide, gm3 112 rfl rfl, wt_X6_taken⟩
theorem wv_RX6_429 : gV RX6 429 RX6 yX6_variety cX6_variety 3 (some .int) 2 := ⟨⟨rfl, wd_X6_variety⟩, wp_X6_variety, by decide, gm3 142 rfl rfl, wt_X6_variety⟩
theorem wv_RX7_38 : gS RX7 38 yX7_within cX7_within 3 (some .boolean) 3 := ⟨wd_X7_within, wp_X7_within, by decide, gm5 32 rfl rfl, wt_X7_within⟩
theorem wv_RX7_42 : gV RX7 42 RX7 yX7_ofTank cX7_ofTank 3 (some .int) 2 := ⟨⟨rfl, wd_X7_ofTank⟩, wp_X7_ofTank, by decide, gm5 105 rfl rfl, wt_X7_ofTank⟩
theorem wv_RX7_46 : gV RX7 46 RX7 yX7_oilOf cX7_oilOf 4 (some .int) 1 := ⟨⟨rfl, wd_X7_oilOf⟩, wp_X7_oilOf, by decide, gm5 109 rfl rfl, wt_X7_oilOf⟩
theorem wv_RX7_50 : gV RX7 50 RX7 yX7_ofLot cX7_ofLot 3 (some .int) 2 := ⟨⟨rfl, wd_X7_ofLot⟩, wp_X7_ofLot, by decide, gm5 85 rfl rfl, wt_X7_ofLot⟩
theorem wv_RX7_53 : gV RX7 53 RX7 yX7_gradeOf cX7_gradeOf 2 (some .int) 1 := ⟨⟨rfl, wd_X7_gradeOf⟩, wp_X7_gradeOf, by decide, gm5 121 rfl rfl, wt_X7_gradeOf⟩
theorem wv_RX7_56 : gV RX7 56 RX7 yX7_save cX7_save 2 none 0 := ⟨⟨rfl, wd_X7_save⟩, wp_X7_save, by decide, gm5 17 rfl rfl, wt_X7_save⟩
theorem wv_RX7_59 : gS RX7 59 yX7_isVariety cX7_isVariety 1 (some .boolean) 1 := ⟨wd_X7_isVariety, wp_X7_isVariety, by decide, gm5 29 rfl rfl, wt_X7_isVariety⟩
theorem wv_RX7_63 : gV RX7 63 RX7 yX7_isGrower cX7_isGrower 2 (some .boolean) 1 := ⟨⟨rfl, wd_X7_isGrower⟩, wp_X7_isGrower, by decide, gm5 35 rfl rfl, wt_X7_isGrower⟩
theorem wv_RX7_66 : gV RX7 66 RX7 yX7_setLot cX7_setLot 4 none 3 := ⟨⟨rfl, wd_X7_setLot⟩, wp_X7_setLot, by decide, gm5 43 rfl rfl, wt_X7_setLot⟩
theorem wv_RX7_70 : gV RX7 70 RX7 yX7_refusedLot cX7_refusedLot 7 (some .int) 5 := ⟨⟨rfl, wd_X7_refusedLot⟩, wp_X7_refusedLot, by decide, gm5 25 rfl rfl, wt_X7_refusedLot⟩
theorem wv_RX7_74 : gV RX7 74 RX7 yX7_putLot cX7_putLot 8 (some .int) 5 := ⟨⟨rfl, wd_X7_putLot⟩, wp_X7_putLot, by decide, gm5 39 rfl rfl, wt_X7_putLot⟩
theorem wv_RX7_77 : gS RX7 77 yX7_isSetting cX7_isSetting 1 (some .boolean) 1 := ⟨wd_X7_isSetting, wp_X7_isSetting, by decide, gm5 59 rfl rfl, wt_X7_isSetting⟩
theorem wv_RX7_80 : gS RX7 80 yX7_isValue cX7_isValue 2 (some .boolean) 2 := ⟨wd_X7_isValue, wp_X7_isValue, by decide, gm5 62 rfl rfl, wt_X7_isValue⟩
theorem wv_RX7_90 : gV RX7 90 RX7 yX7_firstWaiting cX7_firstWaiting 3 (some .int) 1 := ⟨⟨rfl, wd_X7_firstWaiting⟩, wp_X7_firstWaiting, by decide, gm5 93 rfl rfl, wt_X7_firstWaiting⟩
theorem wv_RX7_99 : gV RX7 99 RX7 yX7_contentBy cX7_contentBy 3 (some .int) 2 := ⟨⟨rfl, wd_X7_contentBy⟩, wp_X7_contentBy, by decide, gm5 97 rfl rfl, wt_X7_contentBy⟩
theorem wv_RX7_117 : gV RX7 117 RX7 yX7_layMill cX7_layMill 2 none 0 := ⟨⟨rfl, wd_X7_layMill⟩, wp_X7_layMill, by decide, gm5 81 rfl rfl, wt_X7_layMill⟩
theorem wv_RX7_120 : gV RX7 120 RX7 yX7_layNext cX7_layNext 5 (some .boolean) 1 := ⟨⟨rfl, wd_X7_layNext⟩, wp_X7_layNext, by decide, gm5 89 rfl rfl, wt_X7_layNext⟩
theorem wv_RX7_123 : gV RX7 123 RX7 yX7_layNextNow cX7_layNextNow 1 (some .boolean) 0 := ⟨⟨rfl, wd_X7_layNextNow⟩, wp_X7_layNextNow, by decide, gm5 77 rfl rfl, wt_X7_layNextNow⟩
theorem wv_RX7_127 : gV RX7 127 RX7 yX7_roomIn cX7_roomIn 2 (some .int) 1 := ⟨⟨rfl, wd_X7_roomIn⟩, wp_X7_roomIn, by decide, gm5 101 rfl rfl, wt_X7_roomIn⟩
theorem wv_RX7_130 : gV RX7 130 RX7 yX7_gradeOfLot cX7_gradeOfLot 3 (some .int) 1 := ⟨⟨rfl, wd_X7_gradeOfLot⟩, wp_X7_gradeOfLot, by decide, gm5 113 rfl rfl, wt_X7_gradeOfLot⟩
theorem wv_RX7_133 : gV RX7 133 RX7 yX7_suits cX7_suits 4 (some .boolean) 3 := ⟨⟨rfl, wd_X7_suits⟩, wp_X7_suits, by decide, gm5 117 rfl rfl, wt_X7_suits⟩
theorem wv_RX7_137 : gV RX7 137 RX7 yX7_isTank cX7_isTank 2 (some .boolean) 1 := ⟨⟨rfl, wd_X7_isTank⟩, wp_X7_isTank, by decide, gm5 69 rfl rfl, wt_X7_isTank⟩
theorem wv_RX7_140 : gV RX7 140 RX7 yX7_reason cX7_reason 4 (some .int) 2 := ⟨⟨rfl, wd_X7_reason⟩, wp_X7_reason, by decide, gm5 73 rfl rfl, wt_X7_reason⟩
theorem wv_RX7_144 : gV RX7 144 RX7 yX7_cleanNow cX7_cleanNow 2 none 1 := ⟨⟨rfl, wd_X7_cleanNow⟩, wp_X7_cleanNow, by decide, gm5 125 rfl rfl, wt_X7_cleanNow⟩
theorem wv_RX7_148 : gV RX7 148 RX7 yX7_pour cX7_pour 6 none 4 := ⟨⟨rfl, wd_X7_pour⟩, wp_X7_pour, by decide, gm5 129 rfl rfl, wt_X7_pour⟩
theorem wv_RX7_152 : gV RX7 152 RX7 yX7_secondOf cX7_secondOf 2 (some .int) 1 := ⟨⟨rfl, wd_X7_secondOf⟩, wp_X7_secondOf, by decide, gm5 149 rfl rfl, wt_X7_secondOf⟩
theorem wv_RX7_155 : gV RX7 155 RX7 yX7_isLot cX7_isLot 2 (some .boolean) 1 := ⟨⟨rfl, wd_X7_isLot⟩, wp_X7_isLot, by decide, gm5 141 rfl rfl, wt_X7_isLot⟩
theorem wv_RX7_158 : gV RX7 158 RX7 yX7_whyNoAppeal cX7_whyNoAppeal 3 (some .int) 1 := ⟨⟨rfl, wd_X7_whyNoAppeal⟩, wp_X7_whyNoAppeal, by decide, gm5 145 rfl rfl, wt_X7_whyNoAppeal⟩
theorem wv_RX7_161 : gS RX7 161 yX7_isOil cX7_isOil 1 (some .boolean) 1 := ⟨wd_X7_isOil, wp_X7_isOil, by decide, gm5 157 rfl rfl, wt_X7_isOil⟩
theorem wv_RX7_164 : gV RX7 164 RX7 yX7_layShares cX7_layShares 7 none 2 := ⟨⟨rfl, wd_X7_layShares⟩, wp_X7_layShares, by decide, gm5 160 rfl rfl, wt_X7_layShares⟩
theorem wv_RX7_168 : gV RX7 168 RX7 yX7_takeShares cX7_takeShares 3 none 1 := ⟨⟨rfl, wd_X7_takeShares⟩, wp_X7_takeShares, by decide, gm5 164 rfl rfl, wt_X7_takeShares⟩
theorem wv_RX7_171 : gV RX7 171 RX7 yX7_canMove cX7_canMove 5 (some .boolean) 4 := ⟨⟨rfl, wd_X7_canMove⟩, wp_X7_canMove, by decide, gm5 172 rfl rfl, wt_X7_canMove⟩
theorem wv_RX7_184 : gS RX7 184 yX7_canBeTruth cX7_canBeTruth 4 (some .boolean) 1 := ⟨wd_X7_canBeTruth, wp_X7_canBeTruth, by decide, gm5 212 rfl rfl, wt_X7_canBeTruth⟩
theorem wv_RX7_190 : gV RX7 190 RX7 yX7_ends cX7_ends 2 (some .boolean) 1 := ⟨⟨rfl, wd_X7_ends⟩, wp_X7_ends, by decide, gm5 200 rfl rfl, wt_X7_ends⟩
theorem wv_RX7_193 : gV RX7 193 RX7 yX7_isEnded cX7_isEnded 1 (some .boolean) 0 := ⟨⟨rfl, wd_X7_isEnded⟩, wp_X7_isEnded, by decide, gm5 204 rfl rfl, wt_X7_isEnded⟩
theorem wv_RX7_196 : gV RX7 196 RX7 yX7_takesDigit cX7_takesDigit 4 (some .boolean) 1 := ⟨⟨rfl, wd_X7_takesDigit⟩, wp_X7_takesDigit, by decide, gm5 208 rfl rfl, wt_X7_takesDigit⟩
theorem wv_RX7_199 : gV RX7 199 RX7 yX7_takes cX7_takes 2 (some .boolean) 1 := ⟨⟨rfl, wd_X7_takes⟩, wp_X7_takes, by decide, gm5 196 rfl rfl, wt_X7_takes⟩
theorem wv_RX7_202 : gV RX7 202 RX7 yX7_rightUpTo cX7_rightUpTo 2 (some .int) 0 := ⟨⟨rfl, wd_X7_rightUpTo⟩, wp_X7_rightUpTo, by decide, gm5 192 rfl rfl, wt_X7_rightUpTo⟩
theorem wv_RX7_206 : gV RX7 206 RX7 yX7_adds cX7_adds 4 (some .boolean) 1 := ⟨⟨rfl, wd_X7_adds⟩, wp_X7_adds, by decide, gm5 219 rfl rfl, wt_X7_adds⟩
theorem wv_RX7_209 : gV RX7 209 RX7 yX7_lotsOf cX7_lotsOf 7 (some .int) 3 := ⟨⟨rfl, wd_X7_lotsOf⟩, wp_X7_lotsOf, by decide, gm5 235 rfl rfl, wt_X7_lotsOf⟩
theorem wv_RX7_213 : gV RX7 213 RX7 yX7_growerNow cX7_growerNow 3 (some .int) 2 := ⟨⟨rfl, wd_X7_growerNow⟩, wp_X7_growerNow, by decide, gm5 231 rfl rfl, wt_X7_growerNow⟩
theorem wv_RX7_216 : gV RX7 216 RX7 yX7_lotNow cX7_lotNow 3 (some .int) 2 := ⟨⟨rfl, wd_X7_lotNow⟩, wp_X7_lotNow, by decide, gm6 3 rfl rfl, wt_X7_lotNow⟩
theorem wv_RX7_219 : gV RX7 219 RX7 yX7_tankNow cX7_tankNow 3 (some .int) 2 := ⟨⟨rfl, wd_X7_tankNow⟩, wp_X7_tankNow, by decide, gm6 11 rfl rfl, wt_X7_tankNow⟩
theorem wv_RX7_222 : gV RX7 222 RX7 yX7_inTanks cX7_inTanks 4 (some .int) 1 := ⟨⟨rfl, wd_X7_inTanks⟩, wp_X7_inTanks, by decide, gm6 23 rfl rfl, wt_X7_inTanks⟩
theorem wv_RX7_225 : gV RX7 225 RX7 yX7_varietyNow cX7_varietyNow 3 (some .int) 2 := ⟨⟨rfl, wd_X7_varietyNow⟩, wp_X7_varietyNow, by decide, gm6 19 rfl rfl, wt_X7_varietyNow⟩
theorem wv_RX7_228 : gV RX7 228 RX7 yX7_sumOil cX7_sumOil 4 (some .int) 1 := ⟨⟨rfl, wd_X7_sumOil⟩, wp_X7_sumOil, by decide, gm6 35 rfl rfl, wt_X7_sumOil⟩
theorem wv_RX7_232 : gV RX7 232 RX7 yX7_accounts cX7_accounts 3 (some .int) 0 := ⟨⟨rfl, wd_X7_accounts⟩, wp_X7_accounts, by decide, gm6 39 rfl rfl, wt_X7_accounts⟩
theorem wv_RX7_235 : gV RX7 235 RX7 yX7_counted cX7_counted 2 (some .int) 1 := ⟨⟨rfl, wd_X7_counted⟩, wp_X7_counted, by decide, gm6 31 rfl rfl, wt_X7_counted⟩
theorem wv_RX7_238 : gV RX7 238 RX7 yX7_nextNow cX7_nextNow 2 (some .int) 1 := ⟨⟨rfl, wd_X7_nextNow⟩, wp_X7_nextNow, by decide, gm6 55 rfl rfl, wt_X7_nextNow⟩
theorem wv_RX7_241 : gV RX7 241 RX7 yX7_takenNow cX7_takenNow 4 (some .int) 3 := ⟨⟨rfl, wd_X7_takenNow⟩, wp_X7_takenNow, by decide, gm6 63 rfl rfl, wt_X7_takenNow⟩
theorem wv_RX7_245 : gV RX7 245 RX7 yX7_oilBehind cX7_oilBehind 7 (some .int) 2 := ⟨⟨rfl, wd_X7_oilBehind⟩, wp_X7_oilBehind, by decide, gm6 71 rfl rfl, wt_X7_oilBehind⟩
theorem wv_RX7_248 : gV RX7 248 RX7 yX7_lossNow cX7_lossNow 3 (some .int) 1 := ⟨⟨rfl, wd_X7_lossNow⟩, wp_X7_lossNow, by decide, gm6 79 rfl rfl, wt_X7_lossNow⟩
theorem wv_RX7_251 : gV RX7 251 RX7 yX7_tankForNext cX7_tankForNext 7 (some .int) 0 := ⟨⟨rfl, wd_X7_tankForNext⟩, wp_X7_tankForNext, by decide, gm6 87 rfl rfl, wt_X7_tankForNext⟩
theorem wv_RX7_254 : gV RX7 254 RX7 yX7_share cX7_share 2 (some .double) 0 := ⟨⟨rfl, wd_X7_share⟩, wp_X7_share, by decide, gm6 95 rfl rfl, wt_X7_share⟩
theorem wv_RX7_264 : gV RX7 264 RX7 yX7_mix cX7_mix 3 none 1 := ⟨⟨rfl, wd_X7_mix⟩, wp_X7_mix, by decide, gm6 104 rfl rfl, wt_X7_mix⟩
theorem wv_RX7_270 : gV RX7 270 RX7 yX7_mixTank cX7_mixTank 3 none 1 := ⟨⟨rfl, wd_X7_mixTank⟩, wp_X7_mixTank, by decide, gm6 109 rfl rfl, wt_X7_mixTank⟩
theorem wv_RX7_273 : gS RX7 273 yJxe99ae_doubleToLongBits_ccdee cJxe99ae_doubleToLongBits_ccdee 2 (some .long) 1 := ⟨wd_Jxe99ae_doubleToLongBits_ccdee, wp_Jxe99ae_doubleToLongBits_ccdee, by decide, gm6 113 rfl rfl, wt_Jxe99ae_doubleToLongBits_ccdee⟩
theorem wini_0 : Cond.initialized (gexc 0) ∈ lw_good := gm1 14 rfl rfl
theorem wini_1 : Cond.initialized (gexc 1) ∈ lw_good := gm1 15 rfl rfl
theorem wini_2 : Cond.initialized (gexc 2) ∈ lw_good := gm1 12 rfl rfl
theorem wcast_0 : Cond.castable (gexc 0) "java/lang/IndexOutOfBoundsException" ∈ gnest := by decide +kernel
theorem wcast_1 : Cond.castable (gexc 1) "java/lang/IllegalArgumentException" ∈ gnest := by decide +kernel
theorem wcast_2 : Cond.castable (gexc 2) "java/lang/IllegalStateException" ∈ gnest := by decide +kernel
theorem wcl_RL_13 : Cond.classLink RL 13 "java/lang/IllegalStateException" ∈ lw_good := gm3 184 rfl rfl
theorem wcl_RL_19 : Cond.classLink RL 19 "java/lang/IndexOutOfBoundsException" ∈ lw_good := gm3 208 rfl rfl
theorem wcl_RL_21 : Cond.classLink RL 21 "java/lang/IllegalArgumentException" ∈ lw_good := gm3 209 rfl rfl
theorem wcl_RX6_57 : Cond.classLink RX6 57 "java/lang/IllegalStateException" ∈ lw_good := gm3 189 rfl rfl
theorem wcl_RX6_83 : Cond.classLink RX6 83 "java/lang/IllegalArgumentException" ∈ lw_good := gm2 188 rfl rfl
theorem wcl_RX6_122 : Cond.classLink RX6 122 "java/lang/IndexOutOfBoundsException" ∈ lw_good := gm3 27 rfl rfl
theorem wat_RX6_61_2 : ∀ w ∈ vx_atS RX6 61 (gexc 2) ["java/lang/RuntimeException", "java/lang/Exception"], w ∈ lw_good ∨ w ∈ gnest := by decide +kernel
theorem wat_RX6_87_1 : ∀ w ∈ vx_atS RX6 87 (gexc 1) ["java/lang/RuntimeException", "java/lang/Exception"], w ∈ lw_good ∨ w ∈ gnest := by decide +kernel
theorem wat_RX6_126_0 : ∀ w ∈ vx_atS RX6 126 (gexc 0) ["java/lang/RuntimeException", "java/lang/Exception"], w ∈ lw_good ∨ w ∈ gnest := by decide +kernel
theorem wk_RJxe99ae_134 : Cond.methodLink RJxe99ae 134 ⟨"java/lang/Double", "doubleToRawLongBits", "(D)J"⟩ ∈ lw_good := gm6 119 rfl rfl
theorem wk_RJxe99ae_137 : Cond.constantLong RJxe99ae 137 9221120237041090560 ∈ lw_good := gm6 122 rfl rfl
theorem wk_RX0_76 : Cond.methodLink RX0 76 arraycopyName ∈ lw_good := gm2 17 rfl rfl
theorem wk_RX1_41 : Cond.methodLink RX1 41 Lib.Math.max.name ∈ lw_good := gm4 26 rfl rfl
theorem wk_RX2_91 : Cond.methodLink RX2 91 Lib.Math.min.name ∈ lw_good := gm2 129 rfl rfl
theorem wk_RX6_329 : Cond.constantLong RX6 329 2393 ∈ lw_good := gm2 170 rfl rfl
theorem wk_RX6_371 : Cond.fieldLink RX6 371 "OliveMill" "LEAST_SETTINGS" "[I" ∈ lw_good := gm3 166 rfl rfl
theorem wk_RX6_374 : Cond.fieldLink RX6 374 "OliveMill" "MOST_SETTINGS" "[I" ∈ lw_good := gm3 168 rfl rfl
theorem wk_RX6_409 : Cond.methodLink RX6 409 Lib.Math.max.name ∈ lw_good := gm4 43 rfl rfl
theorem wk_RX6_414 : Cond.constantLong RX6 414 31 ∈ lw_good := gm3 19 rfl rfl
theorem wk_RX6_431 : Cond.constantLong RX6 431 1023 ∈ lw_good := gm3 178 rfl rfl
theorem wk_RX6_433 : Cond.constantDouble RX6 433 4611686018427387904 ∈ lw_good := gm3 179 rfl rfl
theorem wk_RX6_435 : Cond.constantDouble RX6 435 4841369599423283200 ∈ lw_good := gm3 180 rfl rfl
theorem wk_RX7_258 : Cond.constantLong RX7 258 31 ∈ lw_good := gm6 108 rfl rfl
theorem wk_RX7_268 : Cond.constantLong RX7 268 2393 ∈ lw_good := gm6 103 rfl rfl
theorem wm_max1 : Cond.static Lib.Math.max.name ∈ lw_good := gm4 27 rfl rfl
theorem wm_max3 : Cond.code Lib.Math.max.name Lib.Math.max.code 2 (some .int) ∈ lw_good := gm4 28 rfl rfl
theorem wm_min1 : Cond.static Lib.Math.min.name ∈ lw_good := gm2 130 rfl rfl
theorem wm_min3 : Cond.code Lib.Math.min.name Lib.Math.min.code 2 (some .int) ∈ lw_good := gm2 131 rfl rfl
theorem wm_2 : Cond.initialized "java/lang/Math" ∈ lw_good := gm1 16 rfl rfl
theorem wa_1 : Cond.native arraycopyName ∈ lw_good := gm2 19 rfl rfl
theorem wa_2 : Cond.static arraycopyName ∈ lw_good := gm2 18 rfl rfl
theorem wa_3 : Cond.initialized "java/lang/System" ∈ lw_good := gm1 13 rfl rfl
theorem wb_1 : Cond.native ⟨"java/lang/Double", "doubleToRawLongBits", "(D)J"⟩ ∈ lw_good := gm6 121 rfl rfl
theorem wb_2 : Cond.static ⟨"java/lang/Double", "doubleToRawLongBits", "(D)J"⟩ ∈ lw_good := gm6 120 rfl rfl
theorem wb_3 : Cond.initialized "java/lang/Double" ∈ lw_good := gm1 17 rfl rfl
