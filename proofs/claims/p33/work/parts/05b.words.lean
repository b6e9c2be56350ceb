theorem wp_L_act : plainName yL_act.cls = true := by decide +kernel
theorem wd_L_act : yL_act.cls ≠ "java/lang/invoke/MethodHandle" ∧ yL_act.cls ≠ "java/lang/invoke/VarHandle" ∧ (parseMethodDescriptor yL_act.desc).map (fun d => d.parameters.length) = some 13 := by decide +kernel
theorem wt_L_act : Cond.static yL_act ∈ lw_good ∧ Cond.initialized yL_act.cls ∈ lw_good ∧ Cond.code yL_act cL_act 20 (some .boolean) ∈ lw_good := ⟨gm2 161 rfl rfl, gm1 0 rfl rfl, gm2 162 rfl rfl⟩
theorem wp_L_agree : plainName yL_agree.cls = true := by decide +kernel
theorem wd_L_agree : yL_agree.cls ≠ "java/lang/invoke/MethodHandle" ∧ yL_agree.cls ≠ "java/lang/invoke/VarHandle" ∧ (parseMethodDescriptor yL_agree.desc).map (fun d => d.parameters.length) = some 9 := by decide +kernel
theorem wt_L_agree : Cond.static yL_agree ∈ lw_good ∧ Cond.initialized yL_agree.cls ∈ lw_good ∧ Cond.code yL_agree cL_agree 15 (some .boolean) ∈ lw_good := ⟨gm3 178 rfl rfl, gm1 0 rfl rfl, gm3 179 rfl rfl⟩
theorem wp_L_appeals : plainName yL_appeals.cls = true := by decide +kernel
theorem wd_L_appeals : yL_appeals.cls ≠ "java/lang/invoke/MethodHandle" ∧ yL_appeals.cls ≠ "java/lang/invoke/VarHandle" ∧ (parseMethodDescriptor yL_appeals.desc).map (fun d => d.parameters.length) = some 10 := by decide +kernel
theorem wt_L_appeals : Cond.static yL_appeals ∈ lw_good ∧ Cond.initialized yL_appeals.cls ∈ lw_good ∧ Cond.code yL_appeals cL_appeals 14 (some .boolean) ∈ lw_good := ⟨gm3 55 rfl rfl, gm1 0 rfl rfl, gm3 56 rfl rfl⟩
theorem wp_L_at : plainName yL_at.cls = true := by decide +kernel
theorem wd_L_at : yL_at.cls ≠ "java/lang/invoke/MethodHandle" ∧ yL_at.cls ≠ "java/lang/invoke/VarHandle" ∧ (parseMethodDescriptor yL_at.desc).map (fun d => d.parameters.length) = some 2 := by decide +kernel
theorem wt_L_at : Cond.static yL_at ∈ lw_good ∧ Cond.initialized yL_at.cls ∈ lw_good ∧ Cond.code yL_at cL_at 2 (some .int) ∈ lw_good := ⟨gm2 158 rfl rfl, gm1 0 rfl rfl, gm2 159 rfl rfl⟩
theorem wp_L_cell : plainName yL_cell.cls = true := by decide +kernel
theorem wd_L_cell : yL_cell.cls ≠ "java/lang/invoke/MethodHandle" ∧ yL_cell.cls ≠ "java/lang/invoke/VarHandle" ∧ (parseMethodDescriptor yL_cell.desc).map (fun d => d.parameters.length) = some 2 := by decide +kernel
theorem wt_L_cell : Cond.static yL_cell ∈ lw_good ∧ Cond.initialized yL_cell.cls ∈ lw_good ∧ Cond.code yL_cell cL_cell 2 (some .int) ∈ lw_good := ⟨gm2 154 rfl rfl, gm1 0 rfl rfl, gm2 155 rfl rfl⟩
theorem wp_L_grade : plainName yL_grade.cls = true := by decide +kernel
theorem wd_L_grade : yL_grade.cls ≠ "java/lang/invoke/MethodHandle" ∧ yL_grade.cls ≠ "java/lang/invoke/VarHandle" ∧ (parseMethodDescriptor yL_grade.desc).map (fun d => d.parameters.length) = some 1 := by decide +kernel
theorem wt_L_grade : Cond.static yL_grade ∈ lw_good ∧ Cond.initialized yL_grade.cls ∈ lw_good ∧ Cond.code yL_grade cL_grade 1 (some .int) ∈ lw_good := ⟨gm3 13 rfl rfl, gm1 0 rfl rfl, gm3 14 rfl rfl⟩
theorem wp_L_next : plainName yL_next.cls = true := by decide +kernel
theorem wd_L_next : yL_next.cls ≠ "java/lang/invoke/MethodHandle" ∧ yL_next.cls ≠ "java/lang/invoke/VarHandle" ∧ (parseMethodDescriptor yL_next.desc).map (fun d => d.parameters.length) = some 2 := by decide +kernel
theorem wt_L_next : Cond.static yL_next ∈ lw_good ∧ Cond.initialized yL_next.cls ∈ lw_good ∧ Cond.code yL_next cL_next 3 (some .int) ∈ lw_good := ⟨gm2 182 rfl rfl, gm1 0 rfl rfl, gm2 183 rfl rfl⟩
theorem wp_L_oil : plainName yL_oil.cls = true := by decide +kernel
theorem wd_L_oil : yL_oil.cls ≠ "java/lang/invoke/MethodHandle" ∧ yL_oil.cls ≠ "java/lang/invoke/VarHandle" ∧ (parseMethodDescriptor yL_oil.desc).map (fun d => d.parameters.length) = some 2 := by decide +kernel
theorem wt_L_oil : Cond.static yL_oil ∈ lw_good ∧ Cond.initialized yL_oil.cls ∈ lw_good ∧ Cond.code yL_oil cL_oil 4 (some .int) ∈ lw_good := ⟨gm3 16 rfl rfl, gm1 0 rfl rfl, gm3 17 rfl rfl⟩
theorem wp_L_pour : plainName yL_pour.cls = true := by decide +kernel
theorem wd_L_pour : yL_pour.cls ≠ "java/lang/invoke/MethodHandle" ∧ yL_pour.cls ≠ "java/lang/invoke/VarHandle" ∧ (parseMethodDescriptor yL_pour.desc).map (fun d => d.parameters.length) = some 5 := by decide +kernel
theorem wt_L_pour : Cond.static yL_pour ∈ lw_good ∧ Cond.initialized yL_pour.cls ∈ lw_good ∧ Cond.code yL_pour cL_pour 5 none ∈ lw_good := ⟨gm3 19 rfl rfl, gm1 0 rfl rfl, gm3 20 rfl rfl⟩
theorem wp_L_presses : plainName yL_presses.cls = true := by decide +kernel
theorem wd_L_presses : yL_presses.cls ≠ "java/lang/invoke/MethodHandle" ∧ yL_presses.cls ≠ "java/lang/invoke/VarHandle" ∧ (parseMethodDescriptor yL_presses.desc).map (fun d => d.parameters.length) = some 11 := by decide +kernel
theorem wt_L_presses : Cond.static yL_presses ∈ lw_good ∧ Cond.initialized yL_presses.cls ∈ lw_good ∧ Cond.code yL_presses cL_presses 25 (some .boolean) ∈ lw_good := ⟨gm2 179 rfl rfl, gm1 0 rfl rfl, gm2 180 rfl rfl⟩
theorem wp_L_shares : plainName yL_shares.cls = true := by decide +kernel
theorem wd_L_shares : yL_shares.cls ≠ "java/lang/invoke/MethodHandle" ∧ yL_shares.cls ≠ "java/lang/invoke/VarHandle" ∧ (parseMethodDescriptor yL_shares.desc).map (fun d => d.parameters.length) = some 4 := by decide +kernel
theorem wt_L_shares : Cond.static yL_shares ∈ lw_good ∧ Cond.initialized yL_shares.cls ∈ lw_good ∧ Cond.code yL_shares cL_shares 9 none ∈ lw_good := ⟨gm3 118 rfl rfl, gm1 0 rfl rfl, gm3 119 rfl rfl⟩
theorem wp_L_takes : plainName yL_takes.cls = true := by decide +kernel
theorem wd_L_takes : yL_takes.cls ≠ "java/lang/invoke/MethodHandle" ∧ yL_takes.cls ≠ "java/lang/invoke/VarHandle" ∧ (parseMethodDescriptor yL_takes.desc).map (fun d => d.parameters.length) = some 7 := by decide +kernel
theorem wt_L_takes : Cond.static yL_takes ∈ lw_good ∧ Cond.initialized yL_takes.cls ∈ lw_good ∧ Cond.code yL_takes cL_takes 12 (some .boolean) ∈ lw_good := ⟨gm3 90 rfl rfl, gm1 0 rfl rfl, gm3 91 rfl rfl⟩
theorem wp_X0_gradeOfLot : plainName yX0_gradeOfLot.cls = true := by decide +kernel
theorem wd_X0_gradeOfLot : yX0_gradeOfLot.cls ≠ "java/lang/invoke/MethodHandle" ∧ yX0_gradeOfLot.cls ≠ "java/lang/invoke/VarHandle" ∧ (parseMethodDescriptor yX0_gradeOfLot.desc).map (fun d => d.parameters.length) = some 1 := by decide +kernel
theorem wt_X0_gradeOfLot : Cond.instanceMethod yX0_gradeOfLot ∈ lw_good ∧ Cond.selects RX0 yX0_gradeOfLot yX0_gradeOfLot ∈ lw_good ∧ Cond.initialized RX0 ∈ lw_good ∧ Cond.code yX0_gradeOfLot cX0_gradeOfLot 3 (some .int) ∈ lw_good := ⟨gm2 235 rfl rfl, gm2 236 rfl rfl, gm1 2 rfl rfl, gm2 237 rfl rfl⟩
theorem wp_X0_placeOfSaved : plainName yX0_placeOfSaved.cls = true := by decide +kernel
theorem wd_X0_placeOfSaved : yX0_placeOfSaved.cls ≠ "java/lang/invoke/MethodHandle" ∧ yX0_placeOfSaved.cls ≠ "java/lang/invoke/VarHandle" ∧ (parseMethodDescriptor yX0_placeOfSaved.desc).map (fun d => d.parameters.length) = some 1 := by decide +kernel
theorem wt_X0_placeOfSaved : Cond.instanceMethod yX0_placeOfSaved ∈ lw_good ∧ Cond.selects RX0 yX0_placeOfSaved yX0_placeOfSaved ∈ lw_good ∧ Cond.initialized RX0 ∈ lw_good ∧ Cond.code yX0_placeOfSaved cX0_placeOfSaved 2 (some .int) ∈ lw_good := ⟨gm2 73 rfl rfl, gmp 1 rfl rfl, gm1 2 rfl rfl, gm2 74 rfl rfl⟩
theorem wp_X0_save : plainName yX0_save.cls = true := by decide +kernel
theorem wd_X0_save : yX0_save.cls ≠ "java/lang/invoke/MethodHandle" ∧ yX0_save.cls ≠ "java/lang/invoke/VarHandle" ∧ (parseMethodDescriptor yX0_save.desc).map (fun d => d.parameters.length) = some 0 := by decide +kernel
theorem wt_X0_save : Cond.instanceMethod yX0_save ∈ lw_good ∧ Cond.selects RX0 yX0_save yX0_save ∈ lw_good ∧ Cond.initialized RX0 ∈ lw_good ∧ Cond.code yX0_save cX0_save 2 none ∈ lw_good := ⟨gm2 68 rfl rfl, gm2 69 rfl rfl, gm1 2 rfl rfl, gm2 70 rfl rfl⟩
theorem wp_X1_admits : plainName yX1_admits.cls = true := by decide +kernel
theorem wd_X1_admits : yX1_admits.cls ≠ "java/lang/invoke/MethodHandle" ∧ yX1_admits.cls ≠ "java/lang/invoke/VarHandle" ∧ (parseMethodDescriptor yX1_admits.desc).map (fun d => d.parameters.length) = some 3 := by decide +kernel
theorem wt_X1_admits : Cond.instanceMethod yX1_admits ∈ lw_good ∧ Cond.selects RX1 yX1_admits yX1_admits ∈ lw_good ∧ Cond.initialized RX1 ∈ lw_good ∧ Cond.code yX1_admits cX1_admits 5 (some .boolean) ∈ lw_good := ⟨gm3 0 rfl rfl, gm3 1 rfl rfl, gm1 5 rfl rfl, gm3 2 rfl rfl⟩
theorem wp_X1_allOil : plainName yX1_allOil.cls = true := by decide +kernel
theorem wd_X1_allOil : yX1_allOil.cls ≠ "java/lang/invoke/MethodHandle" ∧ yX1_allOil.cls ≠ "java/lang/invoke/VarHandle" ∧ (parseMethodDescriptor yX1_allOil.desc).map (fun d => d.parameters.length) = some 0 := by decide +kernel
theorem wt_X1_allOil : Cond.instanceMethod yX1_allOil ∈ lw_good ∧ Cond.selects RX1 yX1_allOil yX1_allOil ∈ lw_good ∧ Cond.initialized RX1 ∈ lw_good ∧ Cond.code yX1_allOil cX1_allOil 3 (some .int) ∈ lw_good := ⟨gm3 195 rfl rfl, gm3 196 rfl rfl, gm1 5 rfl rfl, gm3 197 rfl rfl⟩
theorem wp_X1_gradeOf : plainName yX1_gradeOf.cls = true := by decide +kernel
theorem wd_X1_gradeOf : yX1_gradeOf.cls ≠ "java/lang/invoke/MethodHandle" ∧ yX1_gradeOf.cls ≠ "java/lang/invoke/VarHandle" ∧ (parseMethodDescriptor yX1_gradeOf.desc).map (fun d => d.parameters.length) = some 1 := by decide +kernel
theorem wt_X1_gradeOf : Cond.instanceMethod yX1_gradeOf ∈ lw_good ∧ Cond.selects RX1 yX1_gradeOf yX1_gradeOf ∈ lw_good ∧ Cond.initialized RX1 ∈ lw_good ∧ Cond.code yX1_gradeOf cX1_gradeOf 2 (some .int) ∈ lw_good := ⟨gm3 4 rfl rfl, gm3 5 rfl rfl, gm1 5 rfl rfl, gm3 6 rfl rfl⟩
theorem wp_X1_greatestRemainder : plainName yX1_greatestRemainder.cls = true := by decide +kernel
theorem wd_X1_greatestRemainder : yX1_greatestRemainder.cls ≠ "java/lang/invoke/MethodHandle" ∧ yX1_greatestRemainder.cls ≠ "java/lang/invoke/VarHandle" ∧ (parseMethodDescriptor yX1_greatestRemainder.desc).map (fun d => d.parameters.length) = some 0 := by decide +kernel
theorem wt_X1_greatestRemainder : Cond.instanceMethod yX1_greatestRemainder ∈ lw_good ∧ Cond.selects RX1 yX1_greatestRemainder yX1_greatestRemainder ∈ lw_good ∧ Cond.initialized RX1 ∈ lw_good ∧ Cond.code yX1_greatestRemainder cX1_greatestRemainder 3 (some .int) ∈ lw_good := ⟨gm3 107 rfl rfl, gmp 19 rfl rfl, gm1 5 rfl rfl, gm3 108 rfl rfl⟩
theorem wp_X1_oilAfter : plainName yX1_oilAfter.cls = true := by decide +kernel
theorem wd_X1_oilAfter : yX1_oilAfter.cls ≠ "java/lang/invoke/MethodHandle" ∧ yX1_oilAfter.cls ≠ "java/lang/invoke/VarHandle" ∧ (parseMethodDescriptor yX1_oilAfter.desc).map (fun d => d.parameters.length) = some 2 := by decide +kernel
theorem wt_X1_oilAfter : Cond.instanceMethod yX1_oilAfter ∈ lw_good ∧ Cond.selects RX1 yX1_oilAfter yX1_oilAfter ∈ lw_good ∧ Cond.initialized RX1 ∈ lw_good ∧ Cond.code yX1_oilAfter cX1_oilAfter 5 (some .int) ∈ lw_good := ⟨gm3 148 rfl rfl, gm3 149 rfl rfl, gm1 5 rfl rfl, gm3 150 rfl rfl⟩
theorem wp_X1_oilOf : plainName yX1_oilOf.cls = true := by decide +kernel
theorem wd_X1_oilOf : yX1_oilOf.cls ≠ "java/lang/invoke/MethodHandle" ∧ yX1_oilOf.cls ≠ "java/lang/invoke/VarHandle" ∧ (parseMethodDescriptor yX1_oilOf.desc).map (fun d => d.parameters.length) = some 1 := by decide +kernel
theorem wt_X1_oilOf : Cond.instanceMethod yX1_oilOf ∈ lw_good ∧ Cond.selects RX1 yX1_oilOf yX1_oilOf ∈ lw_good ∧ Cond.initialized RX1 ∈ lw_good ∧ Cond.code yX1_oilOf cX1_oilOf 4 (some .int) ∈ lw_good := ⟨gm2 231 rfl rfl, gm2 232 rfl rfl, gm1 5 rfl rfl, gm2 233 rfl rfl⟩
theorem wp_X1_oilOfGrade : plainName yX1_oilOfGrade.cls = true := by decide +kernel
theorem wd_X1_oilOfGrade : yX1_oilOfGrade.cls ≠ "java/lang/invoke/MethodHandle" ∧ yX1_oilOfGrade.cls ≠ "java/lang/invoke/VarHandle" ∧ (parseMethodDescriptor yX1_oilOfGrade.desc).map (fun d => d.parameters.length) = some 1 := by decide +kernel
theorem wt_X1_oilOfGrade : Cond.instanceMethod yX1_oilOfGrade ∈ lw_good ∧ Cond.selects RX1 yX1_oilOfGrade yX1_oilOfGrade ∈ lw_good ∧ Cond.initialized RX1 ∈ lw_good ∧ Cond.code yX1_oilOfGrade cX1_oilOfGrade 4 (some .int) ∈ lw_good := ⟨gm3 203 rfl rfl, gm3 204 rfl rfl, gm1 5 rfl rfl, gm3 205 rfl rfl⟩
theorem wp_X1_oilOfVariety : plainName yX1_oilOfVariety.cls = true := by decide +kernel
theorem wd_X1_oilOfVariety : yX1_oilOfVariety.cls ≠ "java/lang/invoke/MethodHandle" ∧ yX1_oilOfVariety.cls ≠ "java/lang/invoke/VarHandle" ∧ (parseMethodDescriptor yX1_oilOfVariety.desc).map (fun d => d.parameters.length) = some 1 := by decide +kernel
theorem wt_X1_oilOfVariety : Cond.instanceMethod yX1_oilOfVariety ∈ lw_good ∧ Cond.selects RX1 yX1_oilOfVariety yX1_oilOfVariety ∈ lw_good ∧ Cond.initialized RX1 ∈ lw_good ∧ Cond.code yX1_oilOfVariety cX1_oilOfVariety 4 (some .int) ∈ lw_good := ⟨gm2 140 rfl rfl, gm2 141 rfl rfl, gm1 5 rfl rfl, gm2 142 rfl rfl⟩
theorem wp_X1_part : plainName yX1_part.cls = true := by decide +kernel
theorem wd_X1_part : yX1_part.cls ≠ "java/lang/invoke/MethodHandle" ∧ yX1_part.cls ≠ "java/lang/invoke/VarHandle" ∧ (parseMethodDescriptor yX1_part.desc).map (fun d => d.parameters.length) = some 1 := by decide +kernel
theorem wt_X1_part : Cond.instanceMethod yX1_part ∈ lw_good ∧ Cond.selects RX1 yX1_part yX1_part ∈ lw_good ∧ Cond.initialized RX1 ∈ lw_good ∧ Cond.code yX1_part cX1_part 2 (some .int) ∈ lw_good := ⟨gm3 114 rfl rfl, gm3 115 rfl rfl, gm1 5 rfl rfl, gm3 116 rfl rfl⟩
theorem wp_X1_pour : plainName yX1_pour.cls = true := by decide +kernel
theorem wd_X1_pour : yX1_pour.cls ≠ "java/lang/invoke/MethodHandle" ∧ yX1_pour.cls ≠ "java/lang/invoke/VarHandle" ∧ (parseMethodDescriptor yX1_pour.desc).map (fun d => d.parameters.length) = some 4 := by decide +kernel
theorem wt_X1_pour : Cond.instanceMethod yX1_pour ∈ lw_good ∧ Cond.selects RX1 yX1_pour yX1_pour ∈ lw_good ∧ Cond.initialized RX1 ∈ lw_good ∧ Cond.code yX1_pour cX1_pour 5 none ∈ lw_good := ⟨gm3 45 rfl rfl, gm3 46 rfl rfl, gm1 5 rfl rfl, gm3 47 rfl rfl⟩
theorem wp_X1_roomOf : plainName yX1_roomOf.cls = true := by decide +kernel
theorem wd_X1_roomOf : yX1_roomOf.cls ≠ "java/lang/invoke/MethodHandle" ∧ yX1_roomOf.cls ≠ "java/lang/invoke/VarHandle" ∧ (parseMethodDescriptor yX1_roomOf.desc).map (fun d => d.parameters.length) = some 1 := by decide +kernel
theorem wt_X1_roomOf : Cond.instanceMethod yX1_roomOf ∈ lw_good ∧ Cond.selects RX1 yX1_roomOf yX1_roomOf ∈ lw_good ∧ Cond.initialized RX1 ∈ lw_good ∧ Cond.code yX1_roomOf cX1_roomOf 2 (some .int) ∈ lw_good := ⟨gm2 227 rfl rfl, gm2 228 rfl rfl, gm1 5 rfl rfl, gm2 229 rfl rfl⟩
theorem wp_X1_roundUp : plainName yX1_roundUp.cls = true := by decide +kernel
theorem wd_X1_roundUp : yX1_roundUp.cls ≠ "java/lang/invoke/MethodHandle" ∧ yX1_roundUp.cls ≠ "java/lang/invoke/VarHandle" ∧ (parseMethodDescriptor yX1_roundUp.desc).map (fun d => d.parameters.length) = some 1 := by decide +kernel
theorem wt_X1_roundUp : Cond.instanceMethod yX1_roundUp ∈ lw_good ∧ Cond.selects RX1 yX1_roundUp yX1_roundUp ∈ lw_good ∧ Cond.initialized RX1 ∈ lw_good ∧ Cond.code yX1_roundUp cX1_roundUp 2 none ∈ lw_good := ⟨gm3 111 rfl rfl, gmp 20 rfl rfl, gm1 5 rfl rfl, gm3 112 rfl rfl⟩
theorem wp_X1_settle : plainName yX1_settle.cls = true := by decide +kernel
theorem wd_X1_settle : yX1_settle.cls ≠ "java/lang/invoke/MethodHandle" ∧ yX1_settle.cls ≠ "java/lang/invoke/VarHandle" ∧ (parseMethodDescriptor yX1_settle.desc).map (fun d => d.parameters.length) = some 3 := by decide +kernel
theorem wt_X1_settle : Cond.instanceMethod yX1_settle ∈ lw_good ∧ Cond.selects RX1 yX1_settle yX1_settle ∈ lw_good ∧ Cond.initialized RX1 ∈ lw_good ∧ Cond.code yX1_settle cX1_settle 6 (some .int) ∈ lw_good := ⟨gm3 144 rfl rfl, gm3 145 rfl rfl, gm1 5 rfl rfl, gm3 146 rfl rfl⟩
theorem wp_X1_split : plainName yX1_split.cls = true := by decide +kernel
theorem wd_X1_split : yX1_split.cls ≠ "java/lang/invoke/MethodHandle" ∧ yX1_split.cls ≠ "java/lang/invoke/VarHandle" ∧ (parseMethodDescriptor yX1_split.desc).map (fun d => d.parameters.length) = some 2 := by decide +kernel
theorem wt_X1_split : Cond.instanceMethod yX1_split ∈ lw_good ∧ Cond.selects RX1 yX1_split yX1_split ∈ lw_good ∧ Cond.initialized RX1 ∈ lw_good ∧ Cond.code yX1_split cX1_split 7 none ∈ lw_good := ⟨gm3 102 rfl rfl, gm3 103 rfl rfl, gm1 5 rfl rfl, gm3 104 rfl rfl⟩
theorem wp_X1_takeOut : plainName yX1_takeOut.cls = true := by decide +kernel
theorem wd_X1_takeOut : yX1_takeOut.cls ≠ "java/lang/invoke/MethodHandle" ∧ yX1_takeOut.cls ≠ "java/lang/invoke/VarHandle" ∧ (parseMethodDescriptor yX1_takeOut.desc).map (fun d => d.parameters.length) = some 2 := by decide +kernel
theorem wt_X1_takeOut : Cond.instanceMethod yX1_takeOut ∈ lw_good ∧ Cond.selects RX1 yX1_takeOut yX1_takeOut ∈ lw_good ∧ Cond.initialized RX1 ∈ lw_good ∧ Cond.code yX1_takeOut cX1_takeOut 4 none ∈ lw_good := ⟨gm3 126 rfl rfl, gm3 127 rfl rfl, gm1 5 rfl rfl, gm3 128 rfl rfl⟩
theorem wp_X2_begin : plainName yX2_begin.cls = true := by decide +kernel
theorem wd_X2_begin : yX2_begin.cls ≠ "java/lang/invoke/MethodHandle" ∧ yX2_begin.cls ≠ "java/lang/invoke/VarHandle" ∧ (parseMethodDescriptor yX2_begin.desc).map (fun d => d.parameters.length) = some 0 := by decide +kernel
theorem wt_X2_begin : Cond.instanceMethod yX2_begin ∈ lw_good ∧ Cond.selects RX2 yX2_begin yX2_begin ∈ lw_good ∧ Cond.initialized RX2 ∈ lw_good ∧ Cond.code yX2_begin cX2_begin 3 none ∈ lw_good := ⟨gm2 202 rfl rfl, gm2 203 rfl rfl, gm1 6 rfl rfl, gm2 204 rfl rfl⟩
theorem wp_X2_lookAhead : plainName yX2_lookAhead.cls = true := by decide +kernel
theorem wd_X2_lookAhead : yX2_lookAhead.cls ≠ "java/lang/invoke/MethodHandle" ∧ yX2_lookAhead.cls ≠ "java/lang/invoke/VarHandle" ∧ (parseMethodDescriptor yX2_lookAhead.desc).map (fun d => d.parameters.length) = some 0 := by decide +kernel
theorem wt_X2_lookAhead : Cond.instanceMethod yX2_lookAhead ∈ lw_good ∧ Cond.selects RX2 yX2_lookAhead yX2_lookAhead ∈ lw_good ∧ Cond.initialized RX2 ∈ lw_good ∧ Cond.code yX2_lookAhead cX2_lookAhead 1 (some .boolean) ∈ lw_good := ⟨gm2 198 rfl rfl, gm2 199 rfl rfl, gm1 6 rfl rfl, gm2 200 rfl rfl⟩
theorem wp_X2_lotInTurn : plainName yX2_lotInTurn.cls = true := by decide +kernel
theorem wd_X2_lotInTurn : yX2_lotInTurn.cls ≠ "java/lang/invoke/MethodHandle" ∧ yX2_lotInTurn.cls ≠ "java/lang/invoke/VarHandle" ∧ (parseMethodDescriptor yX2_lotInTurn.desc).map (fun d => d.parameters.length) = some 1 := by decide +kernel
theorem wt_X2_lotInTurn : Cond.instanceMethod yX2_lotInTurn ∈ lw_good ∧ Cond.selects RX2 yX2_lotInTurn yX2_lotInTurn ∈ lw_good ∧ Cond.initialized RX2 ∈ lw_good ∧ Cond.code yX2_lotInTurn cX2_lotInTurn 3 (some .int) ∈ lw_good := ⟨gm2 213 rfl rfl, gmp 8 rfl rfl, gm1 6 rfl rfl, gm2 214 rfl rfl⟩
theorem wp_X2_passThroughMill : plainName yX2_passThroughMill.cls = true := by decide +kernel
theorem wd_X2_passThroughMill : yX2_passThroughMill.cls ≠ "java/lang/invoke/MethodHandle" ∧ yX2_passThroughMill.cls ≠ "java/lang/invoke/VarHandle" ∧ (parseMethodDescriptor yX2_passThroughMill.desc).map (fun d => d.parameters.length) = some 1 := by decide +kernel
theorem wt_X2_passThroughMill : Cond.instanceMethod yX2_passThroughMill ∈ lw_good ∧ Cond.selects RX2 yX2_passThroughMill yX2_passThroughMill ∈ lw_good ∧ Cond.initialized RX2 ∈ lw_good ∧ Cond.code yX2_passThroughMill cX2_passThroughMill 5 none ∈ lw_good := ⟨gm2 221 rfl rfl, gmp 10 rfl rfl, gm1 6 rfl rfl, gm2 222 rfl rfl⟩
theorem wp_X2_step : plainName yX2_step.cls = true := by decide +kernel
theorem wd_X2_step : yX2_step.cls ≠ "java/lang/invoke/MethodHandle" ∧ yX2_step.cls ≠ "java/lang/invoke/VarHandle" ∧ (parseMethodDescriptor yX2_step.desc).map (fun d => d.parameters.length) = some 1 := by decide +kernel
theorem wt_X2_step : Cond.instanceMethod yX2_step ∈ lw_good ∧ Cond.selects RX2 yX2_step yX2_step ∈ lw_good ∧ Cond.initialized RX2 ∈ lw_good ∧ Cond.code yX2_step cX2_step 2 (some .boolean) ∈ lw_good := ⟨gm2 208 rfl rfl, gm2 209 rfl rfl, gm1 6 rfl rfl, gm2 210 rfl rfl⟩
theorem wp_X2_weigh : plainName yX2_weigh.cls = true := by decide +kernel
theorem wd_X2_weigh : yX2_weigh.cls ≠ "java/lang/invoke/MethodHandle" ∧ yX2_weigh.cls ≠ "java/lang/invoke/VarHandle" ∧ (parseMethodDescriptor yX2_weigh.desc).map (fun d => d.parameters.length) = some 0 := by decide +kernel
theorem wt_X2_weigh : Cond.instanceMethod yX2_weigh ∈ lw_good ∧ Cond.selects RX2 yX2_weigh yX2_weigh ∈ lw_good ∧ Cond.initialized RX2 ∈ lw_good ∧ Cond.code yX2_weigh cX2_weigh 2 none ∈ lw_good := ⟨gm2 217 rfl rfl, gmp 9 rfl rfl, gm1 6 rfl rfl, gm2 218 rfl rfl⟩
theorem wp_X3_add : plainName yX3_add.cls = true := by decide +kernel
theorem wd_X3_add : yX3_add.cls ≠ "java/lang/invoke/MethodHandle" ∧ yX3_add.cls ≠ "java/lang/invoke/VarHandle" ∧ (parseMethodDescriptor yX3_add.desc).map (fun d => d.parameters.length) = some 2 := by decide +kernel
theorem wt_X3_add : Cond.instanceMethod yX3_add ∈ lw_good ∧ Cond.selects RX3 yX3_add yX3_add ∈ lw_good ∧ Cond.initialized RX3 ∈ lw_good ∧ Cond.code yX3_add cX3_add 3 none ∈ lw_good := ⟨gm2 79 rfl rfl, gm2 80 rfl rfl, gm1 4 rfl rfl, gm2 81 rfl rfl⟩
theorem wp_X3_get : plainName yX3_get.cls = true := by decide +kernel
theorem wd_X3_get : yX3_get.cls ≠ "java/lang/invoke/MethodHandle" ∧ yX3_get.cls ≠ "java/lang/invoke/VarHandle" ∧ (parseMethodDescriptor yX3_get.desc).map (fun d => d.parameters.length) = some 1 := by decide +kernel
theorem wt_X3_get : Cond.instanceMethod yX3_get ∈ lw_good ∧ Cond.selects RX3 yX3_get yX3_get ∈ lw_good ∧ Cond.initialized RX3 ∈ lw_good ∧ Cond.code yX3_get cX3_get 3 (some .int) ∈ lw_good := ⟨gm1 236 rfl rfl, gm1 237 rfl rfl, gm1 4 rfl rfl, gm1 238 rfl rfl⟩
theorem wp_X3_put : plainName yX3_put.cls = true := by decide +kernel
theorem wd_X3_put : yX3_put.cls ≠ "java/lang/invoke/MethodHandle" ∧ yX3_put.cls ≠ "java/lang/invoke/VarHandle" ∧ (parseMethodDescriptor yX3_put.desc).map (fun d => d.parameters.length) = some 2 := by decide +kernel
theorem wt_X3_put : Cond.instanceMethod yX3_put ∈ lw_good ∧ Cond.selects RX3 yX3_put yX3_put ∈ lw_good ∧ Cond.initialized RX3 ∈ lw_good ∧ Cond.code yX3_put cX3_put 4 none ∈ lw_good := ⟨gm1 63 rfl rfl, gm1 64 rfl rfl, gm1 4 rfl rfl, gm1 65 rfl rfl⟩
theorem wp_X5_add : plainName yX5_add.cls = true := by decide +kernel
theorem wd_X5_add : yX5_add.cls ≠ "java/lang/invoke/MethodHandle" ∧ yX5_add.cls ≠ "java/lang/invoke/VarHandle" ∧ (parseMethodDescriptor yX5_add.desc).map (fun d => d.parameters.length) = some 3 := by decide +kernel
theorem wt_X5_add : Cond.instanceMethod yX5_add ∈ lw_good ∧ Cond.selects RX5 yX5_add yX5_add ∈ lw_good ∧ Cond.initialized RX5 ∈ lw_good ∧ Cond.code yX5_add cX5_add 4 none ∈ lw_good := ⟨gm3 31 rfl rfl, gm3 32 rfl rfl, gm1 3 rfl rfl, gm3 33 rfl rfl⟩
theorem wp_X5_get : plainName yX5_get.cls = true := by decide +kernel
theorem wd_X5_get : yX5_get.cls ≠ "java/lang/invoke/MethodHandle" ∧ yX5_get.cls ≠ "java/lang/invoke/VarHandle" ∧ (parseMethodDescriptor yX5_get.desc).map (fun d => d.parameters.length) = some 2 := by decide +kernel
theorem wt_X5_get : Cond.instanceMethod yX5_get ∈ lw_good ∧ Cond.selects RX5 yX5_get yX5_get ∈ lw_good ∧ Cond.initialized RX5 ∈ lw_good ∧ Cond.code yX5_get cX5_get 4 (some .int) ∈ lw_good := ⟨gm2 136 rfl rfl, gm2 137 rfl rfl, gm1 3 rfl rfl, gm2 138 rfl rfl⟩
theorem wp_X5_put : plainName yX5_put.cls = true := by decide +kernel
theorem wd_X5_put : yX5_put.cls ≠ "java/lang/invoke/MethodHandle" ∧ yX5_put.cls ≠ "java/lang/invoke/VarHandle" ∧ (parseMethodDescriptor yX5_put.desc).map (fun d => d.parameters.length) = some 3 := by decide +kernel
theorem wt_X5_put : Cond.instanceMethod yX5_put ∈ lw_good ∧ Cond.selects RX5 yX5_put yX5_put ∈ lw_good ∧ Cond.initialized RX5 ∈ lw_good ∧ Cond.code yX5_put cX5_put 5 none ∈ lw_good := ⟨gm1 69 rfl rfl, gm1 70 rfl rfl, gm1 3 rfl rfl, gm1 71 rfl rfl⟩
theorem wp_X6_addGrower : plainName yX6_addGrower.cls = true := by decide +kernel
theorem wd_X6_addGrower : yX6_addGrower.cls ≠ "java/lang/invoke/MethodHandle" ∧ yX6_addGrower.cls ≠ "java/lang/invoke/VarHandle" ∧ (parseMethodDescriptor yX6_addGrower.desc).map (fun d => d.parameters.length) = some 0 := by decide +kernel
theorem wt_X6_addGrower : Cond.instanceMethod yX6_addGrower ∈ lw_good ∧ Cond.selects RX6 yX6_addGrower yX6_addGrower ∈ lw_good ∧ Cond.initialized RX6 ∈ lw_good ∧ Cond.code yX6_addGrower cX6_addGrower 2 (some .int) ∈ lw_good := ⟨gm1 232 rfl rfl, gm1 233 rfl rfl, gm1 1 rfl rfl, gm1 234 rfl rfl⟩
theorem wp_X6_addLot : plainName yX6_addLot.cls = true := by decide +kernel
theorem wd_X6_addLot : yX6_addLot.cls ≠ "java/lang/invoke/MethodHandle" ∧ yX6_addLot.cls ≠ "java/lang/invoke/VarHandle" ∧ (parseMethodDescriptor yX6_addLot.desc).map (fun d => d.parameters.length) = some 5 := by decide +kernel
theorem wt_X6_addLot : Cond.instanceMethod yX6_addLot ∈ lw_good ∧ Cond.selects RX6 yX6_addLot yX6_addLot ∈ lw_good ∧ Cond.initialized RX6 ∈ lw_good ∧ Cond.code yX6_addLot cX6_addLot 6 (some .int) ∈ lw_good := ⟨gm2 164 rfl rfl, gm2 165 rfl rfl, gm1 1 rfl rfl, gm2 166 rfl rfl⟩
theorem wp_X6_addTank : plainName yX6_addTank.cls = true := by decide +kernel
theorem wd_X6_addTank : yX6_addTank.cls ≠ "java/lang/invoke/MethodHandle" ∧ yX6_addTank.cls ≠ "java/lang/invoke/VarHandle" ∧ (parseMethodDescriptor yX6_addTank.desc).map (fun d => d.parameters.length) = some 1 := by decide +kernel
theorem wt_X6_addTank : Cond.instanceMethod yX6_addTank ∈ lw_good ∧ Cond.selects RX6 yX6_addTank yX6_addTank ∈ lw_good ∧ Cond.initialized RX6 ∈ lw_good ∧ Cond.code yX6_addTank cX6_addTank 3 (some .int) ∈ lw_good := ⟨gm2 85 rfl rfl, gm2 86 rfl rfl, gm1 1 rfl rfl, gm2 87 rfl rfl⟩
theorem wp_X6_appeal : plainName yX6_appeal.cls = true := by decide +kernel
theorem wd_X6_appeal : yX6_appeal.cls ≠ "java/lang/invoke/MethodHandle" ∧ yX6_appeal.cls ≠ "java/lang/invoke/VarHandle" ∧ (parseMethodDescriptor yX6_appeal.desc).map (fun d => d.parameters.length) = some 1 := by decide +kernel
theorem wt_X6_appeal : Cond.instanceMethod yX6_appeal ∈ lw_good ∧ Cond.selects RX6 yX6_appeal yX6_appeal ∈ lw_good ∧ Cond.initialized RX6 ∈ lw_good ∧ Cond.code yX6_appeal cX6_appeal 4 (some .int) ∈ lw_good := ⟨gm3 80 rfl rfl, gm3 81 rfl rfl, gm1 1 rfl rfl, gm3 82 rfl rfl⟩
theorem wp_X6_checkGrower : plainName yX6_checkGrower.cls = true := by decide +kernel
theorem wd_X6_checkGrower : yX6_checkGrower.cls ≠ "java/lang/invoke/MethodHandle" ∧ yX6_checkGrower.cls ≠ "java/lang/invoke/VarHandle" ∧ (parseMethodDescriptor yX6_checkGrower.desc).map (fun d => d.parameters.length) = some 1 := by decide +kernel
theorem wt_X6_checkGrower : Cond.instanceMethod yX6_checkGrower ∈ lw_good ∧ Cond.selects RX6 yX6_checkGrower yX6_checkGrower ∈ lw_good ∧ Cond.initialized RX6 ∈ lw_good ∧ Cond.code yX6_checkGrower cX6_checkGrower 2 none ∈ lw_good := ⟨gm2 169 rfl rfl, gmp 4 rfl rfl, gm1 1 rfl rfl, gm2 170 rfl rfl⟩
theorem wp_X6_checkLot : plainName yX6_checkLot.cls = true := by decide +kernel
theorem wd_X6_checkLot : yX6_checkLot.cls ≠ "java/lang/invoke/MethodHandle" ∧ yX6_checkLot.cls ≠ "java/lang/invoke/VarHandle" ∧ (parseMethodDescriptor yX6_checkLot.desc).map (fun d => d.parameters.length) = some 1 := by decide +kernel
theorem wt_X6_checkLot : Cond.instanceMethod yX6_checkLot ∈ lw_good ∧ Cond.selects RX6 yX6_checkLot yX6_checkLot ∈ lw_good ∧ Cond.initialized RX6 ∈ lw_good ∧ Cond.code yX6_checkLot cX6_checkLot 2 none ∈ lw_good := ⟨gm3 63 rfl rfl, gmp 14 rfl rfl, gm1 1 rfl rfl, gm3 64 rfl rfl⟩
theorem wp_X6_checkOil : plainName yX6_checkOil.cls = true := by decide +kernel
theorem wd_X6_checkOil : yX6_checkOil.cls ≠ "java/lang/invoke/MethodHandle" ∧ yX6_checkOil.cls ≠ "java/lang/invoke/VarHandle" ∧ (parseMethodDescriptor yX6_checkOil.desc).map (fun d => d.parameters.length) = some 1 := by decide +kernel
theorem wt_X6_checkOil : Cond.static yX6_checkOil ∈ lw_good ∧ Cond.initialized yX6_checkOil.cls ∈ lw_good ∧ Cond.code yX6_checkOil cX6_checkOil 1 none ∈ lw_good := ⟨gm3 97 rfl rfl, gm1 1 rfl rfl, gm3 98 rfl rfl⟩
theorem wp_X6_checkTank : plainName yX6_checkTank.cls = true := by decide +kernel
theorem wd_X6_checkTank : yX6_checkTank.cls ≠ "java/lang/invoke/MethodHandle" ∧ yX6_checkTank.cls ≠ "java/lang/invoke/VarHandle" ∧ (parseMethodDescriptor yX6_checkTank.desc).map (fun d => d.parameters.length) = some 1 := by decide +kernel
theorem wt_X6_checkTank : Cond.instanceMethod yX6_checkTank ∈ lw_good ∧ Cond.selects RX6 yX6_checkTank yX6_checkTank ∈ lw_good ∧ Cond.initialized RX6 ∈ lw_good ∧ Cond.code yX6_checkTank cX6_checkTank 2 none ∈ lw_good := ⟨gm2 190 rfl rfl, gmp 6 rfl rfl, gm1 1 rfl rfl, gm2 191 rfl rfl⟩
theorem wp_X6_checkVariety : plainName yX6_checkVariety.cls = true := by decide +kernel
theorem wd_X6_checkVariety : yX6_checkVariety.cls ≠ "java/lang/invoke/MethodHandle" ∧ yX6_checkVariety.cls ≠ "java/lang/invoke/VarHandle" ∧ (parseMethodDescriptor yX6_checkVariety.desc).map (fun d => d.parameters.length) = some 1 := by decide +kernel
theorem wt_X6_checkVariety : Cond.static yX6_checkVariety ∈ lw_good ∧ Cond.initialized yX6_checkVariety.cls ∈ lw_good ∧ Cond.code yX6_checkVariety cX6_checkVariety 1 none ∈ lw_good := ⟨gm2 114 rfl rfl, gm1 1 rfl rfl, gm2 115 rfl rfl⟩
theorem wp_X6_clean : plainName yX6_clean.cls = true := by decide +kernel
theorem wd_X6_clean : yX6_clean.cls ≠ "java/lang/invoke/MethodHandle" ∧ yX6_clean.cls ≠ "java/lang/invoke/VarHandle" ∧ (parseMethodDescriptor yX6_clean.desc).map (fun d => d.parameters.length) = some 0 := by decide +kernel
theorem wt_X6_clean : Cond.instanceMethod yX6_clean ∈ lw_good ∧ Cond.selects RX6 yX6_clean yX6_clean ∈ lw_good ∧ Cond.initialized RX6 ∈ lw_good ∧ Cond.code yX6_clean cX6_clean 2 (some .int) ∈ lw_good := ⟨gm3 169 rfl rfl, gm3 170 rfl rfl, gm1 1 rfl rfl, gm3 171 rfl rfl⟩
theorem wp_X6_count : plainName yX6_count.cls = true := by decide +kernel
theorem wd_X6_count : yX6_count.cls ≠ "java/lang/invoke/MethodHandle" ∧ yX6_count.cls ≠ "java/lang/invoke/VarHandle" ∧ (parseMethodDescriptor yX6_count.desc).map (fun d => d.parameters.length) = some 1 := by decide +kernel
theorem wt_X6_count : Cond.instanceMethod yX6_count ∈ lw_good ∧ Cond.selects RX6 yX6_count yX6_count ∈ lw_good ∧ Cond.initialized RX6 ∈ lw_good ∧ Cond.code yX6_count cX6_count 2 (some .int) ∈ lw_good := ⟨gm3 191 rfl rfl, gm3 192 rfl rfl, gm1 1 rfl rfl, gm3 193 rfl rfl⟩
theorem wp_X6_draw : plainName yX6_draw.cls = true := by decide +kernel
theorem wd_X6_draw : yX6_draw.cls ≠ "java/lang/invoke/MethodHandle" ∧ yX6_draw.cls ≠ "java/lang/invoke/VarHandle" ∧ (parseMethodDescriptor yX6_draw.desc).map (fun d => d.parameters.length) = some 3 := by decide +kernel
theorem wt_X6_draw : Cond.instanceMethod yX6_draw ∈ lw_good ∧ Cond.selects RX6 yX6_draw yX6_draw ∈ lw_good ∧ Cond.initialized RX6 ∈ lw_good ∧ Cond.code yX6_draw cX6_draw 5 (some .int) ∈ lw_good := ⟨gm3 121 rfl rfl, gm3 122 rfl rfl, gm1 1 rfl rfl, gm3 123 rfl rfl⟩
theorem wp_X6_enterLot : plainName yX6_enterLot.cls = true := by decide +kernel
theorem wd_X6_enterLot : yX6_enterLot.cls ≠ "java/lang/invoke/MethodHandle" ∧ yX6_enterLot.cls ≠ "java/lang/invoke/VarHandle" ∧ (parseMethodDescriptor yX6_enterLot.desc).map (fun d => d.parameters.length) = some 5 := by decide +kernel
theorem wt_X6_enterLot : Cond.instanceMethod yX6_enterLot ∈ lw_good ∧ Cond.selects RX6 yX6_enterLot yX6_enterLot ∈ lw_good ∧ Cond.initialized RX6 ∈ lw_good ∧ Cond.code yX6_enterLot cX6_enterLot 7 (some .int) ∈ lw_good := ⟨gm2 176 rfl rfl, gmp 5 rfl rfl, gm1 1 rfl rfl, gm2 177 rfl rfl⟩
theorem wp_X6_enterPressedLot : plainName yX6_enterPressedLot.cls = true := by decide +kernel
theorem wd_X6_enterPressedLot : yX6_enterPressedLot.cls ≠ "java/lang/invoke/MethodHandle" ∧ yX6_enterPressedLot.cls ≠ "java/lang/invoke/VarHandle" ∧ (parseMethodDescriptor yX6_enterPressedLot.desc).map (fun d => d.parameters.length) = some 1 := by decide +kernel
theorem wt_X6_enterPressedLot : Cond.instanceMethod yX6_enterPressedLot ∈ lw_good ∧ Cond.selects RX6 yX6_enterPressedLot yX6_enterPressedLot ∈ lw_good ∧ Cond.initialized RX6 ∈ lw_good ∧ Cond.code yX6_enterPressedLot cX6_enterPressedLot 3 none ∈ lw_good := ⟨gm3 38 rfl rfl, gmp 12 rfl rfl, gm1 1 rfl rfl, gm3 39 rfl rfl⟩
theorem wp_X6_grower : plainName yX6_grower.cls = true := by decide +kernel
theorem wd_X6_grower : yX6_grower.cls ≠ "java/lang/invoke/MethodHandle" ∧ yX6_grower.cls ≠ "java/lang/invoke/VarHandle" ∧ (parseMethodDescriptor yX6_grower.desc).map (fun d => d.parameters.length) = some 2 := by decide +kernel
theorem wt_X6_grower : Cond.instanceMethod yX6_grower ∈ lw_good ∧ Cond.selects RX6 yX6_grower yX6_grower ∈ lw_good ∧ Cond.initialized RX6 ∈ lw_good ∧ Cond.code yX6_grower cX6_grower 3 (some .int) ∈ lw_good := ⟨gm3 186 rfl rfl, gm3 187 rfl rfl, gm1 1 rfl rfl, gm3 188 rfl rfl⟩
theorem wp_X6_ifPressed : plainName yX6_ifPressed.cls = true := by decide +kernel
theorem wd_X6_ifPressed : yX6_ifPressed.cls ≠ "java/lang/invoke/MethodHandle" ∧ yX6_ifPressed.cls ≠ "java/lang/invoke/VarHandle" ∧ (parseMethodDescriptor yX6_ifPressed.desc).map (fun d => d.parameters.length) = some 3 := by decide +kernel
theorem wt_X6_ifPressed : Cond.instanceMethod yX6_ifPressed ∈ lw_good ∧ Cond.selects RX6 yX6_ifPressed yX6_ifPressed ∈ lw_good ∧ Cond.initialized RX6 ∈ lw_good ∧ Cond.code yX6_ifPressed cX6_ifPressed 4 (some .int) ∈ lw_good := ⟨gm3 68 rfl rfl, gmp 15 rfl rfl, gm1 1 rfl rfl, gm3 69 rfl rfl⟩
theorem wp_X6_isOutside : plainName yX6_isOutside.cls = true := by decide +kernel
theorem wd_X6_isOutside : yX6_isOutside.cls ≠ "java/lang/invoke/MethodHandle" ∧ yX6_isOutside.cls ≠ "java/lang/invoke/VarHandle" ∧ (parseMethodDescriptor yX6_isOutside.desc).map (fun d => d.parameters.length) = some 3 := by decide +kernel
theorem wt_X6_isOutside : Cond.static yX6_isOutside ∈ lw_good ∧ Cond.initialized yX6_isOutside.cls ∈ lw_good ∧ Cond.code yX6_isOutside cX6_isOutside 3 (some .boolean) ∈ lw_good := ⟨gm2 89 rfl rfl, gm1 1 rfl rfl, gm2 90 rfl rfl⟩
theorem wp_X6_isSetting : plainName yX6_isSetting.cls = true := by decide +kernel
theorem wd_X6_isSetting : yX6_isSetting.cls ≠ "java/lang/invoke/MethodHandle" ∧ yX6_isSetting.cls ≠ "java/lang/invoke/VarHandle" ∧ (parseMethodDescriptor yX6_isSetting.desc).map (fun d => d.parameters.length) = some 1 := by decide +kernel
theorem wt_X6_isSetting : Cond.static yX6_isSetting ∈ lw_good ∧ Cond.initialized yX6_isSetting.cls ∈ lw_good ∧ Cond.code yX6_isSetting cX6_isSetting 1 (some .boolean) ∈ lw_good := ⟨gm3 157 rfl rfl, gm1 1 rfl rfl, gm3 158 rfl rfl⟩
theorem wp_X6_isSettingValue : plainName yX6_isSettingValue.cls = true := by decide +kernel
theorem wd_X6_isSettingValue : yX6_isSettingValue.cls ≠ "java/lang/invoke/MethodHandle" ∧ yX6_isSettingValue.cls ≠ "java/lang/invoke/VarHandle" ∧ (parseMethodDescriptor yX6_isSettingValue.desc).map (fun d => d.parameters.length) = some 2 := by decide +kernel
theorem wt_X6_isSettingValue : Cond.static yX6_isSettingValue ∈ lw_good ∧ Cond.initialized yX6_isSettingValue.cls ∈ lw_good ∧ Cond.code yX6_isSettingValue cX6_isSettingValue 2 (some .boolean) ∈ lw_good := ⟨gm3 161 rfl rfl, gm1 1 rfl rfl, gm3 162 rfl rfl⟩
theorem wp_X6_isVariety : plainName yX6_isVariety.cls = true := by decide +kernel
theorem wd_X6_isVariety : yX6_isVariety.cls ≠ "java/lang/invoke/MethodHandle" ∧ yX6_isVariety.cls ≠ "java/lang/invoke/VarHandle" ∧ (parseMethodDescriptor yX6_isVariety.desc).map (fun d => d.parameters.length) = some 1 := by decide +kernel
theorem wt_X6_isVariety : Cond.static yX6_isVariety ∈ lw_good ∧ Cond.initialized yX6_isVariety.cls ∈ lw_good ∧ Cond.code yX6_isVariety cX6_isVariety 1 (some .boolean) ∈ lw_good := ⟨gm2 117 rfl rfl, gm1 1 rfl rfl, gm2 118 rfl rfl⟩
theorem wp_X6_loseByCleaning : plainName yX6_loseByCleaning.cls = true := by decide +kernel
theorem wd_X6_loseByCleaning : yX6_loseByCleaning.cls ≠ "java/lang/invoke/MethodHandle" ∧ yX6_loseByCleaning.cls ≠ "java/lang/invoke/VarHandle" ∧ (parseMethodDescriptor yX6_loseByCleaning.desc).map (fun d => d.parameters.length) = some 2 := by decide +kernel
theorem wt_X6_loseByCleaning : Cond.instanceMethod yX6_loseByCleaning ∈ lw_good ∧ Cond.selects RX6 yX6_loseByCleaning yX6_loseByCleaning ∈ lw_good ∧ Cond.initialized RX6 ∈ lw_good ∧ Cond.code yX6_loseByCleaning cX6_loseByCleaning 3 none ∈ lw_good := ⟨gm3 28 rfl rfl, gmp 11 rfl rfl, gm1 1 rfl rfl, gm3 29 rfl rfl⟩
theorem wp_X6_lot : plainName yX6_lot.cls = true := by decide +kernel
theorem wd_X6_lot : yX6_lot.cls ≠ "java/lang/invoke/MethodHandle" ∧ yX6_lot.cls ≠ "java/lang/invoke/VarHandle" ∧ (parseMethodDescriptor yX6_lot.desc).map (fun d => d.parameters.length) = some 2 := by decide +kernel
theorem wt_X6_lot : Cond.instanceMethod yX6_lot ∈ lw_good ∧ Cond.selects RX6 yX6_lot yX6_lot ∈ lw_good ∧ Cond.initialized RX6 ∈ lw_good ∧ Cond.code yX6_lot cX6_lot 3 (some .int) ∈ lw_good := ⟨gm3 58 rfl rfl, gm3 59 rfl rfl, gm1 1 rfl rfl, gm3 60 rfl rfl⟩
theorem wp_X6_lotsWith : plainName yX6_lotsWith.cls = true := by decide +kernel
theorem wd_X6_lotsWith : yX6_lotsWith.cls ≠ "java/lang/invoke/MethodHandle" ∧ yX6_lotsWith.cls ≠ "java/lang/invoke/VarHandle" ∧ (parseMethodDescriptor yX6_lotsWith.desc).map (fun d => d.parameters.length) = some 3 := by decide +kernel
theorem wt_X6_lotsWith : Cond.instanceMethod yX6_lotsWith ∈ lw_good ∧ Cond.selects RX6 yX6_lotsWith yX6_lotsWith ∈ lw_good ∧ Cond.initialized RX6 ∈ lw_good ∧ Cond.code yX6_lotsWith cX6_lotsWith 8 (some .int) ∈ lw_good := ⟨gm2 150 rfl rfl, gmp 3 rfl rfl, gm1 1 rfl rfl, gm2 151 rfl rfl⟩
theorem wp_X6_move : plainName yX6_move.cls = true := by decide +kernel
theorem wd_X6_move : yX6_move.cls ≠ "java/lang/invoke/MethodHandle" ∧ yX6_move.cls ≠ "java/lang/invoke/VarHandle" ∧ (parseMethodDescriptor yX6_move.desc).map (fun d => d.parameters.length) = some 4 := by decide +kernel
theorem wt_X6_move : Cond.instanceMethod yX6_move ∈ lw_good ∧ Cond.selects RX6 yX6_move yX6_move ∈ lw_good ∧ Cond.initialized RX6 ∈ lw_good ∧ Cond.code yX6_move cX6_move 7 (some .int) ∈ lw_good := ⟨gm3 132 rfl rfl, gm3 133 rfl rfl, gm1 1 rfl rfl, gm3 134 rfl rfl⟩
theorem wp_X6_next : plainName yX6_next.cls = true := by decide +kernel
theorem wd_X6_next : yX6_next.cls ≠ "java/lang/invoke/MethodHandle" ∧ yX6_next.cls ≠ "java/lang/invoke/VarHandle" ∧ (parseMethodDescriptor yX6_next.desc).map (fun d => d.parameters.length) = some 1 := by decide +kernel
theorem wt_X6_next : Cond.instanceMethod yX6_next ∈ lw_good ∧ Cond.selects RX6 yX6_next yX6_next ∈ lw_good ∧ Cond.initialized RX6 ∈ lw_good ∧ Cond.code yX6_next cX6_next 2 (some .int) ∈ lw_good := ⟨gm3 8 rfl rfl, gm3 9 rfl rfl, gm1 1 rfl rfl, gm3 10 rfl rfl⟩
theorem wp_X6_pass : plainName yX6_pass.cls = true := by decide +kernel
theorem wd_X6_pass : yX6_pass.cls ≠ "java/lang/invoke/MethodHandle" ∧ yX6_pass.cls ≠ "java/lang/invoke/VarHandle" ∧ (parseMethodDescriptor yX6_pass.desc).map (fun d => d.parameters.length) = some 1 := by decide +kernel
theorem wt_X6_pass : Cond.instanceMethod yX6_pass ∈ lw_good ∧ Cond.selects RX6 yX6_pass yX6_pass ∈ lw_good ∧ Cond.initialized RX6 ∈ lw_good ∧ Cond.code yX6_pass cX6_pass 6 (some .int) ∈ lw_good := ⟨gm3 139 rfl rfl, gm3 140 rfl rfl, gm1 1 rfl rfl, gm3 141 rfl rfl⟩
theorem wp_X6_pourPressedOil : plainName yX6_pourPressedOil.cls = true := by decide +kernel
theorem wd_X6_pourPressedOil : yX6_pourPressedOil.cls ≠ "java/lang/invoke/MethodHandle" ∧ yX6_pourPressedOil.cls ≠ "java/lang/invoke/VarHandle" ∧ (parseMethodDescriptor yX6_pourPressedOil.desc).map (fun d => d.parameters.length) = some 1 := by decide +kernel
theorem wt_X6_pourPressedOil : Cond.instanceMethod yX6_pourPressedOil ∈ lw_good ∧ Cond.selects RX6 yX6_pourPressedOil yX6_pourPressedOil ∈ lw_good ∧ Cond.initialized RX6 ∈ lw_good ∧ Cond.code yX6_pourPressedOil cX6_pourPressedOil 4 none ∈ lw_good := ⟨gm3 42 rfl rfl, gmp 13 rfl rfl, gm1 1 rfl rfl, gm3 43 rfl rfl⟩
theorem wp_X6_press : plainName yX6_press.cls = true := by decide +kernel
theorem wd_X6_press : yX6_press.cls ≠ "java/lang/invoke/MethodHandle" ∧ yX6_press.cls ≠ "java/lang/invoke/VarHandle" ∧ (parseMethodDescriptor yX6_press.desc).map (fun d => d.parameters.length) = some 2 := by decide +kernel
theorem wt_X6_press : Cond.instanceMethod yX6_press ∈ lw_good ∧ Cond.selects RX6 yX6_press yX6_press ∈ lw_good ∧ Cond.initialized RX6 ∈ lw_good ∧ Cond.code yX6_press cX6_press 3 (some .int) ∈ lw_good := ⟨gm3 22 rfl rfl, gm3 23 rfl rfl, gm1 1 rfl rfl, gm3 24 rfl rfl⟩
theorem wp_X6_reasonAgainstAppeal : plainName yX6_reasonAgainstAppeal.cls = true := by decide +kernel
theorem wd_X6_reasonAgainstAppeal : yX6_reasonAgainstAppeal.cls ≠ "java/lang/invoke/MethodHandle" ∧ yX6_reasonAgainstAppeal.cls ≠ "java/lang/invoke/VarHandle" ∧ (parseMethodDescriptor yX6_reasonAgainstAppeal.desc).map (fun d => d.parameters.length) = some 1 := by decide +kernel
theorem wt_X6_reasonAgainstAppeal : Cond.instanceMethod yX6_reasonAgainstAppeal ∈ lw_good ∧ Cond.selects RX6 yX6_reasonAgainstAppeal yX6_reasonAgainstAppeal ∈ lw_good ∧ Cond.initialized RX6 ∈ lw_good ∧ Cond.code yX6_reasonAgainstAppeal cX6_reasonAgainstAppeal 3 (some .int) ∈ lw_good := ⟨gm3 72 rfl rfl, gmp 16 rfl rfl, gm1 1 rfl rfl, gm3 73 rfl rfl⟩
theorem wp_X6_reasonAgainstPress : plainName yX6_reasonAgainstPress.cls = true := by decide +kernel
theorem wd_X6_reasonAgainstPress : yX6_reasonAgainstPress.cls ≠ "java/lang/invoke/MethodHandle" ∧ yX6_reasonAgainstPress.cls ≠ "java/lang/invoke/VarHandle" ∧ (parseMethodDescriptor yX6_reasonAgainstPress.desc).map (fun d => d.parameters.length) = some 2 := by decide +kernel
theorem wt_X6_reasonAgainstPress : Cond.instanceMethod yX6_reasonAgainstPress ∈ lw_good ∧ Cond.selects RX6 yX6_reasonAgainstPress yX6_reasonAgainstPress ∈ lw_good ∧ Cond.initialized RX6 ∈ lw_good ∧ Cond.code yX6_reasonAgainstPress cX6_reasonAgainstPress 3 (some .int) ∈ lw_good := ⟨gm2 195 rfl rfl, gmp 7 rfl rfl, gm1 1 rfl rfl, gm2 196 rfl rfl⟩
theorem wp_X6_residueVariety : plainName yX6_residueVariety.cls = true := by decide +kernel
theorem wd_X6_residueVariety : yX6_residueVariety.cls ≠ "java/lang/invoke/MethodHandle" ∧ yX6_residueVariety.cls ≠ "java/lang/invoke/VarHandle" ∧ (parseMethodDescriptor yX6_residueVariety.desc).map (fun d => d.parameters.length) = some 0 := by decide +kernel
theorem wt_X6_residueVariety : Cond.instanceMethod yX6_residueVariety ∈ lw_good ∧ Cond.selects RX6 yX6_residueVariety yX6_residueVariety ∈ lw_good ∧ Cond.initialized RX6 ∈ lw_good ∧ Cond.code yX6_residueVariety cX6_residueVariety 1 (some .int) ∈ lw_good := ⟨gm2 146 rfl rfl, gmp 2 rfl rfl, gm1 1 rfl rfl, gm2 147 rfl rfl⟩
theorem wp_X6_secondOilOf : plainName yX6_secondOilOf.cls = true := by decide +kernel
theorem wd_X6_secondOilOf : yX6_secondOilOf.cls ≠ "java/lang/invoke/MethodHandle" ∧ yX6_secondOilOf.cls ≠ "java/lang/invoke/VarHandle" ∧ (parseMethodDescriptor yX6_secondOilOf.desc).map (fun d => d.parameters.length) = some 1 := by decide +kernel
theorem wt_X6_secondOilOf : Cond.instanceMethod yX6_secondOilOf ∈ lw_good ∧ Cond.selects RX6 yX6_secondOilOf yX6_secondOilOf ∈ lw_good ∧ Cond.initialized RX6 ∈ lw_good ∧ Cond.code yX6_secondOilOf cX6_secondOilOf 3 (some .int) ∈ lw_good := ⟨gm3 76 rfl rfl, gmp 17 rfl rfl, gm1 1 rfl rfl, gm3 77 rfl rfl⟩
theorem wp_X6_set : plainName yX6_set.cls = true := by decide +kernel
theorem wd_X6_set : yX6_set.cls ≠ "java/lang/invoke/MethodHandle" ∧ yX6_set.cls ≠ "java/lang/invoke/VarHandle" ∧ (parseMethodDescriptor yX6_set.desc).map (fun d => d.parameters.length) = some 2 := by decide +kernel
theorem wt_X6_set : Cond.instanceMethod yX6_set ∈ lw_good ∧ Cond.selects RX6 yX6_set yX6_set ∈ lw_good ∧ Cond.initialized RX6 ∈ lw_good ∧ Cond.code yX6_set cX6_set 4 (some .int) ∈ lw_good := ⟨gm3 153 rfl rfl, gm3 154 rfl rfl, gm1 1 rfl rfl, gm3 155 rfl rfl⟩
theorem wp_X6_setYield : plainName yX6_setYield.cls = true := by decide +kernel
theorem wd_X6_setYield : yX6_setYield.cls ≠ "java/lang/invoke/MethodHandle" ∧ yX6_setYield.cls ≠ "java/lang/invoke/VarHandle" ∧ (parseMethodDescriptor yX6_setYield.desc).map (fun d => d.parameters.length) = some 2 := by decide +kernel
theorem wt_X6_setYield : Cond.instanceMethod yX6_setYield ∈ lw_good ∧ Cond.selects RX6 yX6_setYield yX6_setYield ∈ lw_good ∧ Cond.initialized RX6 ∈ lw_good ∧ Cond.code yX6_setYield cX6_setYield 4 (some .int) ∈ lw_good := ⟨gm3 173 rfl rfl, gm3 174 rfl rfl, gm1 1 rfl rfl, gm3 175 rfl rfl⟩
theorem wp_X6_settleAppeal : plainName yX6_settleAppeal.cls = true := by decide +kernel
theorem wd_X6_settleAppeal : yX6_settleAppeal.cls ≠ "java/lang/invoke/MethodHandle" ∧ yX6_settleAppeal.cls ≠ "java/lang/invoke/VarHandle" ∧ (parseMethodDescriptor yX6_settleAppeal.desc).map (fun d => d.parameters.length) = some 2 := by decide +kernel
theorem wt_X6_settleAppeal : Cond.instanceMethod yX6_settleAppeal ∈ lw_good ∧ Cond.selects RX6 yX6_settleAppeal yX6_settleAppeal ∈ lw_good ∧ Cond.initialized RX6 ∈ lw_good ∧ Cond.code yX6_settleAppeal cX6_settleAppeal 4 none ∈ lw_good := ⟨gm3 86 rfl rfl, gmp 18 rfl rfl, gm1 1 rfl rfl, gm3 87 rfl rfl⟩
theorem wp_X6_sumOfGrowers : plainName yX6_sumOfGrowers.cls = true := by decide +kernel
theorem wd_X6_sumOfGrowers : yX6_sumOfGrowers.cls ≠ "java/lang/invoke/MethodHandle" ∧ yX6_sumOfGrowers.cls ≠ "java/lang/invoke/VarHandle" ∧ (parseMethodDescriptor yX6_sumOfGrowers.desc).map (fun d => d.parameters.length) = some 1 := by decide +kernel
theorem wt_X6_sumOfGrowers : Cond.instanceMethod yX6_sumOfGrowers ∈ lw_good ∧ Cond.selects RX6 yX6_sumOfGrowers yX6_sumOfGrowers ∈ lw_good ∧ Cond.initialized RX6 ∈ lw_good ∧ Cond.code yX6_sumOfGrowers cX6_sumOfGrowers 4 (some .int) ∈ lw_good := ⟨gm3 200 rfl rfl, gmp 21 rfl rfl, gm1 1 rfl rfl, gm3 201 rfl rfl⟩
theorem wp_X6_taken : plainName yX6_taken.cls = true := by decide +kernel
theorem wd_X6_taken : yX6_taken.cls ≠ "java/lang/invoke/MethodHandle" ∧ yX6_taken.cls ≠ "java/lang/invoke/VarHandle" ∧ (parseMethodDescriptor yX6_taken.desc).map (fun d => d.parameters.length) = some 3 := by decide +kernel
theorem wt_X6_taken : Cond.instanceMethod yX6_taken ∈ lw_good ∧ Cond.selects RX6 yX6_taken yX6_taken ∈ lw_good ∧ Cond.initialized RX6 ∈ lw_good ∧ Cond.code yX6_taken cX6_taken 4 (some .int) ∈ lw_good := ⟨gm3 93 rfl rfl, gm3 94 rfl rfl, gm1 1 rfl rfl, gm3 95 rfl rfl⟩
theorem wp_X6_tank : plainName yX6_tank.cls = true := by decide +kernel
theorem wd_X6_tank : yX6_tank.cls ≠ "java/lang/invoke/MethodHandle" ∧ yX6_tank.cls ≠ "java/lang/invoke/VarHandle" ∧ (parseMethodDescriptor yX6_tank.desc).map (fun d => d.parameters.length) = some 2 := by decide +kernel
theorem wt_X6_tank : Cond.instanceMethod yX6_tank ∈ lw_good ∧ Cond.selects RX6 yX6_tank yX6_tank ∈ lw_good ∧ Cond.initialized RX6 ∈ lw_good ∧ Cond.code yX6_tank cX6_tank 3 (some .int) ∈ lw_good := ⟨gm3 181 rfl rfl, gm3 182 rfl rfl, gm1 1 rfl rfl, gm3 183 rfl rfl⟩
theorem wp_X6_variety : plainName yX6_variety.cls = true := by decide +kernel
theorem wd_X6_variety : yX6_variety.cls ≠ "java/lang/invoke/MethodHandle" ∧ yX6_variety.cls ≠ "java/lang/invoke/VarHandle" ∧ (parseMethodDescriptor yX6_variety.desc).map (fun d => d.parameters.length) = some 2 := by decide +kernel
theorem wt_X6_variety : Cond.instanceMethod yX6_variety ∈ lw_good ∧ Cond.selects RX6 yX6_variety yX6_variety ∈ lw_good ∧ Cond.initialized RX6 ∈ lw_good ∧ Cond.code yX6_variety cX6_variety 3 (some .int) ∈ lw_good := ⟨gm2 110 rfl rfl, gm2 111 rfl rfl, gm1 1 rfl rfl, gm2 112 rfl rfl⟩
theorem wp_X6_whyNot : plainName yX6_whyNot.cls = true := by decide +kernel
theorem wd_X6_whyNot : yX6_whyNot.cls ≠ "java/lang/invoke/MethodHandle" ∧ yX6_whyNot.cls ≠ "java/lang/invoke/VarHandle" ∧ (parseMethodDescriptor yX6_whyNot.desc).map (fun d => d.parameters.length) = some 2 := by decide +kernel
theorem wt_X6_whyNot : Cond.instanceMethod yX6_whyNot ∈ lw_good ∧ Cond.selects RX6 yX6_whyNot yX6_whyNot ∈ lw_good ∧ Cond.initialized RX6 ∈ lw_good ∧ Cond.code yX6_whyNot cX6_whyNot 3 (some .int) ∈ lw_good := ⟨gm2 185 rfl rfl, gm2 186 rfl rfl, gm1 1 rfl rfl, gm2 187 rfl rfl⟩
theorem wv_RL_8 : gS RL 8 yL_oil cL_oil 4 (some .int) 2 := ⟨wd_L_oil, wp_L_oil, by decide, gm3 15 rfl rfl, wt_L_oil⟩
theorem wv_RL_14 : gS RL 14 yL_at cL_at 2 (some .int) 2 := ⟨wd_L_at, wp_L_at, by decide, gm2 157 rfl rfl, wt_L_at⟩
theorem wv_RL_18 : gS RL 18 yL_next cL_next 3 (some .int) 2 := ⟨wd_L_next, wp_L_next, by decide, gm2 181 rfl rfl, wt_L_next⟩
theorem wv_RL_22 : gV RL 22 RX6 yX6_whyNot cX6_whyNot 3 (some .int) 2 := ⟨⟨rfl, wd_X6_whyNot⟩, wp_X6_whyNot, by decide, gm2 184 rfl rfl, wt_X6_whyNot⟩
theorem wv_RL_28 : gV RL 28 RX6 yX6_next cX6_next 2 (some .int) 1 := ⟨⟨rfl, wd_X6_next⟩, wp_X6_next, by decide, gm3 7 rfl rfl, wt_X6_next⟩
theorem wv_RL_31 : gS RL 31 yL_grade cL_grade 1 (some .int) 1 := ⟨wd_L_grade, wp_L_grade, by decide, gm3 12 rfl rfl, wt_L_grade⟩
theorem wv_RL_34 : gS RL 34 yL_pour cL_pour 5 none 5 := ⟨wd_L_pour, wp_L_pour, by decide, gm3 18 rfl rfl, wt_L_pour⟩
theorem wv_RL_38 : gV RL 38 RX6 yX6_press cX6_press 3 (some .int) 2 := ⟨⟨rfl, wd_X6_press⟩, wp_X6_press, by decide, gm3 21 rfl rfl, wt_X6_press⟩
theorem wv_RL_41 : gV RL 41 RX6 yX6_lot cX6_lot 3 (some .int) 2 := ⟨⟨rfl, wd_X6_lot⟩, wp_X6_lot, by decide, gm3 57 rfl rfl, wt_X6_lot⟩
theorem wv_RL_44 : gV RL 44 RX6 yX6_appeal cX6_appeal 4 (some .int) 1 := ⟨⟨rfl, wd_X6_appeal⟩, wp_X6_appeal, by decide, gm3 79 rfl rfl, wt_X6_appeal⟩
theorem wv_RL_47 : gV RL 47 RX6 yX6_taken cX6_taken 4 (some .int) 3 := ⟨⟨rfl, wd_X6_taken⟩, wp_X6_taken, by decide, gm3 92 rfl rfl, wt_X6_taken⟩
theorem wv_RL_51 : gS RL 51 yL_shares cL_shares 9 none 4 := ⟨wd_L_shares, wp_L_shares, by decide, gm3 117 rfl rfl, wt_L_shares⟩
theorem wv_RL_55 : gV RL 55 RX6 yX6_draw cX6_draw 5 (some .int) 3 := ⟨⟨rfl, wd_X6_draw⟩, wp_X6_draw, by decide, gm3 120 rfl rfl, wt_X6_draw⟩
theorem wv_RL_58 : gV RL 58 RX6 yX6_move cX6_move 7 (some .int) 4 := ⟨⟨rfl, wd_X6_move⟩, wp_X6_move, by decide, gm3 131 rfl rfl, wt_X6_move⟩
theorem wv_RL_62 : gV RL 62 RX6 yX6_addLot cX6_addLot 6 (some .int) 5 := ⟨⟨rfl, wd_X6_addLot⟩, wp_X6_addLot, by decide, gm2 163 rfl rfl, wt_X6_addLot⟩
theorem wv_RL_66 : gS RL 66 yL_presses cL_presses 25 (some .boolean) 11 := ⟨wd_L_presses, wp_L_presses, by decide, gm2 178 rfl rfl, wt_L_presses⟩
theorem wv_RL_70 : gS RL 70 yL_appeals cL_appeals 14 (some .boolean) 10 := ⟨wd_L_appeals, wp_L_appeals, by decide, gm3 54 rfl rfl, wt_L_appeals⟩
theorem wv_RL_74 : gS RL 74 yL_takes cL_takes 12 (some .boolean) 7 := ⟨wd_L_takes, wp_L_takes, by decide, gm3 89 rfl rfl, wt_L_takes⟩
theorem wv_RL_78 : gV RL 78 RX6 yX6_pass cX6_pass 6 (some .int) 1 := ⟨⟨rfl, wd_X6_pass⟩, wp_X6_pass, by decide, gm3 138 rfl rfl, wt_X6_pass⟩
theorem wv_RL_81 : gV RL 81 RX6 yX6_set cX6_set 4 (some .int) 2 := ⟨⟨rfl, wd_X6_set⟩, wp_X6_set, by decide, gm3 152 rfl rfl, wt_X6_set⟩
theorem wv_RL_84 : gV RL 84 RX6 yX6_clean cX6_clean 2 (some .int) 0 := ⟨⟨rfl, wd_X6_clean⟩, wp_X6_clean, by decide, gm3 168 rfl rfl, wt_X6_clean⟩
theorem wv_RL_88 : gV RL 88 RX6 yX6_setYield cX6_setYield 4 (some .int) 2 := ⟨⟨rfl, wd_X6_setYield⟩, wp_X6_setYield, by decide, gm3 172 rfl rfl, wt_X6_setYield⟩
theorem wv_RL_91 : gV RL 91 RX6 yX6_tank cX6_tank 3 (some .int) 2 := ⟨⟨rfl, wd_X6_tank⟩, wp_X6_tank, by decide, gm3 180 rfl rfl, wt_X6_tank⟩
theorem wv_RL_94 : gV RL 94 RX6 yX6_grower cX6_grower 3 (some .int) 2 := ⟨⟨rfl, wd_X6_grower⟩, wp_X6_grower, by decide, gm3 185 rfl rfl, wt_X6_grower⟩
theorem wv_RL_97 : gV RL 97 RX6 yX6_count cX6_count 2 (some .int) 1 := ⟨⟨rfl, wd_X6_count⟩, wp_X6_count, by decide, gm3 190 rfl rfl, wt_X6_count⟩
theorem wv_RL_101 : gV RL 101 RX6 yX6_variety cX6_variety 3 (some .int) 2 := ⟨⟨rfl, wd_X6_variety⟩, wp_X6_variety, by decide, gm2 109 rfl rfl, wt_X6_variety⟩
theorem wv_RL_104 : gV RL 104 RX6 yX6_addGrower cX6_addGrower 2 (some .int) 0 := ⟨⟨rfl, wd_X6_addGrower⟩, wp_X6_addGrower, by decide, gm1 231 rfl rfl, wt_X6_addGrower⟩
theorem wv_RL_107 : gS RL 107 yL_cell cL_cell 2 (some .int) 2 := ⟨wd_L_cell, wp_L_cell, by decide, gm2 153 rfl rfl, wt_L_cell⟩
theorem wv_RL_110 : gV RL 110 RX6 yX6_addTank cX6_addTank 3 (some .int) 1 := ⟨⟨rfl, wd_X6_addTank⟩, wp_X6_addTank, by decide, gm2 84 rfl rfl, wt_X6_addTank⟩
theorem wv_RL_113 : gS RL 113 yL_act cL_act 20 (some .boolean) 13 := ⟨wd_L_act, wp_L_act, by decide, gm2 160 rfl rfl, wt_L_act⟩
theorem wv_RL_117 : gS RL 117 yL_agree cL_agree 15 (some .boolean) 9 := ⟨wd_L_agree, wp_L_agree, by decide, gm3 177 rfl rfl, wt_L_agree⟩
theorem wv_RX0_61 : gV RX0 61 RX5 yX5_get cX5_get 4 (some .int) 2 := ⟨⟨rfl, wd_X5_get⟩, wp_X5_get, by decide, gm2 238 rfl rfl, wt_X5_get⟩
theorem wv_RX0_72 : gV RX0 72 RX0 yX0_placeOfSaved cX0_placeOfSaved 2 (some .int) 1 := ⟨⟨rfl, wd_X0_placeOfSaved⟩, wp_X0_placeOfSaved, by decide, gm2 71 rfl rfl, wt_X0_placeOfSaved⟩
theorem wv_RX1_28 : gV RX1 28 RX5 yX5_get cX5_get 4 (some .int) 2 := ⟨⟨rfl, wd_X5_get⟩, wp_X5_get, by decide, gm2 143 rfl rfl, wt_X5_get⟩
theorem wv_RX1_34 : gV RX1 34 RX1 yX1_oilOf cX1_oilOf 4 (some .int) 1 := ⟨⟨rfl, wd_X1_oilOf⟩, wp_X1_oilOf, by decide, gm2 230 rfl rfl, wt_X1_oilOf⟩
theorem wv_RX1_38 : gV RX1 38 RX1 yX1_gradeOf cX1_gradeOf 2 (some .int) 1 := ⟨⟨rfl, wd_X1_gradeOf⟩, wp_X1_gradeOf, by decide, gm3 3 rfl rfl, wt_X1_gradeOf⟩
theorem wv_RX1_46 : gV RX1 46 RX5 yX5_put cX5_put 5 none 3 := ⟨⟨rfl, wd_X5_put⟩, wp_X5_put, by decide, gm3 51 rfl rfl, wt_X5_put⟩
theorem wv_RX1_50 : gV RX1 50 RX5 yX5_add cX5_add 4 none 3 := ⟨⟨rfl, wd_X5_add⟩, wp_X5_add, by decide, gm3 52 rfl rfl, wt_X5_add⟩
theorem wv_RX1_53 : gV RX1 53 RX1 yX1_split cX1_split 7 none 2 := ⟨⟨rfl, wd_X1_split⟩, wp_X1_split, by decide, gm3 129 rfl rfl, wt_X1_split⟩
theorem wv_RX1_57 : gV RX1 57 RX1 yX1_part cX1_part 2 (some .int) 1 := ⟨⟨rfl, wd_X1_part⟩, wp_X1_part, by decide, gm3 130 rfl rfl, wt_X1_part⟩
theorem wv_RX1_64 : gV RX1 64 RX3 yX3_get cX3_get 3 (some .int) 1 := ⟨⟨rfl, wd_X3_get⟩, wp_X3_get, by decide, gm3 151 rfl rfl, wt_X3_get⟩
theorem wv_RX1_68 : gV RX1 68 RX1 yX1_oilAfter cX1_oilAfter 5 (some .int) 2 := ⟨⟨rfl, wd_X1_oilAfter⟩, wp_X1_oilAfter, by decide, gm3 147 rfl rfl, wt_X1_oilAfter⟩
theorem wv_RX1_74 : gV RX1 74 RX1 yX1_greatestRemainder cX1_greatestRemainder 3 (some .int) 0 := ⟨⟨rfl, wd_X1_greatestRemainder⟩, wp_X1_greatestRemainder, by decide, gm3 105 rfl rfl, wt_X1_greatestRemainder⟩
theorem wv_RX1_78 : gV RX1 78 RX1 yX1_roundUp cX1_roundUp 2 none 1 := ⟨⟨rfl, wd_X1_roundUp⟩, wp_X1_roundUp, by decide, gm3 109 rfl rfl, wt_X1_roundUp⟩
theorem wv_RX2_25 : gV RX2 25 RX3 yX3_get cX3_get 3 (some .int) 1 := ⟨⟨rfl, wd_X3_get⟩, wp_X3_get, by decide, gm2 205 rfl rfl, wt_X3_get⟩
theorem wv_RX2_35 : gV RX2 35 RX5 yX5_get cX5_get 4 (some .int) 2 := ⟨⟨rfl, wd_X5_get⟩, wp_X5_get, by decide, gm2 206 rfl rfl, wt_X5_get⟩
theorem wv_RX2_47 : gV RX2 47 RX2 yX2_begin cX2_begin 3 none 0 := ⟨⟨rfl, wd_X2_begin⟩, wp_X2_begin, by decide, gm2 201 rfl rfl, wt_X2_begin⟩
theorem wv_RX2_53 : gV RX2 53 RX2 yX2_step cX2_step 2 (some .boolean) 1 := ⟨⟨rfl, wd_X2_step⟩, wp_X2_step, by decide, gm2 207 rfl rfl, wt_X2_step⟩
theorem wv_RX2_57 : gV RX2 57 RX2 yX2_lotInTurn cX2_lotInTurn 3 (some .int) 1 := ⟨⟨rfl, wd_X2_lotInTurn⟩, wp_X2_lotInTurn, by decide, gm2 211 rfl rfl, wt_X2_lotInTurn⟩
theorem wv_RX2_63 : gV RX2 63 RX2 yX2_weigh cX2_weigh 2 none 0 := ⟨⟨rfl, wd_X2_weigh⟩, wp_X2_weigh, by decide, gm2 215 rfl rfl, wt_X2_weigh⟩
theorem wv_RX2_66 : gV RX2 66 RX2 yX2_passThroughMill cX2_passThroughMill 5 none 1 := ⟨⟨rfl, wd_X2_passThroughMill⟩, wp_X2_passThroughMill, by decide, gm2 219 rfl rfl, wt_X2_passThroughMill⟩
theorem wv_RX3_17 : gV RX3 17 RX3 yX3_get cX3_get 3 (some .int) 1 := ⟨⟨rfl, wd_X3_get⟩, wp_X3_get, by decide, gm2 82 rfl rfl, wt_X3_get⟩
theorem wv_RX3_21 : gV RX3 21 RX3 yX3_put cX3_put 4 none 2 := ⟨⟨rfl, wd_X3_put⟩, wp_X3_put, by decide, gm2 83 rfl rfl, wt_X3_put⟩
theorem wv_RX5_20 : gV RX5 20 RX5 yX5_get cX5_get 4 (some .int) 2 := ⟨⟨rfl, wd_X5_get⟩, wp_X5_get, by decide, gm3 34 rfl rfl, wt_X5_get⟩
theorem wv_RX5_24 : gV RX5 24 RX5 yX5_put cX5_put 5 none 3 := ⟨⟨rfl, wd_X5_put⟩, wp_X5_put, by decide, gm3 35 rfl rfl, wt_X5_put⟩
theorem wv_RX6_51 : gV RX6 51 RX3 yX3_get cX3_get 3 (some .int) 1 := ⟨⟨rfl, wd_X3_get⟩, wp_X3_get, by decide, gm1 235 rfl rfl, wt_X3_get⟩
theorem wv_RX6_64 : gV RX6 64 RX0 yX0_save cX0_save 2 none 0 := ⟨⟨rfl, wd_X0_save⟩, wp_X0_save, by decide, gm2 67 rfl rfl, wt_X0_save⟩
theorem wv_RX6_67 : gV RX6 67 RX3 yX3_add cX3_add 3 none 2 := ⟨⟨rfl, wd_X3_add⟩, wp_X3_add, by decide, gm2 78 rfl rfl, wt_X3_add⟩
theorem wv_RX6_71 : gV RX6 71 RX6 yX6_checkGrower cX6_checkGrower 2 none 1 := ⟨⟨rfl, wd_X6_checkGrower⟩, wp_X6_checkGrower, by decide, gm2 167 rfl rfl, wt_X6_checkGrower⟩
theorem wv_RX6_75 : gS RX6 75 yX6_isVariety cX6_isVariety 1 (some .boolean) 1 := ⟨wd_X6_isVariety, wp_X6_isVariety, by decide, gm2 116 rfl rfl, wt_X6_isVariety⟩
theorem wv_RX6_79 : gS RX6 79 yX6_isOutside cX6_isOutside 3 (some .boolean) 3 := ⟨wd_X6_isOutside, wp_X6_isOutside, by decide, gm2 88 rfl rfl, wt_X6_isOutside⟩
theorem wv_RX6_90 : gV RX6 90 RX6 yX6_enterLot cX6_enterLot 7 (some .int) 5 := ⟨⟨rfl, wd_X6_enterLot⟩, wp_X6_enterLot, by decide, gm2 174 rfl rfl, wt_X6_enterLot⟩
theorem wv_RX6_102 : gV RX6 102 RX5 yX5_put cX5_put 5 none 3 := ⟨⟨rfl, wd_X5_put⟩, wp_X5_put, by decide, gm2 108 rfl rfl, wt_X5_put⟩
theorem wv_RX6_108 : gS RX6 108 yX6_checkVariety cX6_checkVariety 1 none 1 := ⟨wd_X6_checkVariety, wp_X6_checkVariety, by decide, gm2 113 rfl rfl, wt_X6_checkVariety⟩
theorem wv_RX6_116 : gV RX6 116 RX5 yX5_get cX5_get 4 (some .int) 2 := ⟨⟨rfl, wd_X5_get⟩, wp_X5_get, by decide, gm2 135 rfl rfl, wt_X5_get⟩
theorem wv_RX6_119 : gS RX6 119 yX6_isSetting cX6_isSetting 1 (some .boolean) 1 := ⟨wd_X6_isSetting, wp_X6_isSetting, by decide, gm3 156 rfl rfl, wt_X6_isSetting⟩
theorem wv_RX6_127 : gS RX6 127 yX6_isSettingValue cX6_isSettingValue 2 (some .boolean) 2 := ⟨wd_X6_isSettingValue, wp_X6_isSettingValue, by decide, gm3 160 rfl rfl, wt_X6_isSettingValue⟩
theorem wv_RX6_136 : gV RX6 136 RX3 yX3_put cX3_put 4 none 2 := ⟨⟨rfl, wd_X3_put⟩, wp_X3_put, by decide, gm3 53 rfl rfl, wt_X3_put⟩
theorem wv_RX6_138 : gV RX6 138 RX6 yX6_checkTank cX6_checkTank 2 none 1 := ⟨⟨rfl, wd_X6_checkTank⟩, wp_X6_checkTank, by decide, gm2 188 rfl rfl, wt_X6_checkTank⟩
theorem wv_RX6_141 : gV RX6 141 RX6 yX6_reasonAgainstPress cX6_reasonAgainstPress 3 (some .int) 2 := ⟨⟨rfl, wd_X6_reasonAgainstPress⟩, wp_X6_reasonAgainstPress, by decide, gm2 193 rfl rfl, wt_X6_reasonAgainstPress⟩
theorem wv_RX6_153 : gV RX6 153 RX6 yX6_loseByCleaning cX6_loseByCleaning 3 none 2 := ⟨⟨rfl, wd_X6_loseByCleaning⟩, wp_X6_loseByCleaning, by decide, gm3 26 rfl rfl, wt_X6_loseByCleaning⟩
theorem wv_RX6_156 : gV RX6 156 RX6 yX6_enterPressedLot cX6_enterPressedLot 3 none 1 := ⟨⟨rfl, wd_X6_enterPressedLot⟩, wp_X6_enterPressedLot, by decide, gm3 36 rfl rfl, wt_X6_enterPressedLot⟩
theorem wv_RX6_159 : gV RX6 159 RX6 yX6_pourPressedOil cX6_pourPressedOil 4 none 1 := ⟨⟨rfl, wd_X6_pourPressedOil⟩, wp_X6_pourPressedOil, by decide, gm3 40 rfl rfl, wt_X6_pourPressedOil⟩
theorem wv_RX6_171 : gV RX6 171 RX6 yX6_checkLot cX6_checkLot 2 none 1 := ⟨⟨rfl, wd_X6_checkLot⟩, wp_X6_checkLot, by decide, gm3 61 rfl rfl, wt_X6_checkLot⟩
theorem wv_RX6_174 : gV RX6 174 RX6 yX6_reasonAgainstAppeal cX6_reasonAgainstAppeal 3 (some .int) 1 := ⟨⟨rfl, wd_X6_reasonAgainstAppeal⟩, wp_X6_reasonAgainstAppeal, by decide, gm3 70 rfl rfl, wt_X6_reasonAgainstAppeal⟩
theorem wv_RX6_179 : gV RX6 179 RX6 yX6_secondOilOf cX6_secondOilOf 3 (some .int) 1 := ⟨⟨rfl, wd_X6_secondOilOf⟩, wp_X6_secondOilOf, by decide, gm3 74 rfl rfl, wt_X6_secondOilOf⟩
theorem wv_RX6_185 : gV RX6 185 RX5 yX5_add cX5_add 4 none 3 := ⟨⟨rfl, wd_X5_add⟩, wp_X5_add, by decide, gm3 30 rfl rfl, wt_X5_add⟩
theorem wv_RX6_187 : gV RX6 187 RX0 yX0_gradeOfLot cX0_gradeOfLot 3 (some .int) 1 := ⟨⟨rfl, wd_X0_gradeOfLot⟩, wp_X0_gradeOfLot, by decide, gm2 234 rfl rfl, wt_X0_gradeOfLot⟩
theorem wv_RX6_190 : gV RX6 190 RX1 yX1_pour cX1_pour 5 none 4 := ⟨⟨rfl, wd_X1_pour⟩, wp_X1_pour, by decide, gm3 44 rfl rfl, wt_X1_pour⟩
theorem wv_RX6_194 : gV RX6 194 RX6 yX6_settleAppeal cX6_settleAppeal 4 none 2 := ⟨⟨rfl, wd_X6_settleAppeal⟩, wp_X6_settleAppeal, by decide, gm3 84 rfl rfl, wt_X6_settleAppeal⟩
theorem wv_RX6_197 : gS RX6 197 yX6_checkOil cX6_checkOil 1 none 1 := ⟨wd_X6_checkOil, wp_X6_checkOil, by decide, gm3 96 rfl rfl, wt_X6_checkOil⟩
theorem wv_RX6_203 : gV RX6 203 RX1 yX1_oilOf cX1_oilOf 4 (some .int) 1 := ⟨⟨rfl, wd_X1_oilOf⟩, wp_X1_oilOf, by decide, gm3 100 rfl rfl, wt_X1_oilOf⟩
theorem wv_RX6_208 : gV RX6 208 RX1 yX1_takeOut cX1_takeOut 4 none 2 := ⟨⟨rfl, wd_X1_takeOut⟩, wp_X1_takeOut, by decide, gm3 125 rfl rfl, wt_X1_takeOut⟩
theorem wv_RX6_211 : gV RX6 211 RX1 yX1_part cX1_part 2 (some .int) 1 := ⟨⟨rfl, wd_X1_part⟩, wp_X1_part, by decide, gm3 113 rfl rfl, wt_X1_part⟩
theorem wv_RX6_216 : gV RX6 216 RX1 yX1_gradeOf cX1_gradeOf 2 (some .int) 1 := ⟨⟨rfl, wd_X1_gradeOf⟩, wp_X1_gradeOf, by decide, gm3 136 rfl rfl, wt_X1_gradeOf⟩
theorem wv_RX6_219 : gV RX6 219 RX1 yX1_roomOf cX1_roomOf 2 (some .int) 1 := ⟨⟨rfl, wd_X1_roomOf⟩, wp_X1_roomOf, by decide, gm2 226 rfl rfl, wt_X1_roomOf⟩
theorem wv_RX6_222 : gV RX6 222 RX1 yX1_admits cX1_admits 5 (some .boolean) 3 := ⟨⟨rfl, wd_X1_admits⟩, wp_X1_admits, by decide, gm2 239 rfl rfl, wt_X1_admits⟩
theorem wv_RX6_230 : gV RX6 230 RX1 yX1_settle cX1_settle 6 (some .int) 3 := ⟨⟨rfl, wd_X1_settle⟩, wp_X1_settle, by decide, gm3 143 rfl rfl, wt_X1_settle⟩
theorem wv_RX6_268 : gV RX6 268 RX6 yX6_lotsWith cX6_lotsWith 8 (some .int) 3 := ⟨⟨rfl, wd_X6_lotsWith⟩, wp_X6_lotsWith, by decide, gm2 148 rfl rfl, wt_X6_lotsWith⟩
theorem wv_RX6_274 : gV RX6 274 RX6 yX6_ifPressed cX6_ifPressed 4 (some .int) 3 := ⟨⟨rfl, wd_X6_ifPressed⟩, wp_X6_ifPressed, by decide, gm3 66 rfl rfl, wt_X6_ifPressed⟩
theorem wv_RX6_281 : gV RX6 281 RX1 yX1_oilOfVariety cX1_oilOfVariety 4 (some .int) 1 := ⟨⟨rfl, wd_X1_oilOfVariety⟩, wp_X1_oilOfVariety, by decide, gm2 139 rfl rfl, wt_X1_oilOfVariety⟩
theorem wv_RX6_284 : gV RX6 284 RX6 yX6_residueVariety cX6_residueVariety 1 (some .int) 0 := ⟨⟨rfl, wd_X6_residueVariety⟩, wp_X6_residueVariety, by decide, gm2 144 rfl rfl, wt_X6_residueVariety⟩
theorem wv_RX6_289 : gV RX6 289 RX1 yX1_allOil cX1_allOil 3 (some .int) 0 := ⟨⟨rfl, wd_X1_allOil⟩, wp_X1_allOil, by decide, gm3 194 rfl rfl, wt_X1_allOil⟩
theorem wv_RX6_292 : gV RX6 292 RX6 yX6_sumOfGrowers cX6_sumOfGrowers 4 (some .int) 1 := ⟨⟨rfl, wd_X6_sumOfGrowers⟩, wp_X6_sumOfGrowers, by decide, gm3 198 rfl rfl, wt_X6_sumOfGrowers⟩
theorem wv_RX6_295 : gV RX6 295 RX1 yX1_oilOfGrade cX1_oilOfGrade 4 (some .int) 1 := ⟨⟨rfl, wd_X1_oilOfGrade⟩, wp_X1_oilOfGrade, by decide, gm3 202 rfl rfl, wt_X1_oilOfGrade⟩
theorem wv_RX6_302 : gV RX6 302 RX2 yX2_lookAhead cX2_lookAhead 1 (some .boolean) 0 := ⟨⟨rfl, wd_X2_lookAhead⟩, wp_X2_lookAhead, by decide, gm2 197 rfl rfl, wt_X2_lookAhead⟩
theorem wv_RX6_313 : gV RX6 313 RX1 yX1_split cX1_split 7 none 2 := ⟨⟨rfl, wd_X1_split⟩, wp_X1_split, by decide, gm3 101 rfl rfl, wt_X1_split⟩
theorem wk_RL_7 : Cond.constant RL 7 739982445 ∈ lw_good := gm2 156 rfl rfl
theorem wk_RX0_76 : Cond.methodLink RX0 76 arraycopyName ∈ lw_good := gm2 75 rfl rfl
theorem wk_RX1_41 : Cond.methodLink RX1 41 Lib.Math.max.name ∈ lw_good := gm3 48 rfl rfl
theorem wk_RX2_91 : Cond.methodLink RX2 91 Lib.Math.min.name ∈ lw_good := gm2 223 rfl rfl
theorem wk_RX6_371 : Cond.fieldLink RX6 371 "OliveMill" "LEAST_SETTINGS" "[I" ∈ lw_good := gm3 163 rfl rfl
theorem wk_RX6_374 : Cond.fieldLink RX6 374 "OliveMill" "MOST_SETTINGS" "[I" ∈ lw_good := gm3 165 rfl rfl
theorem wk_RX6_409 : Cond.methodLink RX6 409 Lib.Math.max.name ∈ lw_good := gm3 88 rfl rfl
theorem wm_max1 : Cond.static Lib.Math.max.name ∈ lw_good := gm3 49 rfl rfl
theorem wm_max3 : Cond.code Lib.Math.max.name Lib.Math.max.code 2 (some .int) ∈ lw_good := gm3 50 rfl rfl
theorem wm_min1 : Cond.static Lib.Math.min.name ∈ lw_good := gm2 224 rfl rfl
theorem wm_min3 : Cond.code Lib.Math.min.name Lib.Math.min.code 2 (some .int) ∈ lw_good := gm2 225 rfl rfl
theorem wm_2 : Cond.initialized "java/lang/Math" ∈ lw_good := gm1 15 rfl rfl
theorem wa_1 : Cond.native arraycopyName ∈ lw_good := gm2 77 rfl rfl
theorem wa_2 : Cond.static arraycopyName ∈ lw_good := gm2 76 rfl rfl
theorem wa_3 : Cond.initialized "java/lang/System" ∈ lw_good := gm1 14 rfl rfl
