set_option maxRecDepth 20000 in
theorem kn_C : Cond.initialized R_C ∈ bigw := bg 33 rfl rfl
set_option maxRecDepth 20000 in
theorem kx_C : Cond.instantiable R_C 11 ∈ bigw := bg 41 rfl rfl
set_option maxRecDepth 20000 in
theorem kn_Program : Cond.initialized R_Program ∈ bigw := bg 34 rfl rfl
set_option maxRecDepth 20000 in
theorem kx_Program : Cond.instantiable R_Program 4 ∈ bigw := bg 56 rfl rfl
set_option maxRecDepth 20000 in
theorem kn_Proc : Cond.initialized R_Proc ∈ bigw := bg 38 rfl rfl
set_option maxRecDepth 20000 in
theorem kx_Proc : Cond.instantiable R_Proc 12 ∈ bigw := bg 173 rfl rfl
set_option maxRecDepth 20000 in
theorem kn_Line : Cond.initialized R_Line ∈ bigw := bg 35 rfl rfl
set_option maxRecDepth 20000 in
theorem kx_Line : Cond.instantiable R_Line 2 ∈ bigw := bg 79 rfl rfl
set_option maxRecDepth 20000 in
theorem kn_Page : Cond.initialized R_Page ∈ bigw := bg 36 rfl rfl
set_option maxRecDepth 20000 in
theorem kx_Page : Cond.instantiable R_Page 4 ∈ bigw := bg 93 rfl rfl
set_option maxRecDepth 20000 in
theorem kn_M : Cond.initialized R_M ∈ bigw := bg 37 rfl rfl
set_option maxRecDepth 20000 in
theorem kx_M : Cond.instantiable R_M 28 ∈ bigw := bg 369 rfl rfl
set_option maxRecDepth 20000 in
theorem kn_Math : Cond.initialized R_Math ∈ bigw := bg 39 rfl rfl
set_option maxRecDepth 20000 in
theorem ko_i : Cond.instanceMethod objectInit ∈ bigw := bg 46 rfl rfl
set_option maxRecDepth 20000 in
theorem ko_c : Cond.code objectInit ⟨#[0xb1]⟩ 1 none ∈ bigw := bg 47 rfl rfl
set_option maxRecDepth 20000 in
theorem kc_C_init : Cond.code y_C_init b_C_init 2 none ∈ bigw := bg 44 rfl rfl
set_option maxRecDepth 20000 in
theorem kh_C_init : y_C_init.cls ≠ "java/lang/invoke/MethodHandle" ∧ y_C_init.cls ≠ "java/lang/invoke/VarHandle" ∧ (parseMethodDescriptor y_C_init.desc).map (fun d => d.parameters.length) = some 0 := by decide +kernel
set_option maxRecDepth 20000 in
theorem ki_C_init : Cond.instanceMethod y_C_init ∈ bigw := bg 43 rfl rfl
set_option maxRecDepth 20000 in
theorem kc_C_instr : Cond.code y_C_instr b_C_instr 6 (some .int) ∈ bigw := bg 154 rfl rfl
set_option maxRecDepth 20000 in
theorem kh_C_instr : y_C_instr.cls ≠ "java/lang/invoke/MethodHandle" ∧ y_C_instr.cls ≠ "java/lang/invoke/VarHandle" ∧ (parseMethodDescriptor y_C_instr.desc).map (fun d => d.parameters.length) = some 4 := by decide +kernel
set_option maxRecDepth 20000 in
theorem ki_C_instr : Cond.instanceMethod y_C_instr ∈ bigw := bg 152 rfl rfl
set_option maxRecDepth 20000 in
theorem ke_C_instr : Cond.selects R_C y_C_instr y_C_instr ∈ bigw := bg 153 rfl rfl
set_option maxRecDepth 20000 in
theorem kc_C_spawn : Cond.code y_C_spawn b_C_spawn 3 (some .int) ∈ bigw := bg 168 rfl rfl
set_option maxRecDepth 20000 in
theorem kh_C_spawn : y_C_spawn.cls ≠ "java/lang/invoke/MethodHandle" ∧ y_C_spawn.cls ≠ "java/lang/invoke/VarHandle" ∧ (parseMethodDescriptor y_C_spawn.desc).map (fun d => d.parameters.length) = some 2 := by decide +kernel
set_option maxRecDepth 20000 in
theorem ki_C_spawn : Cond.instanceMethod y_C_spawn ∈ bigw := bg 166 rfl rfl
set_option maxRecDepth 20000 in
theorem ke_C_spawn : Cond.selects R_C y_C_spawn y_C_spawn ∈ bigw := bg 167 rfl rfl
set_option maxRecDepth 20000 in
theorem kc_C_step : Cond.code y_C_step b_C_step 3 (some .int) ∈ bigw := bg 231 rfl rfl
set_option maxRecDepth 20000 in
theorem kh_C_step : y_C_step.cls ≠ "java/lang/invoke/MethodHandle" ∧ y_C_step.cls ≠ "java/lang/invoke/VarHandle" ∧ (parseMethodDescriptor y_C_step.desc).map (fun d => d.parameters.length) = some 1 := by decide +kernel
set_option maxRecDepth 20000 in
theorem ki_C_step : Cond.instanceMethod y_C_step ∈ bigw := bg 229 rfl rfl
set_option maxRecDepth 20000 in
theorem ke_C_step : Cond.selects R_C y_C_step y_C_step ∈ bigw := bg 230 rfl rfl
set_option maxRecDepth 20000 in
theorem kc_C_serve : Cond.code y_C_serve b_C_serve 6 (some .int) ∈ bigw := bg 292 rfl rfl
set_option maxRecDepth 20000 in
theorem kh_C_serve : y_C_serve.cls ≠ "java/lang/invoke/MethodHandle" ∧ y_C_serve.cls ≠ "java/lang/invoke/VarHandle" ∧ (parseMethodDescriptor y_C_serve.desc).map (fun d => d.parameters.length) = some 1 := by decide +kernel
set_option maxRecDepth 20000 in
theorem ki_C_serve : Cond.instanceMethod y_C_serve ∈ bigw := bg 290 rfl rfl
set_option maxRecDepth 20000 in
theorem ke_C_serve : Cond.selects R_C y_C_serve y_C_serve ∈ bigw := bg 291 rfl rfl
set_option maxRecDepth 20000 in
theorem kc_C_migrate : Cond.code y_C_migrate b_C_migrate 5 (some .int) ∈ bigw := bg 320 rfl rfl
set_option maxRecDepth 20000 in
theorem kh_C_migrate : y_C_migrate.cls ≠ "java/lang/invoke/MethodHandle" ∧ y_C_migrate.cls ≠ "java/lang/invoke/VarHandle" ∧ (parseMethodDescriptor y_C_migrate.desc).map (fun d => d.parameters.length) = some 2 := by decide +kernel
set_option maxRecDepth 20000 in
theorem ki_C_migrate : Cond.instanceMethod y_C_migrate ∈ bigw := bg 318 rfl rfl
set_option maxRecDepth 20000 in
theorem ke_C_migrate : Cond.selects R_C y_C_migrate y_C_migrate ∈ bigw := bg 319 rfl rfl
set_option maxRecDepth 20000 in
theorem kc_C_find : Cond.code y_C_find b_C_find 7 (some .int) ∈ bigw := bg 324 rfl rfl
set_option maxRecDepth 20000 in
theorem kh_C_find : y_C_find.cls ≠ "java/lang/invoke/MethodHandle" ∧ y_C_find.cls ≠ "java/lang/invoke/VarHandle" ∧ (parseMethodDescriptor y_C_find.desc).map (fun d => d.parameters.length) = some 2 := by decide +kernel
set_option maxRecDepth 20000 in
theorem ki_C_find : Cond.instanceMethod y_C_find ∈ bigw := bg 322 rfl rfl
set_option maxRecDepth 20000 in
theorem ke_C_find : Cond.selects R_C y_C_find y_C_find ∈ bigw := bg 323 rfl rfl
set_option maxRecDepth 20000 in
theorem kc_C_reg : Cond.code y_C_reg b_C_reg 3 (some .long) ∈ bigw := bg 328 rfl rfl
set_option maxRecDepth 20000 in
theorem kh_C_reg : y_C_reg.cls ≠ "java/lang/invoke/MethodHandle" ∧ y_C_reg.cls ≠ "java/lang/invoke/VarHandle" ∧ (parseMethodDescriptor y_C_reg.desc).map (fun d => d.parameters.length) = some 2 := by decide +kernel
set_option maxRecDepth 20000 in
theorem ki_C_reg : Cond.instanceMethod y_C_reg ∈ bigw := bg 326 rfl rfl
set_option maxRecDepth 20000 in
theorem ke_C_reg : Cond.selects R_C y_C_reg y_C_reg ∈ bigw := bg 327 rfl rfl
set_option maxRecDepth 20000 in
theorem kc_C_info : Cond.code y_C_info b_C_info 4 (some .long) ∈ bigw := bg 333 rfl rfl
set_option maxRecDepth 20000 in
theorem kh_C_info : y_C_info.cls ≠ "java/lang/invoke/MethodHandle" ∧ y_C_info.cls ≠ "java/lang/invoke/VarHandle" ∧ (parseMethodDescriptor y_C_info.desc).map (fun d => d.parameters.length) = some 2 := by decide +kernel
set_option maxRecDepth 20000 in
theorem ki_C_info : Cond.instanceMethod y_C_info ∈ bigw := bg 331 rfl rfl
set_option maxRecDepth 20000 in
theorem ke_C_info : Cond.selects R_C y_C_info y_C_info ∈ bigw := bg 332 rfl rfl
set_option maxRecDepth 20000 in
theorem kc_C_line : Cond.code y_C_line b_C_line 3 (some .int) ∈ bigw := bg 338 rfl rfl
set_option maxRecDepth 20000 in
theorem kh_C_line : y_C_line.cls ≠ "java/lang/invoke/MethodHandle" ∧ y_C_line.cls ≠ "java/lang/invoke/VarHandle" ∧ (parseMethodDescriptor y_C_line.desc).map (fun d => d.parameters.length) = some 2 := by decide +kernel
set_option maxRecDepth 20000 in
theorem ki_C_line : Cond.instanceMethod y_C_line ∈ bigw := bg 336 rfl rfl
set_option maxRecDepth 20000 in
theorem ke_C_line : Cond.selects R_C y_C_line y_C_line ∈ bigw := bg 337 rfl rfl
set_option maxRecDepth 20000 in
theorem kc_C_word : Cond.code y_C_word b_C_word 2 (some .long) ∈ bigw := bg 342 rfl rfl
set_option maxRecDepth 20000 in
theorem kh_C_word : y_C_word.cls ≠ "java/lang/invoke/MethodHandle" ∧ y_C_word.cls ≠ "java/lang/invoke/VarHandle" ∧ (parseMethodDescriptor y_C_word.desc).map (fun d => d.parameters.length) = some 1 := by decide +kernel
set_option maxRecDepth 20000 in
theorem ki_C_word : Cond.instanceMethod y_C_word ∈ bigw := bg 340 rfl rfl
set_option maxRecDepth 20000 in
theorem ke_C_word : Cond.selects R_C y_C_word y_C_word ∈ bigw := bg 341 rfl rfl
set_option maxRecDepth 20000 in
theorem kc_C_copy : Cond.code y_C_copy b_C_copy 3 (some .long) ∈ bigw := bg 346 rfl rfl
set_option maxRecDepth 20000 in
theorem kh_C_copy : y_C_copy.cls ≠ "java/lang/invoke/MethodHandle" ∧ y_C_copy.cls ≠ "java/lang/invoke/VarHandle" ∧ (parseMethodDescriptor y_C_copy.desc).map (fun d => d.parameters.length) = some 2 := by decide +kernel
set_option maxRecDepth 20000 in
theorem ki_C_copy : Cond.instanceMethod y_C_copy ∈ bigw := bg 344 rfl rfl
set_option maxRecDepth 20000 in
theorem ke_C_copy : Cond.selects R_C y_C_copy y_C_copy ∈ bigw := bg 345 rfl rfl
set_option maxRecDepth 20000 in
theorem kc_C_right : Cond.code y_C_right b_C_right 3 (some .int) ∈ bigw := bg 351 rfl rfl
set_option maxRecDepth 20000 in
theorem kh_C_right : y_C_right.cls ≠ "java/lang/invoke/MethodHandle" ∧ y_C_right.cls ≠ "java/lang/invoke/VarHandle" ∧ (parseMethodDescriptor y_C_right.desc).map (fun d => d.parameters.length) = some 2 := by decide +kernel
set_option maxRecDepth 20000 in
theorem ki_C_right : Cond.instanceMethod y_C_right ∈ bigw := bg 349 rfl rfl
set_option maxRecDepth 20000 in
theorem ke_C_right : Cond.selects R_C y_C_right y_C_right ∈ bigw := bg 350 rfl rfl
set_option maxRecDepth 20000 in
theorem kc_C_owner : Cond.code y_C_owner b_C_owner 2 (some .int) ∈ bigw := bg 355 rfl rfl
set_option maxRecDepth 20000 in
theorem kh_C_owner : y_C_owner.cls ≠ "java/lang/invoke/MethodHandle" ∧ y_C_owner.cls ≠ "java/lang/invoke/VarHandle" ∧ (parseMethodDescriptor y_C_owner.desc).map (fun d => d.parameters.length) = some 1 := by decide +kernel
set_option maxRecDepth 20000 in
theorem ki_C_owner : Cond.instanceMethod y_C_owner ∈ bigw := bg 353 rfl rfl
set_option maxRecDepth 20000 in
theorem ke_C_owner : Cond.selects R_C y_C_owner y_C_owner ∈ bigw := bg 354 rfl rfl
set_option maxRecDepth 20000 in
theorem kc_C_count : Cond.code y_C_count b_C_count 2 (some .int) ∈ bigw := bg 359 rfl rfl
set_option maxRecDepth 20000 in
theorem kh_C_count : y_C_count.cls ≠ "java/lang/invoke/MethodHandle" ∧ y_C_count.cls ≠ "java/lang/invoke/VarHandle" ∧ (parseMethodDescriptor y_C_count.desc).map (fun d => d.parameters.length) = some 1 := by decide +kernel
set_option maxRecDepth 20000 in
theorem ki_C_count : Cond.instanceMethod y_C_count ∈ bigw := bg 357 rfl rfl
set_option maxRecDepth 20000 in
theorem ke_C_count : Cond.selects R_C y_C_count y_C_count ∈ bigw := bg 358 rfl rfl
set_option maxRecDepth 20000 in
theorem kc_C_isIn : Cond.code y_C_isIn b_C_isIn 2 (some .boolean) ∈ bigw := bg 157 rfl rfl
set_option maxRecDepth 20000 in
theorem kh_C_isIn : y_C_isIn.cls ≠ "java/lang/invoke/MethodHandle" ∧ y_C_isIn.cls ≠ "java/lang/invoke/VarHandle" ∧ (parseMethodDescriptor y_C_isIn.desc).map (fun d => d.parameters.length) = some 2 := by decide +kernel
set_option maxRecDepth 20000 in
theorem ks_C_isIn : Cond.static y_C_isIn ∈ bigw := bg 156 rfl rfl
set_option maxRecDepth 20000 in
theorem kc_C_fitsOp : Cond.code y_C_fitsOp b_C_fitsOp 2 (some .boolean) ∈ bigw := bg 160 rfl rfl
set_option maxRecDepth 20000 in
theorem kh_C_fitsOp : y_C_fitsOp.cls ≠ "java/lang/invoke/MethodHandle" ∧ y_C_fitsOp.cls ≠ "java/lang/invoke/VarHandle" ∧ (parseMethodDescriptor y_C_fitsOp.desc).map (fun d => d.parameters.length) = some 2 := by decide +kernel
set_option maxRecDepth 20000 in
theorem ks_C_fitsOp : Cond.static y_C_fitsOp ∈ bigw := bg 159 rfl rfl
set_option maxRecDepth 20000 in
theorem kc_C_touchesMemory : Cond.code y_C_touchesMemory b_C_touchesMemory 1 (some .boolean) ∈ bigw := bg 250 rfl rfl
set_option maxRecDepth 20000 in
theorem kh_C_touchesMemory : y_C_touchesMemory.cls ≠ "java/lang/invoke/MethodHandle" ∧ y_C_touchesMemory.cls ≠ "java/lang/invoke/VarHandle" ∧ (parseMethodDescriptor y_C_touchesMemory.desc).map (fun d => d.parameters.length) = some 1 := by decide +kernel
set_option maxRecDepth 20000 in
theorem ks_C_touchesMemory : Cond.static y_C_touchesMemory ∈ bigw := bg 249 rfl rfl
set_option maxRecDepth 20000 in
theorem kc_C_addressOf : Cond.code y_C_addressOf b_C_addressOf 1 (some .int) ∈ bigw := bg 253 rfl rfl
set_option maxRecDepth 20000 in
theorem kh_C_addressOf : y_C_addressOf.cls ≠ "java/lang/invoke/MethodHandle" ∧ y_C_addressOf.cls ≠ "java/lang/invoke/VarHandle" ∧ (parseMethodDescriptor y_C_addressOf.desc).map (fun d => d.parameters.length) = some 1 := by decide +kernel
set_option maxRecDepth 20000 in
theorem ks_C_addressOf : Cond.static y_C_addressOf ∈ bigw := bg 252 rfl rfl
set_option maxRecDepth 20000 in
theorem kc_C_requestsStanding : Cond.code y_C_requestsStanding b_C_requestsStanding 3 (some .int) ∈ bigw := bg 363 rfl rfl
set_option maxRecDepth 20000 in
theorem kh_C_requestsStanding : y_C_requestsStanding.cls ≠ "java/lang/invoke/MethodHandle" ∧ y_C_requestsStanding.cls ≠ "java/lang/invoke/VarHandle" ∧ (parseMethodDescriptor y_C_requestsStanding.desc).map (fun d => d.parameters.length) = some 0 := by decide +kernel
set_option maxRecDepth 20000 in
theorem ki_C_requestsStanding : Cond.instanceMethod y_C_requestsStanding ∈ bigw := bg 362 rfl rfl
set_option maxRecDepth 20000 in
theorem ke_C_requestsStanding : Cond.selects R_C y_C_requestsStanding y_C_requestsStanding ∈ bigw := bg 16 rfl rfl
set_option maxRecDepth 20000 in
theorem kc_C_processesReady : Cond.code y_C_processesReady b_C_processesReady 3 (some .int) ∈ bigw := bg 367 rfl rfl
set_option maxRecDepth 20000 in
theorem kh_C_processesReady : y_C_processesReady.cls ≠ "java/lang/invoke/MethodHandle" ∧ y_C_processesReady.cls ≠ "java/lang/invoke/VarHandle" ∧ (parseMethodDescriptor y_C_processesReady.desc).map (fun d => d.parameters.length) = some 0 := by decide +kernel
set_option maxRecDepth 20000 in
theorem ki_C_processesReady : Cond.instanceMethod y_C_processesReady ∈ bigw := bg 366 rfl rfl
set_option maxRecDepth 20000 in
theorem ke_C_processesReady : Cond.selects R_C y_C_processesReady y_C_processesReady ∈ bigw := bg 17 rfl rfl
set_option maxRecDepth 20000 in
theorem kc_C_makeProcess : Cond.code y_C_makeProcess b_C_makeProcess 4 (some .int) ∈ bigw := bg 172 rfl rfl
set_option maxRecDepth 20000 in
theorem kh_C_makeProcess : y_C_makeProcess.cls ≠ "java/lang/invoke/MethodHandle" ∧ y_C_makeProcess.cls ≠ "java/lang/invoke/VarHandle" ∧ (parseMethodDescriptor y_C_makeProcess.desc).map (fun d => d.parameters.length) = some 2 := by decide +kernel
set_option maxRecDepth 20000 in
theorem ki_C_makeProcess : Cond.instanceMethod y_C_makeProcess ∈ bigw := bg 171 rfl rfl
set_option maxRecDepth 20000 in
theorem ke_C_makeProcess : Cond.selects R_C y_C_makeProcess y_C_makeProcess ∈ bigw := bg 0 rfl rfl
set_option maxRecDepth 20000 in
theorem kc_C_joinLine : Cond.code y_C_joinLine b_C_joinLine 2 none ∈ bigw := bg 223 rfl rfl
set_option maxRecDepth 20000 in
theorem kh_C_joinLine : y_C_joinLine.cls ≠ "java/lang/invoke/MethodHandle" ∧ y_C_joinLine.cls ≠ "java/lang/invoke/VarHandle" ∧ (parseMethodDescriptor y_C_joinLine.desc).map (fun d => d.parameters.length) = some 1 := by decide +kernel
set_option maxRecDepth 20000 in
theorem ki_C_joinLine : Cond.instanceMethod y_C_joinLine ∈ bigw := bg 222 rfl rfl
set_option maxRecDepth 20000 in
theorem ke_C_joinLine : Cond.selects R_C y_C_joinLine y_C_joinLine ∈ bigw := bg 1 rfl rfl
set_option maxRecDepth 20000 in
theorem kc_C_leaveLine : Cond.code y_C_leaveLine b_C_leaveLine 3 none ∈ bigw := bg 243 rfl rfl
set_option maxRecDepth 20000 in
theorem kh_C_leaveLine : y_C_leaveLine.cls ≠ "java/lang/invoke/MethodHandle" ∧ y_C_leaveLine.cls ≠ "java/lang/invoke/VarHandle" ∧ (parseMethodDescriptor y_C_leaveLine.desc).map (fun d => d.parameters.length) = some 2 := by decide +kernel
set_option maxRecDepth 20000 in
theorem ki_C_leaveLine : Cond.instanceMethod y_C_leaveLine ∈ bigw := bg 242 rfl rfl
set_option maxRecDepth 20000 in
theorem ke_C_leaveLine : Cond.selects R_C y_C_leaveLine y_C_leaveLine ∈ bigw := bg 4 rfl rfl
set_option maxRecDepth 20000 in
theorem kc_C_endProcess : Cond.code y_C_endProcess b_C_endProcess 5 none ∈ bigw := bg 239 rfl rfl
set_option maxRecDepth 20000 in
theorem kh_C_endProcess : y_C_endProcess.cls ≠ "java/lang/invoke/MethodHandle" ∧ y_C_endProcess.cls ≠ "java/lang/invoke/VarHandle" ∧ (parseMethodDescriptor y_C_endProcess.desc).map (fun d => d.parameters.length) = some 2 := by decide +kernel
set_option maxRecDepth 20000 in
theorem ki_C_endProcess : Cond.instanceMethod y_C_endProcess ∈ bigw := bg 238 rfl rfl
set_option maxRecDepth 20000 in
theorem ke_C_endProcess : Cond.selects R_C y_C_endProcess y_C_endProcess ∈ bigw := bg 3 rfl rfl
set_option maxRecDepth 20000 in
theorem kc_C_runFirst : Cond.code y_C_runFirst b_C_runFirst 8 none ∈ bigw := bg 235 rfl rfl
set_option maxRecDepth 20000 in
theorem kh_C_runFirst : y_C_runFirst.cls ≠ "java/lang/invoke/MethodHandle" ∧ y_C_runFirst.cls ≠ "java/lang/invoke/VarHandle" ∧ (parseMethodDescriptor y_C_runFirst.desc).map (fun d => d.parameters.length) = some 1 := by decide +kernel
set_option maxRecDepth 20000 in
theorem ki_C_runFirst : Cond.instanceMethod y_C_runFirst ∈ bigw := bg 234 rfl rfl
set_option maxRecDepth 20000 in
theorem ke_C_runFirst : Cond.selects R_C y_C_runFirst y_C_runFirst ∈ bigw := bg 2 rfl rfl
set_option maxRecDepth 20000 in
theorem kc_C_blockOn : Cond.code y_C_blockOn b_C_blockOn 4 none ∈ bigw := bg 260 rfl rfl
set_option maxRecDepth 20000 in
theorem kh_C_blockOn : y_C_blockOn.cls ≠ "java/lang/invoke/MethodHandle" ∧ y_C_blockOn.cls ≠ "java/lang/invoke/VarHandle" ∧ (parseMethodDescriptor y_C_blockOn.desc).map (fun d => d.parameters.length) = some 3 := by decide +kernel
set_option maxRecDepth 20000 in
theorem ki_C_blockOn : Cond.instanceMethod y_C_blockOn ∈ bigw := bg 259 rfl rfl
set_option maxRecDepth 20000 in
theorem ke_C_blockOn : Cond.selects R_C y_C_blockOn y_C_blockOn ∈ bigw := bg 5 rfl rfl
set_option maxRecDepth 20000 in
theorem kc_C_spendSlice : Cond.code y_C_spendSlice b_C_spendSlice 3 none ∈ bigw := bg 288 rfl rfl
set_option maxRecDepth 20000 in
theorem kh_C_spendSlice : y_C_spendSlice.cls ≠ "java/lang/invoke/MethodHandle" ∧ y_C_spendSlice.cls ≠ "java/lang/invoke/VarHandle" ∧ (parseMethodDescriptor y_C_spendSlice.desc).map (fun d => d.parameters.length) = some 2 := by decide +kernel
set_option maxRecDepth 20000 in
theorem ki_C_spendSlice : Cond.instanceMethod y_C_spendSlice ∈ bigw := bg 287 rfl rfl
set_option maxRecDepth 20000 in
theorem ke_C_spendSlice : Cond.selects R_C y_C_spendSlice y_C_spendSlice ∈ bigw := bg 12 rfl rfl
set_option maxRecDepth 20000 in
theorem kc_C_perform : Cond.code y_C_perform b_C_perform 7 none ∈ bigw := bg 264 rfl rfl
set_option maxRecDepth 20000 in
theorem kh_C_perform : y_C_perform.cls ≠ "java/lang/invoke/MethodHandle" ∧ y_C_perform.cls ≠ "java/lang/invoke/VarHandle" ∧ (parseMethodDescriptor y_C_perform.desc).map (fun d => d.parameters.length) = some 4 := by decide +kernel
set_option maxRecDepth 20000 in
theorem ki_C_perform : Cond.instanceMethod y_C_perform ∈ bigw := bg 263 rfl rfl
set_option maxRecDepth 20000 in
theorem ke_C_perform : Cond.selects R_C y_C_perform y_C_perform ∈ bigw := bg 6 rfl rfl
set_option maxRecDepth 20000 in
theorem kc_C_accessMemory : Cond.code y_C_accessMemory b_C_accessMemory 7 none ∈ bigw := bg 268 rfl rfl
set_option maxRecDepth 20000 in
theorem kh_C_accessMemory : y_C_accessMemory.cls ≠ "java/lang/invoke/MethodHandle" ∧ y_C_accessMemory.cls ≠ "java/lang/invoke/VarHandle" ∧ (parseMethodDescriptor y_C_accessMemory.desc).map (fun d => d.parameters.length) = some 4 := by decide +kernel
set_option maxRecDepth 20000 in
theorem ki_C_accessMemory : Cond.instanceMethod y_C_accessMemory ∈ bigw := bg 267 rfl rfl
set_option maxRecDepth 20000 in
theorem ke_C_accessMemory : Cond.selects R_C y_C_accessMemory y_C_accessMemory ∈ bigw := bg 7 rfl rfl
set_option maxRecDepth 20000 in
theorem kc_C_isOther : Cond.code y_C_isOther b_C_isOther 3 (some .boolean) ∈ bigw := bg 280 rfl rfl
set_option maxRecDepth 20000 in
theorem kh_C_isOther : y_C_isOther.cls ≠ "java/lang/invoke/MethodHandle" ∧ y_C_isOther.cls ≠ "java/lang/invoke/VarHandle" ∧ (parseMethodDescriptor y_C_isOther.desc).map (fun d => d.parameters.length) = some 2 := by decide +kernel
set_option maxRecDepth 20000 in
theorem ki_C_isOther : Cond.instanceMethod y_C_isOther ∈ bigw := bg 279 rfl rfl
set_option maxRecDepth 20000 in
theorem ke_C_isOther : Cond.selects R_C y_C_isOther y_C_isOther ∈ bigw := bg 10 rfl rfl
set_option maxRecDepth 20000 in
theorem kc_C_waitFor : Cond.code y_C_waitFor b_C_waitFor 4 none ∈ bigw := bg 276 rfl rfl
set_option maxRecDepth 20000 in
theorem kh_C_waitFor : y_C_waitFor.cls ≠ "java/lang/invoke/MethodHandle" ∧ y_C_waitFor.cls ≠ "java/lang/invoke/VarHandle" ∧ (parseMethodDescriptor y_C_waitFor.desc).map (fun d => d.parameters.length) = some 2 := by decide +kernel
set_option maxRecDepth 20000 in
theorem ki_C_waitFor : Cond.instanceMethod y_C_waitFor ∈ bigw := bg 275 rfl rfl
set_option maxRecDepth 20000 in
theorem ke_C_waitFor : Cond.selects R_C y_C_waitFor y_C_waitFor ∈ bigw := bg 9 rfl rfl
set_option maxRecDepth 20000 in
theorem kc_C_killOther : Cond.code y_C_killOther b_C_killOther 4 none ∈ bigw := bg 284 rfl rfl
set_option maxRecDepth 20000 in
theorem kh_C_killOther : y_C_killOther.cls ≠ "java/lang/invoke/MethodHandle" ∧ y_C_killOther.cls ≠ "java/lang/invoke/VarHandle" ∧ (parseMethodDescriptor y_C_killOther.desc).map (fun d => d.parameters.length) = some 2 := by decide +kernel
set_option maxRecDepth 20000 in
theorem ki_C_killOther : Cond.instanceMethod y_C_killOther ∈ bigw := bg 283 rfl rfl
set_option maxRecDepth 20000 in
theorem ke_C_killOther : Cond.selects R_C y_C_killOther y_C_killOther ∈ bigw := bg 11 rfl rfl
set_option maxRecDepth 20000 in
theorem kc_C_usePage : Cond.code y_C_usePage b_C_usePage 3 none ∈ bigw := bg 272 rfl rfl
set_option maxRecDepth 20000 in
theorem kh_C_usePage : y_C_usePage.cls ≠ "java/lang/invoke/MethodHandle" ∧ y_C_usePage.cls ≠ "java/lang/invoke/VarHandle" ∧ (parseMethodDescriptor y_C_usePage.desc).map (fun d => d.parameters.length) = some 2 := by decide +kernel
set_option maxRecDepth 20000 in
theorem ki_C_usePage : Cond.instanceMethod y_C_usePage ∈ bigw := bg 271 rfl rfl
set_option maxRecDepth 20000 in
theorem ke_C_usePage : Cond.selects R_C y_C_usePage y_C_usePage ∈ bigw := bg 8 rfl rfl
set_option maxRecDepth 20000 in
theorem kc_C_grantRequest : Cond.code y_C_grantRequest b_C_grantRequest 4 none ∈ bigw := bg 296 rfl rfl
set_option maxRecDepth 20000 in
theorem kh_C_grantRequest : y_C_grantRequest.cls ≠ "java/lang/invoke/MethodHandle" ∧ y_C_grantRequest.cls ≠ "java/lang/invoke/VarHandle" ∧ (parseMethodDescriptor y_C_grantRequest.desc).map (fun d => d.parameters.length) = some 2 := by decide +kernel
set_option maxRecDepth 20000 in
theorem ki_C_grantRequest : Cond.instanceMethod y_C_grantRequest ∈ bigw := bg 295 rfl rfl
set_option maxRecDepth 20000 in
theorem ke_C_grantRequest : Cond.selects R_C y_C_grantRequest y_C_grantRequest ∈ bigw := bg 13 rfl rfl
set_option maxRecDepth 20000 in
theorem kc_C_makeRoom : Cond.code y_C_makeRoom b_C_makeRoom 6 none ∈ bigw := bg 300 rfl rfl
set_option maxRecDepth 20000 in
theorem kh_C_makeRoom : y_C_makeRoom.cls ≠ "java/lang/invoke/MethodHandle" ∧ y_C_makeRoom.cls ≠ "java/lang/invoke/VarHandle" ∧ (parseMethodDescriptor y_C_makeRoom.desc).map (fun d => d.parameters.length) = some 1 := by decide +kernel
set_option maxRecDepth 20000 in
theorem ki_C_makeRoom : Cond.instanceMethod y_C_makeRoom ∈ bigw := bg 299 rfl rfl
set_option maxRecDepth 20000 in
theorem ke_C_makeRoom : Cond.selects R_C y_C_makeRoom y_C_makeRoom ∈ bigw := bg 14 rfl rfl
set_option maxRecDepth 20000 in
theorem kc_C_giveUp : Cond.code y_C_giveUp b_C_giveUp 3 none ∈ bigw := bg 304 rfl rfl
set_option maxRecDepth 20000 in
theorem kh_C_giveUp : y_C_giveUp.cls ≠ "java/lang/invoke/MethodHandle" ∧ y_C_giveUp.cls ≠ "java/lang/invoke/VarHandle" ∧ (parseMethodDescriptor y_C_giveUp.desc).map (fun d => d.parameters.length) = some 2 := by decide +kernel
set_option maxRecDepth 20000 in
theorem ki_C_giveUp : Cond.instanceMethod y_C_giveUp ∈ bigw := bg 303 rfl rfl
set_option maxRecDepth 20000 in
theorem ke_C_giveUp : Cond.selects R_C y_C_giveUp y_C_giveUp ∈ bigw := bg 15 rfl rfl
set_option maxRecDepth 20000 in
theorem kc_M_init : Cond.code y_M_init b_M_init 1 none ∈ bigw := bg 372 rfl rfl
set_option maxRecDepth 20000 in
theorem kh_M_init : y_M_init.cls ≠ "java/lang/invoke/MethodHandle" ∧ y_M_init.cls ≠ "java/lang/invoke/VarHandle" ∧ (parseMethodDescriptor y_M_init.desc).map (fun d => d.parameters.length) = some 0 := by decide +kernel
set_option maxRecDepth 20000 in
theorem ki_M_init : Cond.instanceMethod y_M_init ∈ bigw := bg 371 rfl rfl
set_option maxRecDepth 20000 in
theorem kc_M_tick : Cond.code y_M_tick b_M_tick 1 (some .int) ∈ bigw := bg 482 rfl rfl
set_option maxRecDepth 20000 in
theorem kh_M_tick : y_M_tick.cls ≠ "java/lang/invoke/MethodHandle" ∧ y_M_tick.cls ≠ "java/lang/invoke/VarHandle" ∧ (parseMethodDescriptor y_M_tick.desc).map (fun d => d.parameters.length) = some 0 := by decide +kernel
set_option maxRecDepth 20000 in
theorem ki_M_tick : Cond.instanceMethod y_M_tick ∈ bigw := bg 481 rfl rfl
set_option maxRecDepth 20000 in
theorem ke_M_tick : Cond.selects R_M y_M_tick y_M_tick ∈ bigw := bg 20 rfl rfl
set_option maxRecDepth 20000 in
theorem kc_M_out : Cond.code y_M_out b_M_out 2 (some .boolean) ∈ bigw := bg 466 rfl rfl
set_option maxRecDepth 20000 in
theorem kh_M_out : y_M_out.cls ≠ "java/lang/invoke/MethodHandle" ∧ y_M_out.cls ≠ "java/lang/invoke/VarHandle" ∧ (parseMethodDescriptor y_M_out.desc).map (fun d => d.parameters.length) = some 2 := by decide +kernel
set_option maxRecDepth 20000 in
theorem ks_M_out : Cond.static y_M_out ∈ bigw := bg 465 rfl rfl
set_option maxRecDepth 20000 in
theorem kc_M_noProcess : Cond.code y_M_noProcess b_M_noProcess 2 (some .boolean) ∈ bigw := bg 510 rfl rfl
set_option maxRecDepth 20000 in
theorem kh_M_noProcess : y_M_noProcess.cls ≠ "java/lang/invoke/MethodHandle" ∧ y_M_noProcess.cls ≠ "java/lang/invoke/VarHandle" ∧ (parseMethodDescriptor y_M_noProcess.desc).map (fun d => d.parameters.length) = some 1 := by decide +kernel
set_option maxRecDepth 20000 in
theorem ki_M_noProcess : Cond.instanceMethod y_M_noProcess ∈ bigw := bg 509 rfl rfl
set_option maxRecDepth 20000 in
theorem ke_M_noProcess : Cond.selects R_M y_M_noProcess y_M_noProcess ∈ bigw := bg 26 rfl rfl
set_option maxRecDepth 20000 in
theorem kc_M_instr : Cond.code y_M_instr b_M_instr 7 (some .int) ∈ bigw := bg 463 rfl rfl
set_option maxRecDepth 20000 in
theorem kh_M_instr : y_M_instr.cls ≠ "java/lang/invoke/MethodHandle" ∧ y_M_instr.cls ≠ "java/lang/invoke/VarHandle" ∧ (parseMethodDescriptor y_M_instr.desc).map (fun d => d.parameters.length) = some 4 := by decide +kernel
set_option maxRecDepth 20000 in
theorem ki_M_instr : Cond.instanceMethod y_M_instr ∈ bigw := bg 461 rfl rfl
set_option maxRecDepth 20000 in
theorem ke_M_instr : Cond.selects R_M y_M_instr y_M_instr ∈ bigw := bg 462 rfl rfl
set_option maxRecDepth 20000 in
theorem kc_M_ready : Cond.code y_M_ready b_M_ready 2 none ∈ bigw := bg 478 rfl rfl
set_option maxRecDepth 20000 in
theorem kh_M_ready : y_M_ready.cls ≠ "java/lang/invoke/MethodHandle" ∧ y_M_ready.cls ≠ "java/lang/invoke/VarHandle" ∧ (parseMethodDescriptor y_M_ready.desc).map (fun d => d.parameters.length) = some 1 := by decide +kernel
set_option maxRecDepth 20000 in
theorem ki_M_ready : Cond.instanceMethod y_M_ready ∈ bigw := bg 477 rfl rfl
set_option maxRecDepth 20000 in
theorem ke_M_ready : Cond.selects R_M y_M_ready y_M_ready ∈ bigw := bg 19 rfl rfl
set_option maxRecDepth 20000 in
theorem kc_M_make : Cond.code y_M_make b_M_make 5 (some .int) ∈ bigw := bg 474 rfl rfl
set_option maxRecDepth 20000 in
theorem kh_M_make : y_M_make.cls ≠ "java/lang/invoke/MethodHandle" ∧ y_M_make.cls ≠ "java/lang/invoke/VarHandle" ∧ (parseMethodDescriptor y_M_make.desc).map (fun d => d.parameters.length) = some 2 := by decide +kernel
set_option maxRecDepth 20000 in
theorem ki_M_make : Cond.instanceMethod y_M_make ∈ bigw := bg 473 rfl rfl
set_option maxRecDepth 20000 in
theorem ke_M_make : Cond.selects R_M y_M_make y_M_make ∈ bigw := bg 18 rfl rfl
set_option maxRecDepth 20000 in
theorem kc_M_spawn : Cond.code y_M_spawn b_M_spawn 4 (some .int) ∈ bigw := bg 470 rfl rfl
set_option maxRecDepth 20000 in
theorem kh_M_spawn : y_M_spawn.cls ≠ "java/lang/invoke/MethodHandle" ∧ y_M_spawn.cls ≠ "java/lang/invoke/VarHandle" ∧ (parseMethodDescriptor y_M_spawn.desc).map (fun d => d.parameters.length) = some 2 := by decide +kernel
set_option maxRecDepth 20000 in
theorem ki_M_spawn : Cond.instanceMethod y_M_spawn ∈ bigw := bg 468 rfl rfl
set_option maxRecDepth 20000 in
theorem ke_M_spawn : Cond.selects R_M y_M_spawn y_M_spawn ∈ bigw := bg 469 rfl rfl
set_option maxRecDepth 20000 in
theorem kc_M_standing : Cond.code y_M_standing b_M_standing 6 (some .int) ∈ bigw := bg 490 rfl rfl
set_option maxRecDepth 20000 in
theorem kh_M_standing : y_M_standing.cls ≠ "java/lang/invoke/MethodHandle" ∧ y_M_standing.cls ≠ "java/lang/invoke/VarHandle" ∧ (parseMethodDescriptor y_M_standing.desc).map (fun d => d.parameters.length) = some 2 := by decide +kernel
set_option maxRecDepth 20000 in
theorem ki_M_standing : Cond.instanceMethod y_M_standing ∈ bigw := bg 489 rfl rfl
set_option maxRecDepth 20000 in
theorem ke_M_standing : Cond.selects R_M y_M_standing y_M_standing ∈ bigw := bg 21 rfl rfl
set_option maxRecDepth 20000 in
theorem kc_M_end : Cond.code y_M_end b_M_end 4 none ∈ bigw := bg 494 rfl rfl
set_option maxRecDepth 20000 in
theorem kh_M_end : y_M_end.cls ≠ "java/lang/invoke/MethodHandle" ∧ y_M_end.cls ≠ "java/lang/invoke/VarHandle" ∧ (parseMethodDescriptor y_M_end.desc).map (fun d => d.parameters.length) = some 2 := by decide +kernel
set_option maxRecDepth 20000 in
theorem ki_M_end : Cond.instanceMethod y_M_end ∈ bigw := bg 493 rfl rfl
set_option maxRecDepth 20000 in
theorem ke_M_end : Cond.selects R_M y_M_end y_M_end ∈ bigw := bg 22 rfl rfl
set_option maxRecDepth 20000 in
theorem kc_M_ended : Cond.code y_M_ended b_M_ended 2 (some .boolean) ∈ bigw := bg 514 rfl rfl
set_option maxRecDepth 20000 in
theorem kh_M_ended : y_M_ended.cls ≠ "java/lang/invoke/MethodHandle" ∧ y_M_ended.cls ≠ "java/lang/invoke/VarHandle" ∧ (parseMethodDescriptor y_M_ended.desc).map (fun d => d.parameters.length) = some 1 := by decide +kernel
set_option maxRecDepth 20000 in
theorem ki_M_ended : Cond.instanceMethod y_M_ended ∈ bigw := bg 513 rfl rfl
set_option maxRecDepth 20000 in
theorem ke_M_ended : Cond.selects R_M y_M_ended y_M_ended ∈ bigw := bg 27 rfl rfl
set_option maxRecDepth 20000 in
theorem kc_M_fault : Cond.code y_M_fault b_M_fault 5 (some .boolean) ∈ bigw := bg 498 rfl rfl
set_option maxRecDepth 20000 in
theorem kh_M_fault : y_M_fault.cls ≠ "java/lang/invoke/MethodHandle" ∧ y_M_fault.cls ≠ "java/lang/invoke/VarHandle" ∧ (parseMethodDescriptor y_M_fault.desc).map (fun d => d.parameters.length) = some 3 := by decide +kernel
set_option maxRecDepth 20000 in
theorem ki_M_fault : Cond.instanceMethod y_M_fault ∈ bigw := bg 497 rfl rfl
set_option maxRecDepth 20000 in
theorem ke_M_fault : Cond.selects R_M y_M_fault y_M_fault ∈ bigw := bg 23 rfl rfl
set_option maxRecDepth 20000 in
theorem kc_M_touch : Cond.code y_M_touch b_M_touch 7 none ∈ bigw := bg 506 rfl rfl
set_option maxRecDepth 20000 in
theorem kh_M_touch : y_M_touch.cls ≠ "java/lang/invoke/MethodHandle" ∧ y_M_touch.cls ≠ "java/lang/invoke/VarHandle" ∧ (parseMethodDescriptor y_M_touch.desc).map (fun d => d.parameters.length) = some 4 := by decide +kernel
set_option maxRecDepth 20000 in
theorem ki_M_touch : Cond.instanceMethod y_M_touch ∈ bigw := bg 505 rfl rfl
set_option maxRecDepth 20000 in
theorem ke_M_touch : Cond.selects R_M y_M_touch y_M_touch ∈ bigw := bg 25 rfl rfl
set_option maxRecDepth 20000 in
theorem kc_M_perform : Cond.code y_M_perform b_M_perform 7 (some .boolean) ∈ bigw := bg 502 rfl rfl
set_option maxRecDepth 20000 in
theorem kh_M_perform : y_M_perform.cls ≠ "java/lang/invoke/MethodHandle" ∧ y_M_perform.cls ≠ "java/lang/invoke/VarHandle" ∧ (parseMethodDescriptor y_M_perform.desc).map (fun d => d.parameters.length) = some 5 := by decide +kernel
set_option maxRecDepth 20000 in
theorem ki_M_perform : Cond.instanceMethod y_M_perform ∈ bigw := bg 501 rfl rfl
set_option maxRecDepth 20000 in
theorem ke_M_perform : Cond.selects R_M y_M_perform y_M_perform ∈ bigw := bg 24 rfl rfl
set_option maxRecDepth 20000 in
theorem kc_M_step : Cond.code y_M_step b_M_step 8 (some .int) ∈ bigw := bg 486 rfl rfl
set_option maxRecDepth 20000 in
theorem kh_M_step : y_M_step.cls ≠ "java/lang/invoke/MethodHandle" ∧ y_M_step.cls ≠ "java/lang/invoke/VarHandle" ∧ (parseMethodDescriptor y_M_step.desc).map (fun d => d.parameters.length) = some 1 := by decide +kernel
set_option maxRecDepth 20000 in
theorem ki_M_step : Cond.instanceMethod y_M_step ∈ bigw := bg 484 rfl rfl
set_option maxRecDepth 20000 in
theorem ke_M_step : Cond.selects R_M y_M_step y_M_step ∈ bigw := bg 485 rfl rfl
set_option maxRecDepth 20000 in
theorem kc_M_firstAsking : Cond.code y_M_firstAsking b_M_firstAsking 4 (some .int) ∈ bigw := bg 522 rfl rfl
set_option maxRecDepth 20000 in
theorem kh_M_firstAsking : y_M_firstAsking.cls ≠ "java/lang/invoke/MethodHandle" ∧ y_M_firstAsking.cls ≠ "java/lang/invoke/VarHandle" ∧ (parseMethodDescriptor y_M_firstAsking.desc).map (fun d => d.parameters.length) = some 1 := by decide +kernel
set_option maxRecDepth 20000 in
theorem ki_M_firstAsking : Cond.instanceMethod y_M_firstAsking ∈ bigw := bg 521 rfl rfl
set_option maxRecDepth 20000 in
theorem ke_M_firstAsking : Cond.selects R_M y_M_firstAsking y_M_firstAsking ∈ bigw := bg 28 rfl rfl
set_option maxRecDepth 20000 in
theorem kc_M_giveUp : Cond.code y_M_giveUp b_M_giveUp 4 none ∈ bigw := bg 530 rfl rfl
set_option maxRecDepth 20000 in
theorem kh_M_giveUp : y_M_giveUp.cls ≠ "java/lang/invoke/MethodHandle" ∧ y_M_giveUp.cls ≠ "java/lang/invoke/VarHandle" ∧ (parseMethodDescriptor y_M_giveUp.desc).map (fun d => d.parameters.length) = some 1 := by decide +kernel
set_option maxRecDepth 20000 in
theorem ki_M_giveUp : Cond.instanceMethod y_M_giveUp ∈ bigw := bg 529 rfl rfl
set_option maxRecDepth 20000 in
theorem ke_M_giveUp : Cond.selects R_M y_M_giveUp y_M_giveUp ∈ bigw := bg 30 rfl rfl
set_option maxRecDepth 20000 in
theorem kc_M_held : Cond.code y_M_held b_M_held 4 (some .int) ∈ bigw := bg 526 rfl rfl
set_option maxRecDepth 20000 in
theorem kh_M_held : y_M_held.cls ≠ "java/lang/invoke/MethodHandle" ∧ y_M_held.cls ≠ "java/lang/invoke/VarHandle" ∧ (parseMethodDescriptor y_M_held.desc).map (fun d => d.parameters.length) = some 1 := by decide +kernel
set_option maxRecDepth 20000 in
theorem ki_M_held : Cond.instanceMethod y_M_held ∈ bigw := bg 525 rfl rfl
set_option maxRecDepth 20000 in
theorem ke_M_held : Cond.selects R_M y_M_held y_M_held ∈ bigw := bg 29 rfl rfl
set_option maxRecDepth 20000 in
theorem kc_M_share : Cond.code y_M_share b_M_share 6 none ∈ bigw := bg 534 rfl rfl
set_option maxRecDepth 20000 in
theorem kh_M_share : y_M_share.cls ≠ "java/lang/invoke/MethodHandle" ∧ y_M_share.cls ≠ "java/lang/invoke/VarHandle" ∧ (parseMethodDescriptor y_M_share.desc).map (fun d => d.parameters.length) = some 3 := by decide +kernel
set_option maxRecDepth 20000 in
theorem ki_M_share : Cond.instanceMethod y_M_share ∈ bigw := bg 533 rfl rfl
set_option maxRecDepth 20000 in
theorem ke_M_share : Cond.selects R_M y_M_share y_M_share ∈ bigw := bg 31 rfl rfl
set_option maxRecDepth 20000 in
theorem kc_M_serve : Cond.code y_M_serve b_M_serve 5 (some .int) ∈ bigw := bg 518 rfl rfl
set_option maxRecDepth 20000 in
theorem kh_M_serve : y_M_serve.cls ≠ "java/lang/invoke/MethodHandle" ∧ y_M_serve.cls ≠ "java/lang/invoke/VarHandle" ∧ (parseMethodDescriptor y_M_serve.desc).map (fun d => d.parameters.length) = some 1 := by decide +kernel
set_option maxRecDepth 20000 in
theorem ki_M_serve : Cond.instanceMethod y_M_serve ∈ bigw := bg 516 rfl rfl
set_option maxRecDepth 20000 in
theorem ke_M_serve : Cond.selects R_M y_M_serve y_M_serve ∈ bigw := bg 517 rfl rfl
set_option maxRecDepth 20000 in
theorem kc_M_migrate : Cond.code y_M_migrate b_M_migrate 4 (some .int) ∈ bigw := bg 538 rfl rfl
set_option maxRecDepth 20000 in
theorem kh_M_migrate : y_M_migrate.cls ≠ "java/lang/invoke/MethodHandle" ∧ y_M_migrate.cls ≠ "java/lang/invoke/VarHandle" ∧ (parseMethodDescriptor y_M_migrate.desc).map (fun d => d.parameters.length) = some 2 := by decide +kernel
set_option maxRecDepth 20000 in
theorem ki_M_migrate : Cond.instanceMethod y_M_migrate ∈ bigw := bg 536 rfl rfl
set_option maxRecDepth 20000 in
theorem ke_M_migrate : Cond.selects R_M y_M_migrate y_M_migrate ∈ bigw := bg 537 rfl rfl
set_option maxRecDepth 20000 in
theorem kc_M_find : Cond.code y_M_find b_M_find 6 (some .int) ∈ bigw := bg 542 rfl rfl
set_option maxRecDepth 20000 in
theorem kh_M_find : y_M_find.cls ≠ "java/lang/invoke/MethodHandle" ∧ y_M_find.cls ≠ "java/lang/invoke/VarHandle" ∧ (parseMethodDescriptor y_M_find.desc).map (fun d => d.parameters.length) = some 2 := by decide +kernel
set_option maxRecDepth 20000 in
theorem ki_M_find : Cond.instanceMethod y_M_find ∈ bigw := bg 540 rfl rfl
set_option maxRecDepth 20000 in
theorem ke_M_find : Cond.selects R_M y_M_find y_M_find ∈ bigw := bg 541 rfl rfl
set_option maxRecDepth 20000 in
theorem kc_M_reg : Cond.code y_M_reg b_M_reg 3 (some .long) ∈ bigw := bg 546 rfl rfl
set_option maxRecDepth 20000 in
theorem kh_M_reg : y_M_reg.cls ≠ "java/lang/invoke/MethodHandle" ∧ y_M_reg.cls ≠ "java/lang/invoke/VarHandle" ∧ (parseMethodDescriptor y_M_reg.desc).map (fun d => d.parameters.length) = some 2 := by decide +kernel
set_option maxRecDepth 20000 in
theorem ki_M_reg : Cond.instanceMethod y_M_reg ∈ bigw := bg 544 rfl rfl
set_option maxRecDepth 20000 in
theorem ke_M_reg : Cond.selects R_M y_M_reg y_M_reg ∈ bigw := bg 545 rfl rfl
set_option maxRecDepth 20000 in
theorem kc_M_info : Cond.code y_M_info b_M_info 3 (some .long) ∈ bigw := bg 551 rfl rfl
set_option maxRecDepth 20000 in
theorem kh_M_info : y_M_info.cls ≠ "java/lang/invoke/MethodHandle" ∧ y_M_info.cls ≠ "java/lang/invoke/VarHandle" ∧ (parseMethodDescriptor y_M_info.desc).map (fun d => d.parameters.length) = some 2 := by decide +kernel
set_option maxRecDepth 20000 in
theorem ki_M_info : Cond.instanceMethod y_M_info ∈ bigw := bg 549 rfl rfl
set_option maxRecDepth 20000 in
theorem ke_M_info : Cond.selects R_M y_M_info y_M_info ∈ bigw := bg 550 rfl rfl
set_option maxRecDepth 20000 in
theorem kc_M_line : Cond.code y_M_line b_M_line 3 (some .int) ∈ bigw := bg 555 rfl rfl
set_option maxRecDepth 20000 in
theorem kh_M_line : y_M_line.cls ≠ "java/lang/invoke/MethodHandle" ∧ y_M_line.cls ≠ "java/lang/invoke/VarHandle" ∧ (parseMethodDescriptor y_M_line.desc).map (fun d => d.parameters.length) = some 2 := by decide +kernel
set_option maxRecDepth 20000 in
theorem ki_M_line : Cond.instanceMethod y_M_line ∈ bigw := bg 553 rfl rfl
set_option maxRecDepth 20000 in
theorem ke_M_line : Cond.selects R_M y_M_line y_M_line ∈ bigw := bg 554 rfl rfl
set_option maxRecDepth 20000 in
theorem kc_M_word : Cond.code y_M_word b_M_word 2 (some .long) ∈ bigw := bg 559 rfl rfl
set_option maxRecDepth 20000 in
theorem kh_M_word : y_M_word.cls ≠ "java/lang/invoke/MethodHandle" ∧ y_M_word.cls ≠ "java/lang/invoke/VarHandle" ∧ (parseMethodDescriptor y_M_word.desc).map (fun d => d.parameters.length) = some 1 := by decide +kernel
set_option maxRecDepth 20000 in
theorem ki_M_word : Cond.instanceMethod y_M_word ∈ bigw := bg 557 rfl rfl
set_option maxRecDepth 20000 in
theorem ke_M_word : Cond.selects R_M y_M_word y_M_word ∈ bigw := bg 558 rfl rfl
set_option maxRecDepth 20000 in
theorem kc_M_copy : Cond.code y_M_copy b_M_copy 3 (some .long) ∈ bigw := bg 563 rfl rfl
set_option maxRecDepth 20000 in
theorem kh_M_copy : y_M_copy.cls ≠ "java/lang/invoke/MethodHandle" ∧ y_M_copy.cls ≠ "java/lang/invoke/VarHandle" ∧ (parseMethodDescriptor y_M_copy.desc).map (fun d => d.parameters.length) = some 2 := by decide +kernel
set_option maxRecDepth 20000 in
theorem ki_M_copy : Cond.instanceMethod y_M_copy ∈ bigw := bg 561 rfl rfl
set_option maxRecDepth 20000 in
theorem ke_M_copy : Cond.selects R_M y_M_copy y_M_copy ∈ bigw := bg 562 rfl rfl
set_option maxRecDepth 20000 in
theorem kc_M_right : Cond.code y_M_right b_M_right 3 (some .int) ∈ bigw := bg 567 rfl rfl
set_option maxRecDepth 20000 in
theorem kh_M_right : y_M_right.cls ≠ "java/lang/invoke/MethodHandle" ∧ y_M_right.cls ≠ "java/lang/invoke/VarHandle" ∧ (parseMethodDescriptor y_M_right.desc).map (fun d => d.parameters.length) = some 2 := by decide +kernel
set_option maxRecDepth 20000 in
theorem ki_M_right : Cond.instanceMethod y_M_right ∈ bigw := bg 565 rfl rfl
set_option maxRecDepth 20000 in
theorem ke_M_right : Cond.selects R_M y_M_right y_M_right ∈ bigw := bg 566 rfl rfl
set_option maxRecDepth 20000 in
theorem kc_M_owner : Cond.code y_M_owner b_M_owner 2 (some .int) ∈ bigw := bg 571 rfl rfl
set_option maxRecDepth 20000 in
theorem kh_M_owner : y_M_owner.cls ≠ "java/lang/invoke/MethodHandle" ∧ y_M_owner.cls ≠ "java/lang/invoke/VarHandle" ∧ (parseMethodDescriptor y_M_owner.desc).map (fun d => d.parameters.length) = some 1 := by decide +kernel
set_option maxRecDepth 20000 in
theorem ki_M_owner : Cond.instanceMethod y_M_owner ∈ bigw := bg 569 rfl rfl
set_option maxRecDepth 20000 in
theorem ke_M_owner : Cond.selects R_M y_M_owner y_M_owner ∈ bigw := bg 570 rfl rfl
set_option maxRecDepth 20000 in
theorem kc_M_count : Cond.code y_M_count b_M_count 5 (some .int) ∈ bigw := bg 575 rfl rfl
set_option maxRecDepth 20000 in
theorem kh_M_count : y_M_count.cls ≠ "java/lang/invoke/MethodHandle" ∧ y_M_count.cls ≠ "java/lang/invoke/VarHandle" ∧ (parseMethodDescriptor y_M_count.desc).map (fun d => d.parameters.length) = some 1 := by decide +kernel
set_option maxRecDepth 20000 in
theorem ki_M_count : Cond.instanceMethod y_M_count ∈ bigw := bg 573 rfl rfl
set_option maxRecDepth 20000 in
theorem ke_M_count : Cond.selects R_M y_M_count y_M_count ∈ bigw := bg 574 rfl rfl
set_option maxRecDepth 20000 in
theorem kc_Line_init : Cond.code y_Line_init b_Line_init 1 none ∈ bigw := bg 82 rfl rfl
set_option maxRecDepth 20000 in
theorem kh_Line_init : y_Line_init.cls ≠ "java/lang/invoke/MethodHandle" ∧ y_Line_init.cls ≠ "java/lang/invoke/VarHandle" ∧ (parseMethodDescriptor y_Line_init.desc).map (fun d => d.parameters.length) = some 0 := by decide +kernel
set_option maxRecDepth 20000 in
theorem ki_Line_init : Cond.instanceMethod y_Line_init ∈ bigw := bg 81 rfl rfl
set_option maxRecDepth 20000 in
theorem kc_Line_append : Cond.code y_Line_append b_Line_append 2 none ∈ bigw := bg 227 rfl rfl
set_option maxRecDepth 20000 in
theorem kh_Line_append : y_Line_append.cls ≠ "java/lang/invoke/MethodHandle" ∧ y_Line_append.cls ≠ "java/lang/invoke/VarHandle" ∧ (parseMethodDescriptor y_Line_append.desc).map (fun d => d.parameters.length) = some 1 := by decide +kernel
set_option maxRecDepth 20000 in
theorem ki_Line_append : Cond.instanceMethod y_Line_append ∈ bigw := bg 225 rfl rfl
set_option maxRecDepth 20000 in
theorem ke_Line_append : Cond.selects R_Line y_Line_append y_Line_append ∈ bigw := bg 226 rfl rfl
set_option maxRecDepth 20000 in
theorem kc_Line_remove : Cond.code y_Line_remove b_Line_remove 4 none ∈ bigw := bg 247 rfl rfl
set_option maxRecDepth 20000 in
theorem kh_Line_remove : y_Line_remove.cls ≠ "java/lang/invoke/MethodHandle" ∧ y_Line_remove.cls ≠ "java/lang/invoke/VarHandle" ∧ (parseMethodDescriptor y_Line_remove.desc).map (fun d => d.parameters.length) = some 1 := by decide +kernel
set_option maxRecDepth 20000 in
theorem ki_Line_remove : Cond.instanceMethod y_Line_remove ∈ bigw := bg 245 rfl rfl
set_option maxRecDepth 20000 in
theorem ke_Line_remove : Cond.selects R_Line y_Line_remove y_Line_remove ∈ bigw := bg 246 rfl rfl
set_option maxRecDepth 20000 in
theorem kc_Page_init : Cond.code y_Page_init b_Page_init 1 none ∈ bigw := bg 96 rfl rfl
set_option maxRecDepth 20000 in
theorem kh_Page_init : y_Page_init.cls ≠ "java/lang/invoke/MethodHandle" ∧ y_Page_init.cls ≠ "java/lang/invoke/VarHandle" ∧ (parseMethodDescriptor y_Page_init.desc).map (fun d => d.parameters.length) = some 0 := by decide +kernel
set_option maxRecDepth 20000 in
theorem ki_Page_init : Cond.instanceMethod y_Page_init ∈ bigw := bg 95 rfl rfl
set_option maxRecDepth 20000 in
theorem kc_Page_giveWrite : Cond.code y_Page_giveWrite b_Page_giveWrite 4 (some .int) ∈ bigw := bg 312 rfl rfl
set_option maxRecDepth 20000 in
theorem kh_Page_giveWrite : y_Page_giveWrite.cls ≠ "java/lang/invoke/MethodHandle" ∧ y_Page_giveWrite.cls ≠ "java/lang/invoke/VarHandle" ∧ (parseMethodDescriptor y_Page_giveWrite.desc).map (fun d => d.parameters.length) = some 1 := by decide +kernel
set_option maxRecDepth 20000 in
theorem ki_Page_giveWrite : Cond.instanceMethod y_Page_giveWrite ∈ bigw := bg 310 rfl rfl
set_option maxRecDepth 20000 in
theorem ke_Page_giveWrite : Cond.selects R_Page y_Page_giveWrite y_Page_giveWrite ∈ bigw := bg 311 rfl rfl
set_option maxRecDepth 20000 in
theorem kc_Page_giveRead : Cond.code y_Page_giveRead b_Page_giveRead 3 none ∈ bigw := bg 316 rfl rfl
set_option maxRecDepth 20000 in
theorem kh_Page_giveRead : y_Page_giveRead.cls ≠ "java/lang/invoke/MethodHandle" ∧ y_Page_giveRead.cls ≠ "java/lang/invoke/VarHandle" ∧ (parseMethodDescriptor y_Page_giveRead.desc).map (fun d => d.parameters.length) = some 1 := by decide +kernel
set_option maxRecDepth 20000 in
theorem ki_Page_giveRead : Cond.instanceMethod y_Page_giveRead ∈ bigw := bg 314 rfl rfl
set_option maxRecDepth 20000 in
theorem ke_Page_giveRead : Cond.selects R_Page y_Page_giveRead y_Page_giveRead ∈ bigw := bg 315 rfl rfl
set_option maxRecDepth 20000 in
theorem kc_Page_lowestWithRight : Cond.code y_Page_lowestWithRight b_Page_lowestWithRight 2 (some .int) ∈ bigw := bg 308 rfl rfl
set_option maxRecDepth 20000 in
theorem kh_Page_lowestWithRight : y_Page_lowestWithRight.cls ≠ "java/lang/invoke/MethodHandle" ∧ y_Page_lowestWithRight.cls ≠ "java/lang/invoke/VarHandle" ∧ (parseMethodDescriptor y_Page_lowestWithRight.desc).map (fun d => d.parameters.length) = some 0 := by decide +kernel
set_option maxRecDepth 20000 in
theorem ki_Page_lowestWithRight : Cond.instanceMethod y_Page_lowestWithRight ∈ bigw := bg 306 rfl rfl
set_option maxRecDepth 20000 in
theorem ke_Page_lowestWithRight : Cond.selects R_Page y_Page_lowestWithRight y_Page_lowestWithRight ∈ bigw := bg 307 rfl rfl
set_option maxRecDepth 20000 in
theorem kc_Proc_init : Cond.code y_Proc_init b_Proc_init 5 none ∈ bigw := bg 176 rfl rfl
set_option maxRecDepth 20000 in
theorem kh_Proc_init : y_Proc_init.cls ≠ "java/lang/invoke/MethodHandle" ∧ y_Proc_init.cls ≠ "java/lang/invoke/VarHandle" ∧ (parseMethodDescriptor y_Proc_init.desc).map (fun d => d.parameters.length) = some 3 := by decide +kernel
set_option maxRecDepth 20000 in
theorem ki_Proc_init : Cond.instanceMethod y_Proc_init ∈ bigw := bg 175 rfl rfl
set_option maxRecDepth 20000 in
theorem kc_Program_init : Cond.code y_Program_init b_Program_init 1 none ∈ bigw := bg 59 rfl rfl
set_option maxRecDepth 20000 in
theorem kh_Program_init : y_Program_init.cls ≠ "java/lang/invoke/MethodHandle" ∧ y_Program_init.cls ≠ "java/lang/invoke/VarHandle" ∧ (parseMethodDescriptor y_Program_init.desc).map (fun d => d.parameters.length) = some 0 := by decide +kernel
set_option maxRecDepth 20000 in
theorem ki_Program_init : Cond.instanceMethod y_Program_init ∈ bigw := bg 58 rfl rfl
set_option maxRecDepth 20000 in
theorem kc_Program_add : Cond.code y_Program_add b_Program_add 4 none ∈ bigw := bg 164 rfl rfl
set_option maxRecDepth 20000 in
theorem kh_Program_add : y_Program_add.cls ≠ "java/lang/invoke/MethodHandle" ∧ y_Program_add.cls ≠ "java/lang/invoke/VarHandle" ∧ (parseMethodDescriptor y_Program_add.desc).map (fun d => d.parameters.length) = some 3 := by decide +kernel
set_option maxRecDepth 20000 in
theorem ki_Program_add : Cond.instanceMethod y_Program_add ∈ bigw := bg 162 rfl rfl
set_option maxRecDepth 20000 in
theorem ke_Program_add : Cond.selects R_Program y_Program_add y_Program_add ∈ bigw := bg 163 rfl rfl
set_option maxRecDepth 20000 in
theorem kc_Math_floorMod : Cond.code y_Math_floorMod b_Math_floorMod 3 (some .int) ∈ bigw := bg 256 rfl rfl
set_option maxRecDepth 20000 in
theorem kh_Math_floorMod : y_Math_floorMod.cls ≠ "java/lang/invoke/MethodHandle" ∧ y_Math_floorMod.cls ≠ "java/lang/invoke/VarHandle" ∧ (parseMethodDescriptor y_Math_floorMod.desc).map (fun d => d.parameters.length) = some 2 := by decide +kernel
set_option maxRecDepth 20000 in
theorem ks_Math_floorMod : Cond.static y_Math_floorMod ∈ bigw := bg 255 rfl rfl
set_option maxRecDepth 20000 in
theorem kd_law_7 : Cond.classLink RL 7 R_C ∈ bigw := bg 40 rfl rfl
set_option maxRecDepth 20000 in
theorem km_law_9 : Cond.methodLink RL 9 y_C_init ∈ bigw := bg 42 rfl rfl
set_option maxRecDepth 20000 in
theorem km_C_3 : Cond.methodLink R_C 3 objectInit ∈ bigw := bg 45 rfl rfl
set_option maxRecDepth 20000 in
theorem kd_C_9 : Cond.classLink R_C 9 R_Program ∈ bigw := bg 48 rfl rfl
set_option maxRecDepth 20000 in
theorem kb_Program : Cond.arrayOver (.object "ClusterImage$Program") ∈ lw_tbl := List.mem_of_getElem? (i := 49) rfl
set_option maxRecDepth 20000 in
theorem kd_C_15 : Cond.classLink R_C 15 R_Proc ∈ bigw := bg 50 rfl rfl
set_option maxRecDepth 20000 in
theorem kb_Proc : Cond.arrayOver (.object "ClusterImage$Proc") ∈ lw_tbl := List.mem_of_getElem? (i := 51) rfl
set_option maxRecDepth 20000 in
theorem kd_C_21 : Cond.classLink R_C 21 R_Line ∈ bigw := bg 52 rfl rfl
set_option maxRecDepth 20000 in
theorem kb_Line : Cond.arrayOver (.object "ClusterImage$Line") ∈ lw_tbl := List.mem_of_getElem? (i := 53) rfl
set_option maxRecDepth 20000 in
theorem kd_C_27 : Cond.classLink R_C 27 R_Page ∈ bigw := bg 54 rfl rfl
set_option maxRecDepth 20000 in
theorem kb_Page : Cond.arrayOver (.object "ClusterImage$Page") ∈ lw_tbl := List.mem_of_getElem? (i := 55) rfl
set_option maxRecDepth 20000 in
theorem kk_C_37 : Cond.methodLinkNest R_C 37 y_Program_init "ClusterImage" ∈ lw_tbl := List.mem_of_getElem? (i := 57) rfl
set_option maxRecDepth 20000 in
theorem km_Program_3 : Cond.methodLink R_Program 3 objectInit ∈ bigw := bg 60 rfl rfl
set_option maxRecDepth 20000 in
theorem kf_Program_9 : Cond.fieldLink R_Program 9 "ClusterImage$Program" "ops" "[I" ∈ bigw := bg 61 rfl rfl
set_option maxRecDepth 20000 in
theorem kf_C_166 : Cond.fieldLink R_C 166 "ClusterImage$Program" "ops" "[I" ∈ bigw := bg 62 rfl rfl
set_option maxRecDepth 20000 in
theorem kf_Program_15 : Cond.fieldLink R_Program 15 "ClusterImage$Program" "as" "[I" ∈ bigw := bg 63 rfl rfl
set_option maxRecDepth 20000 in
theorem kf_C_169 : Cond.fieldLink R_C 169 "ClusterImage$Program" "as" "[I" ∈ bigw := bg 64 rfl rfl
set_option maxRecDepth 20000 in
theorem kf_Program_18 : Cond.fieldLink R_Program 18 "ClusterImage$Program" "bs" "[I" ∈ bigw := bg 65 rfl rfl
set_option maxRecDepth 20000 in
theorem kf_C_172 : Cond.fieldLink R_C 172 "ClusterImage$Program" "bs" "[I" ∈ bigw := bg 66 rfl rfl
set_option maxRecDepth 20000 in
theorem kf_Program_21 : Cond.fieldLink R_Program 21 "ClusterImage$Program" "size" "I" ∈ bigw := bg 67 rfl rfl
set_option maxRecDepth 20000 in
theorem kf_C_47 : Cond.fieldLink R_C 47 "ClusterImage$Program" "size" "I" ∈ bigw := bg 68 rfl rfl
set_option maxRecDepth 20000 in
theorem ka_int : Cond.arrayClass Jvm.ClassFile.FieldType.int ∈ bigw := bg 78 rfl rfl
set_option maxRecDepth 20000 in
theorem kk_C_38 : Cond.methodLinkNest R_C 38 y_Line_init "ClusterImage" ∈ lw_tbl := List.mem_of_getElem? (i := 80) rfl
set_option maxRecDepth 20000 in
theorem km_Line_3 : Cond.methodLink R_Line 3 objectInit ∈ bigw := bg 83 rfl rfl
set_option maxRecDepth 20000 in
theorem kf_Line_9 : Cond.fieldLink R_Line 9 "ClusterImage$Line" "items" "[I" ∈ bigw := bg 84 rfl rfl
set_option maxRecDepth 20000 in
theorem kf_C_63 : Cond.fieldLink R_C 63 "ClusterImage$Line" "items" "[I" ∈ bigw := bg 85 rfl rfl
set_option maxRecDepth 20000 in
theorem kf_Line_15 : Cond.fieldLink R_Line 15 "ClusterImage$Line" "size" "I" ∈ bigw := bg 86 rfl rfl
set_option maxRecDepth 20000 in
theorem kf_C_62 : Cond.fieldLink R_C 62 "ClusterImage$Line" "size" "I" ∈ bigw := bg 87 rfl rfl
set_option maxRecDepth 20000 in
theorem kk_C_39 : Cond.methodLinkNest R_C 39 y_Page_init "ClusterImage" ∈ lw_tbl := List.mem_of_getElem? (i := 94) rfl
set_option maxRecDepth 20000 in
theorem km_Page_3 : Cond.methodLink R_Page 3 objectInit ∈ bigw := bg 97 rfl rfl
set_option maxRecDepth 20000 in
theorem kd_Page_18 : Cond.classLink R_Page 18 R_Line ∈ bigw := bg 98 rfl rfl
set_option maxRecDepth 20000 in
theorem kk_Page_20 : Cond.methodLinkNest R_Page 20 y_Line_init "ClusterImage" ∈ lw_tbl := List.mem_of_getElem? (i := 99) rfl
set_option maxRecDepth 20000 in
theorem kf_Page_9 : Cond.fieldLink R_Page 9 "ClusterImage$Page" "rights" "[I" ∈ bigw := bg 100 rfl rfl
set_option maxRecDepth 20000 in
theorem kf_C_118 : Cond.fieldLink R_C 118 "ClusterImage$Page" "rights" "[I" ∈ bigw := bg 101 rfl rfl
set_option maxRecDepth 20000 in
theorem kf_Page_15 : Cond.fieldLink R_Page 15 "ClusterImage$Page" "lastUse" "[I" ∈ bigw := bg 102 rfl rfl
set_option maxRecDepth 20000 in
theorem kf_C_218 : Cond.fieldLink R_C 218 "ClusterImage$Page" "lastUse" "[I" ∈ bigw := bg 103 rfl rfl
set_option maxRecDepth 20000 in
theorem kf_Page_21 : Cond.fieldLink R_Page 21 "ClusterImage$Page" "requests" "LClusterImage$Line;" ∈ bigw := bg 104 rfl rfl
set_option maxRecDepth 20000 in
theorem kf_C_76 : Cond.fieldLink R_C 76 "ClusterImage$Page" "requests" "LClusterImage$Line;" ∈ bigw := bg 105 rfl rfl
set_option maxRecDepth 20000 in
theorem kf_Page_25 : Cond.fieldLink R_Page 25 "ClusterImage$Page" "holder" "I" ∈ bigw := bg 106 rfl rfl
set_option maxRecDepth 20000 in
theorem kf_C_121 : Cond.fieldLink R_C 121 "ClusterImage$Page" "holder" "I" ∈ bigw := bg 107 rfl rfl
set_option maxRecDepth 20000 in
theorem kf_C_11 : Cond.fieldLink R_C 11 "ClusterImage" "programs" "[LClusterImage$Program;" ∈ bigw := bg 117 rfl rfl
set_option maxRecDepth 20000 in
theorem kf_C_17 : Cond.fieldLink R_C 17 "ClusterImage" "processes" "[LClusterImage$Proc;" ∈ bigw := bg 118 rfl rfl
set_option maxRecDepth 20000 in
theorem kf_C_23 : Cond.fieldLink R_C 23 "ClusterImage" "lines" "[LClusterImage$Line;" ∈ bigw := bg 119 rfl rfl
set_option maxRecDepth 20000 in
theorem kf_C_29 : Cond.fieldLink R_C 29 "ClusterImage" "pages" "[LClusterImage$Page;" ∈ bigw := bg 120 rfl rfl
set_option maxRecDepth 20000 in
theorem kf_C_33 : Cond.fieldLink R_C 33 "ClusterImage" "memory" "[I" ∈ bigw := bg 121 rfl rfl
set_option maxRecDepth 20000 in
theorem kf_C_55 : Cond.fieldLink R_C 55 "ClusterImage" "made" "I" ∈ bigw := bg 122 rfl rfl
set_option maxRecDepth 20000 in
theorem kf_C_215 : Cond.fieldLink R_C 215 "ClusterImage" "uses" "I" ∈ bigw := bg 123 rfl rfl
set_option maxRecDepth 20000 in
theorem kf_C_124 : Cond.fieldLink R_C 124 "ClusterImage" "messages" "I" ∈ bigw := bg 124 rfl rfl
set_option maxRecDepth 20000 in
theorem kf_C_127 : Cond.fieldLink R_C 127 "ClusterImage" "faults" "I" ∈ bigw := bg 125 rfl rfl
set_option maxRecDepth 20000 in
theorem kf_C_130 : Cond.fieldLink R_C 130 "ClusterImage" "givenUp" "I" ∈ bigw := bg 126 rfl rfl
set_option maxRecDepth 20000 in
theorem kf_C_140 : Cond.fieldLink R_C 140 "ClusterImage" "grants" "I" ∈ bigw := bg 127 rfl rfl
set_option maxRecDepth 20000 in
theorem km_law_13 : Cond.methodLink RL 13 y_C_instr ∈ bigw := bg 151 rfl rfl
set_option maxRecDepth 20000 in
theorem km_C_40 : Cond.methodLink R_C 40 y_C_isIn ∈ bigw := bg 155 rfl rfl
set_option maxRecDepth 20000 in
theorem km_C_44 : Cond.methodLink R_C 44 y_C_fitsOp ∈ bigw := bg 158 rfl rfl
set_option maxRecDepth 20000 in
theorem km_C_51 : Cond.methodLink R_C 51 y_Program_add ∈ bigw := bg 161 rfl rfl
set_option maxRecDepth 20000 in
theorem km_law_18 : Cond.methodLink RL 18 y_C_spawn ∈ bigw := bg 165 rfl rfl
set_option maxRecDepth 20000 in
theorem km_C_58 : Cond.methodLink R_C 58 y_C_makeProcess ∈ bigw := bg 169 rfl rfl
set_option maxRecDepth 20000 in
theorem km_C_148 : Cond.methodLink R_C 148 y_Proc_init ∈ bigw := bg 174 rfl rfl
set_option maxRecDepth 20000 in
theorem km_Proc_3 : Cond.methodLink R_Proc 3 objectInit ∈ bigw := bg 177 rfl rfl
set_option maxRecDepth 20000 in
theorem kf_Proc_18 : Cond.fieldLink R_Proc 18 "ClusterImage$Proc" "number" "I" ∈ bigw := bg 178 rfl rfl
set_option maxRecDepth 20000 in
theorem kf_C_73 : Cond.fieldLink R_C 73 "ClusterImage$Proc" "number" "I" ∈ bigw := bg 179 rfl rfl
set_option maxRecDepth 20000 in
theorem kf_Proc_22 : Cond.fieldLink R_Proc 22 "ClusterImage$Proc" "program" "I" ∈ bigw := bg 180 rfl rfl
set_option maxRecDepth 20000 in
theorem kf_C_160 : Cond.fieldLink R_C 160 "ClusterImage$Proc" "program" "I" ∈ bigw := bg 181 rfl rfl
set_option maxRecDepth 20000 in
theorem kf_Proc_9 : Cond.fieldLink R_Proc 9 "ClusterImage$Proc" "registers" "[I" ∈ bigw := bg 182 rfl rfl
set_option maxRecDepth 20000 in
theorem kf_C_99 : Cond.fieldLink R_C 99 "ClusterImage$Proc" "registers" "[I" ∈ bigw := bg 183 rfl rfl
set_option maxRecDepth 20000 in
theorem kf_Proc_15 : Cond.fieldLink R_Proc 15 "ClusterImage$Proc" "hints" "[I" ∈ bigw := bg 184 rfl rfl
set_option maxRecDepth 20000 in
theorem kf_C_91 : Cond.fieldLink R_C 91 "ClusterImage$Proc" "hints" "[I" ∈ bigw := bg 185 rfl rfl
set_option maxRecDepth 20000 in
theorem kf_Proc_25 : Cond.fieldLink R_Proc 25 "ClusterImage$Proc" "place" "I" ∈ bigw := bg 186 rfl rfl
set_option maxRecDepth 20000 in
theorem kf_C_88 : Cond.fieldLink R_C 88 "ClusterImage$Proc" "place" "I" ∈ bigw := bg 187 rfl rfl
set_option maxRecDepth 20000 in
theorem kf_C_70 : Cond.fieldLink R_C 70 "ClusterImage$Proc" "state" "I" ∈ bigw := bg 188 rfl rfl
set_option maxRecDepth 20000 in
theorem kf_C_102 : Cond.fieldLink R_C 102 "ClusterImage$Proc" "counter" "I" ∈ bigw := bg 189 rfl rfl
set_option maxRecDepth 20000 in
theorem kf_C_105 : Cond.fieldLink R_C 105 "ClusterImage$Proc" "slice" "I" ∈ bigw := bg 190 rfl rfl
set_option maxRecDepth 20000 in
theorem kf_C_108 : Cond.fieldLink R_C 108 "ClusterImage$Proc" "code" "I" ∈ bigw := bg 191 rfl rfl
set_option maxRecDepth 20000 in
theorem kf_C_111 : Cond.fieldLink R_C 111 "ClusterImage$Proc" "wantedPage" "I" ∈ bigw := bg 192 rfl rfl
set_option maxRecDepth 20000 in
theorem kf_C_195 : Cond.fieldLink R_C 195 "ClusterImage$Proc" "wantedRight" "I" ∈ bigw := bg 193 rfl rfl
set_option maxRecDepth 20000 in
theorem kf_C_157 : Cond.fieldLink R_C 157 "ClusterImage$Proc" "awaited" "I" ∈ bigw := bg 194 rfl rfl
set_option maxRecDepth 20000 in
theorem km_C_94 : Cond.methodLink R_C 94 y_C_joinLine ∈ bigw := bg 220 rfl rfl
set_option maxRecDepth 20000 in
theorem km_C_150 : Cond.methodLink R_C 150 y_Line_append ∈ bigw := bg 224 rfl rfl
set_option maxRecDepth 20000 in
theorem km_law_23 : Cond.methodLink RL 23 y_C_step ∈ bigw := bg 228 rfl rfl
set_option maxRecDepth 20000 in
theorem km_C_66 : Cond.methodLink R_C 66 y_C_runFirst ∈ bigw := bg 232 rfl rfl
set_option maxRecDepth 20000 in
theorem km_C_163 : Cond.methodLink R_C 163 y_C_endProcess ∈ bigw := bg 236 rfl rfl
set_option maxRecDepth 20000 in
theorem km_C_153 : Cond.methodLink R_C 153 y_C_leaveLine ∈ bigw := bg 240 rfl rfl
set_option maxRecDepth 20000 in
theorem km_C_80 : Cond.methodLink R_C 80 y_Line_remove ∈ bigw := bg 244 rfl rfl
set_option maxRecDepth 20000 in
theorem km_C_175 : Cond.methodLink R_C 175 y_C_touchesMemory ∈ bigw := bg 248 rfl rfl
set_option maxRecDepth 20000 in
theorem km_C_179 : Cond.methodLink R_C 179 y_C_addressOf ∈ bigw := bg 251 rfl rfl
set_option maxRecDepth 20000 in
theorem km_C_143 : Cond.methodLink R_C 143 y_Math_floorMod ∈ bigw := bg 254 rfl rfl
set_option maxRecDepth 20000 in
theorem km_C_183 : Cond.methodLink R_C 183 y_C_blockOn ∈ bigw := bg 257 rfl rfl
set_option maxRecDepth 20000 in
theorem km_C_187 : Cond.methodLink R_C 187 y_C_perform ∈ bigw := bg 261 rfl rfl
set_option maxRecDepth 20000 in
theorem km_C_198 : Cond.methodLink R_C 198 y_C_accessMemory ∈ bigw := bg 265 rfl rfl
set_option maxRecDepth 20000 in
theorem km_C_207 : Cond.methodLink R_C 207 y_C_usePage ∈ bigw := bg 269 rfl rfl
set_option maxRecDepth 20000 in
theorem km_C_201 : Cond.methodLink R_C 201 y_C_waitFor ∈ bigw := bg 273 rfl rfl
set_option maxRecDepth 20000 in
theorem km_C_211 : Cond.methodLink R_C 211 y_C_isOther ∈ bigw := bg 277 rfl rfl
set_option maxRecDepth 20000 in
theorem km_C_204 : Cond.methodLink R_C 204 y_C_killOther ∈ bigw := bg 281 rfl rfl
set_option maxRecDepth 20000 in
theorem km_C_191 : Cond.methodLink R_C 191 y_C_spendSlice ∈ bigw := bg 285 rfl rfl
set_option maxRecDepth 20000 in
theorem km_law_28 : Cond.methodLink RL 28 y_C_serve ∈ bigw := bg 289 rfl rfl
set_option maxRecDepth 20000 in
theorem km_C_84 : Cond.methodLink R_C 84 y_C_grantRequest ∈ bigw := bg 293 rfl rfl
set_option maxRecDepth 20000 in
theorem km_C_221 : Cond.methodLink R_C 221 y_C_makeRoom ∈ bigw := bg 297 rfl rfl
set_option maxRecDepth 20000 in
theorem km_C_230 : Cond.methodLink R_C 230 y_C_giveUp ∈ bigw := bg 301 rfl rfl
set_option maxRecDepth 20000 in
theorem km_C_233 : Cond.methodLink R_C 233 y_Page_lowestWithRight ∈ bigw := bg 305 rfl rfl
set_option maxRecDepth 20000 in
theorem km_C_224 : Cond.methodLink R_C 224 y_Page_giveWrite ∈ bigw := bg 309 rfl rfl
set_option maxRecDepth 20000 in
theorem km_C_227 : Cond.methodLink R_C 227 y_Page_giveRead ∈ bigw := bg 313 rfl rfl
set_option maxRecDepth 20000 in
theorem km_law_32 : Cond.methodLink RL 32 y_C_migrate ∈ bigw := bg 317 rfl rfl
set_option maxRecDepth 20000 in
theorem km_law_36 : Cond.methodLink RL 36 y_C_find ∈ bigw := bg 321 rfl rfl
set_option maxRecDepth 20000 in
theorem km_law_40 : Cond.methodLink RL 40 y_C_reg ∈ bigw := bg 325 rfl rfl
set_option maxRecDepth 20000 in
theorem kg_C_97 : Cond.constantLong R_C 97 (10000000000 : Int64) ∈ bigw := bg 329 rfl rfl
set_option maxRecDepth 20000 in
theorem km_law_45 : Cond.methodLink RL 45 y_C_info ∈ bigw := bg 330 rfl rfl
set_option maxRecDepth 20000 in
theorem kg_C_114 : Cond.constantLong R_C 114 (8 : Int64) ∈ bigw := bg 334 rfl rfl
set_option maxRecDepth 20000 in
theorem km_law_49 : Cond.methodLink RL 49 y_C_line ∈ bigw := bg 335 rfl rfl
set_option maxRecDepth 20000 in
theorem km_law_53 : Cond.methodLink RL 53 y_C_word ∈ bigw := bg 339 rfl rfl
set_option maxRecDepth 20000 in
theorem km_law_58 : Cond.methodLink RL 58 y_C_copy ∈ bigw := bg 343 rfl rfl
set_option maxRecDepth 20000 in
theorem kg_C_116 : Cond.constantLong R_C 116 (-1 : Int64) ∈ bigw := bg 347 rfl rfl
set_option maxRecDepth 20000 in
theorem km_law_62 : Cond.methodLink RL 62 y_C_right ∈ bigw := bg 348 rfl rfl
set_option maxRecDepth 20000 in
theorem km_law_66 : Cond.methodLink RL 66 y_C_owner ∈ bigw := bg 352 rfl rfl
set_option maxRecDepth 20000 in
theorem km_law_70 : Cond.methodLink RL 70 y_C_count ∈ bigw := bg 356 rfl rfl
set_option maxRecDepth 20000 in
theorem km_C_133 : Cond.methodLink R_C 133 y_C_requestsStanding ∈ bigw := bg 360 rfl rfl
set_option maxRecDepth 20000 in
theorem km_C_137 : Cond.methodLink R_C 137 y_C_processesReady ∈ bigw := bg 364 rfl rfl
set_option maxRecDepth 20000 in
theorem kd_law_10 : Cond.classLink RL 10 R_M ∈ bigw := bg 368 rfl rfl
set_option maxRecDepth 20000 in
theorem km_law_12 : Cond.methodLink RL 12 y_M_init ∈ bigw := bg 370 rfl rfl
set_option maxRecDepth 20000 in
theorem km_M_1 : Cond.methodLink R_M 1 objectInit ∈ bigw := bg 373 rfl rfl
set_option maxRecDepth 20000 in
theorem kf_M_7 : Cond.fieldLink R_M 7 "ClusterImageModel" "ops" "[I" ∈ bigw := bg 374 rfl rfl
set_option maxRecDepth 20000 in
theorem kf_M_13 : Cond.fieldLink R_M 13 "ClusterImageModel" "as" "[I" ∈ bigw := bg 375 rfl rfl
set_option maxRecDepth 20000 in
theorem kf_M_16 : Cond.fieldLink R_M 16 "ClusterImageModel" "bs" "[I" ∈ bigw := bg 376 rfl rfl
set_option maxRecDepth 20000 in
theorem kf_M_19 : Cond.fieldLink R_M 19 "ClusterImageModel" "size" "[I" ∈ bigw := bg 377 rfl rfl
set_option maxRecDepth 20000 in
theorem kf_M_22 : Cond.fieldLink R_M 22 "ClusterImageModel" "program" "[I" ∈ bigw := bg 378 rfl rfl
set_option maxRecDepth 20000 in
theorem kf_M_25 : Cond.fieldLink R_M 25 "ClusterImageModel" "regs" "[I" ∈ bigw := bg 379 rfl rfl
set_option maxRecDepth 20000 in
theorem kf_M_28 : Cond.fieldLink R_M 28 "ClusterImageModel" "counter" "[I" ∈ bigw := bg 380 rfl rfl
set_option maxRecDepth 20000 in
theorem kf_M_31 : Cond.fieldLink R_M 31 "ClusterImageModel" "place" "[I" ∈ bigw := bg 381 rfl rfl
set_option maxRecDepth 20000 in
theorem kf_M_34 : Cond.fieldLink R_M 34 "ClusterImageModel" "state" "[I" ∈ bigw := bg 382 rfl rfl
set_option maxRecDepth 20000 in
theorem kf_M_37 : Cond.fieldLink R_M 37 "ClusterImageModel" "since" "[I" ∈ bigw := bg 383 rfl rfl
set_option maxRecDepth 20000 in
theorem kf_M_40 : Cond.fieldLink R_M 40 "ClusterImageModel" "slice" "[I" ∈ bigw := bg 384 rfl rfl
set_option maxRecDepth 20000 in
theorem kf_M_43 : Cond.fieldLink R_M 43 "ClusterImageModel" "code" "[I" ∈ bigw := bg 385 rfl rfl
set_option maxRecDepth 20000 in
theorem kf_M_46 : Cond.fieldLink R_M 46 "ClusterImageModel" "awaited" "[I" ∈ bigw := bg 386 rfl rfl
set_option maxRecDepth 20000 in
theorem kf_M_49 : Cond.fieldLink R_M 49 "ClusterImageModel" "page" "[I" ∈ bigw := bg 387 rfl rfl
set_option maxRecDepth 20000 in
theorem kf_M_81 : Cond.fieldLink R_M 81 "ClusterImageModel" "made" "I" ∈ bigw := bg 388 rfl rfl
set_option maxRecDepth 20000 in
theorem kf_M_52 : Cond.fieldLink R_M 52 "ClusterImageModel" "asked" "[I" ∈ bigw := bg 389 rfl rfl
set_option maxRecDepth 20000 in
theorem kf_M_55 : Cond.fieldLink R_M 55 "ClusterImageModel" "askedPage" "[I" ∈ bigw := bg 390 rfl rfl
set_option maxRecDepth 20000 in
theorem kf_M_58 : Cond.fieldLink R_M 58 "ClusterImageModel" "askedWrite" "[Z" ∈ bigw := bg 391 rfl rfl
set_option maxRecDepth 20000 in
theorem kf_M_62 : Cond.fieldLink R_M 62 "ClusterImageModel" "memory" "[I" ∈ bigw := bg 392 rfl rfl
set_option maxRecDepth 20000 in
theorem kf_M_65 : Cond.fieldLink R_M 65 "ClusterImageModel" "rights" "[I" ∈ bigw := bg 393 rfl rfl
set_option maxRecDepth 20000 in
theorem kf_M_68 : Cond.fieldLink R_M 68 "ClusterImageModel" "used" "[I" ∈ bigw := bg 394 rfl rfl
set_option maxRecDepth 20000 in
theorem kf_M_71 : Cond.fieldLink R_M 71 "ClusterImageModel" "owners" "[I" ∈ bigw := bg 395 rfl rfl
set_option maxRecDepth 20000 in
theorem kf_M_74 : Cond.fieldLink R_M 74 "ClusterImageModel" "hints" "[I" ∈ bigw := bg 396 rfl rfl
set_option maxRecDepth 20000 in
theorem kf_M_77 : Cond.fieldLink R_M 77 "ClusterImageModel" "moment" "I" ∈ bigw := bg 397 rfl rfl
set_option maxRecDepth 20000 in
theorem kf_M_132 : Cond.fieldLink R_M 132 "ClusterImageModel" "messages" "I" ∈ bigw := bg 398 rfl rfl
set_option maxRecDepth 20000 in
theorem kf_M_104 : Cond.fieldLink R_M 104 "ClusterImageModel" "faults" "I" ∈ bigw := bg 399 rfl rfl
set_option maxRecDepth 20000 in
theorem kf_M_129 : Cond.fieldLink R_M 129 "ClusterImageModel" "given" "I" ∈ bigw := bg 400 rfl rfl
set_option maxRecDepth 20000 in
theorem kf_M_149 : Cond.fieldLink R_M 149 "ClusterImageModel" "grants" "I" ∈ bigw := bg 401 rfl rfl
set_option maxRecDepth 20000 in
theorem ka_boolean : Cond.arrayClass Jvm.ClassFile.FieldType.boolean ∈ bigw := bg 459 rfl rfl
set_option maxRecDepth 20000 in
theorem km_law_17 : Cond.methodLink RL 17 y_M_instr ∈ bigw := bg 460 rfl rfl
set_option maxRecDepth 20000 in
theorem km_M_84 : Cond.methodLink R_M 84 y_M_out ∈ bigw := bg 464 rfl rfl
set_option maxRecDepth 20000 in
theorem km_law_22 : Cond.methodLink RL 22 y_M_spawn ∈ bigw := bg 467 rfl rfl
set_option maxRecDepth 20000 in
theorem km_M_96 : Cond.methodLink R_M 96 y_M_make ∈ bigw := bg 471 rfl rfl
set_option maxRecDepth 20000 in
theorem km_M_92 : Cond.methodLink R_M 92 y_M_ready ∈ bigw := bg 475 rfl rfl
set_option maxRecDepth 20000 in
theorem km_M_88 : Cond.methodLink R_M 88 y_M_tick ∈ bigw := bg 479 rfl rfl
set_option maxRecDepth 20000 in
theorem km_law_27 : Cond.methodLink RL 27 y_M_step ∈ bigw := bg 483 rfl rfl
set_option maxRecDepth 20000 in
theorem km_M_118 : Cond.methodLink R_M 118 y_M_standing ∈ bigw := bg 487 rfl rfl
set_option maxRecDepth 20000 in
theorem km_M_114 : Cond.methodLink R_M 114 y_M_end ∈ bigw := bg 491 rfl rfl
set_option maxRecDepth 20000 in
theorem km_M_121 : Cond.methodLink R_M 121 y_M_fault ∈ bigw := bg 495 rfl rfl
set_option maxRecDepth 20000 in
theorem km_M_125 : Cond.methodLink R_M 125 y_M_perform ∈ bigw := bg 499 rfl rfl
set_option maxRecDepth 20000 in
theorem km_M_107 : Cond.methodLink R_M 107 y_M_touch ∈ bigw := bg 503 rfl rfl
set_option maxRecDepth 20000 in
theorem km_M_100 : Cond.methodLink R_M 100 y_M_noProcess ∈ bigw := bg 507 rfl rfl
set_option maxRecDepth 20000 in
theorem km_M_111 : Cond.methodLink R_M 111 y_M_ended ∈ bigw := bg 511 rfl rfl
set_option maxRecDepth 20000 in
theorem km_law_31 : Cond.methodLink RL 31 y_M_serve ∈ bigw := bg 515 rfl rfl
set_option maxRecDepth 20000 in
theorem km_M_135 : Cond.methodLink R_M 135 y_M_firstAsking ∈ bigw := bg 519 rfl rfl
set_option maxRecDepth 20000 in
theorem km_M_139 : Cond.methodLink R_M 139 y_M_held ∈ bigw := bg 523 rfl rfl
set_option maxRecDepth 20000 in
theorem km_M_142 : Cond.methodLink R_M 142 y_M_giveUp ∈ bigw := bg 527 rfl rfl
set_option maxRecDepth 20000 in
theorem km_M_145 : Cond.methodLink R_M 145 y_M_share ∈ bigw := bg 531 rfl rfl
set_option maxRecDepth 20000 in
theorem km_law_35 : Cond.methodLink RL 35 y_M_migrate ∈ bigw := bg 535 rfl rfl
set_option maxRecDepth 20000 in
theorem km_law_39 : Cond.methodLink RL 39 y_M_find ∈ bigw := bg 539 rfl rfl
set_option maxRecDepth 20000 in
theorem km_law_44 : Cond.methodLink RL 44 y_M_reg ∈ bigw := bg 543 rfl rfl
set_option maxRecDepth 20000 in
theorem kg_M_152 : Cond.constantLong R_M 152 (10000000000 : Int64) ∈ bigw := bg 547 rfl rfl
set_option maxRecDepth 20000 in
theorem km_law_48 : Cond.methodLink RL 48 y_M_info ∈ bigw := bg 548 rfl rfl
set_option maxRecDepth 20000 in
theorem km_law_52 : Cond.methodLink RL 52 y_M_line ∈ bigw := bg 552 rfl rfl
set_option maxRecDepth 20000 in
theorem km_law_57 : Cond.methodLink RL 57 y_M_word ∈ bigw := bg 556 rfl rfl
set_option maxRecDepth 20000 in
theorem km_law_61 : Cond.methodLink RL 61 y_M_copy ∈ bigw := bg 560 rfl rfl
set_option maxRecDepth 20000 in
theorem km_law_65 : Cond.methodLink RL 65 y_M_right ∈ bigw := bg 564 rfl rfl
set_option maxRecDepth 20000 in
theorem km_law_69 : Cond.methodLink RL 69 y_M_owner ∈ bigw := bg 568 rfl rfl
set_option maxRecDepth 20000 in
theorem km_law_73 : Cond.methodLink RL 73 y_M_count ∈ bigw := bg 572 rfl rfl
