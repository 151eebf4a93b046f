def zTB : List Cond := lw_tbl.filter goodWord
theorem zmem {w : Cond} (i : Nat) (h : lw_tbl[i]? = some w) (hg : goodWord w = true) : w ∈ zTB := List.mem_filter.mpr ⟨List.mem_of_getElem? h, hg⟩
theorem zmem0 {w : Cond} (h : w ∈ k2_sels lw_privs) (hg : goodWord w = true) : w ∈ zTB := List.mem_filter.mpr ⟨List.mem_append_left _ h, hg⟩
theorem zmem1 {w : Cond} (h : w ∈ tables_1_1) (hg : goodWord w = true) : w ∈ zTB := List.mem_filter.mpr ⟨List.mem_append_right _ (List.mem_append_left _ h), hg⟩
theorem zmem2 {w : Cond} (h : w ∈ tables_1_2) (hg : goodWord w = true) : w ∈ zTB := List.mem_filter.mpr ⟨List.mem_append_right _ (List.mem_append_right _ (List.mem_append_left _ h)), hg⟩
theorem zmem3 {w : Cond} (h : w ∈ tables_1_3) (hg : goodWord w = true) : w ∈ zTB := List.mem_filter.mpr ⟨List.mem_append_right _ (List.mem_append_right _ (List.mem_append_right _ (List.mem_append_left _ h))), hg⟩
theorem zmem4 {w : Cond} (h : w ∈ tables_1_4) (hg : goodWord w = true) : w ∈ zTB := List.mem_filter.mpr ⟨List.mem_append_right _ (List.mem_append_right _ (List.mem_append_right _ (List.mem_append_right _ (List.mem_append_left _ h)))), hg⟩
theorem zmem5 {w : Cond} (h : w ∈ tables_1_5) (hg : goodWord w = true) : w ∈ zTB := List.mem_filter.mpr ⟨List.mem_append_right _ (List.mem_append_right _ (List.mem_append_right _ (List.mem_append_right _ (List.mem_append_right _ (List.mem_append_left _ h))))), hg⟩
theorem zmem6 {w : Cond} (h : w ∈ tables_1_6) (hg : goodWord w = true) : w ∈ zTB := List.mem_filter.mpr ⟨List.mem_append_right _ (List.mem_append_right _ (List.mem_append_right _ (List.mem_append_right _ (List.mem_append_right _ (List.mem_append_right _ (List.mem_append_left _ h)))))), hg⟩
theorem zmem7 {w : Cond} (h : w ∈ tables_1_7) (hg : goodWord w = true) : w ∈ zTB := List.mem_filter.mpr ⟨List.mem_append_right _ (List.mem_append_right _ (List.mem_append_right _ (List.mem_append_right _ (List.mem_append_right _ (List.mem_append_right _ (List.mem_append_right _ (h))))))), hg⟩
theorem zTB_good {w : Cond} (h : w ∈ zTB) : w ∈ zTB ∧ ((w.onTables && w.keeps) = true ∨ ∃ ty, w = .arrayClass ty) := ⟨h, good_of_word (List.mem_filter.mp h).2⟩
theorem zgood {ws : List Cond} (h : ∀ w ∈ ws, w ∈ zTB) : GoodIn zTB ws := fun w hw => zTB_good (h w hw)
theorem zgV {own C : String} {idx : Nat} {y : MethodName} {k : Cond} (h1 : Cond.methodLink own idx y ∈ zTB) (h2 : Cond.instanceMethod y ∈ zTB) (h3 : Cond.selects C y y ∈ zTB) (h4 : Cond.initialized C ∈ zTB) (h5 : k ∈ zTB) : GoodIn zTB (wsV own idx C y (k :: zTB)) := by
  refine zgood (fun w hw => ?_)
  simp only [wsV, List.cons_append, List.nil_append, List.mem_cons] at hw
  rcases hw with rfl | rfl | rfl | rfl | rfl | hw <;> assumption
theorem zgS {own : String} {idx : Nat} {y : MethodName} {k : Cond} (h1 : Cond.methodLink own idx y ∈ zTB) (h2 : Cond.static y ∈ zTB) (h4 : Cond.initialized y.cls ∈ zTB) (h5 : k ∈ zTB) : GoodIn zTB (va_wsS own idx y (k :: zTB)) := by
  refine zgood (fun w hw => ?_)
  simp only [va_wsS, List.cons_append, List.nil_append, List.mem_cons] at hw
  rcases hw with rfl | rfl | rfl | rfl | hw <;> assumption
theorem zmemU (ws : List Cond) (ps : List Nat) (hp : ws = ps.filterMap (fun i => lw_tbl[i]?)) (h : ws.all goodWord = true) : ∀ w ∈ ws, w ∈ zTB := by
  intro w hw
  have h1 := List.all_eq_true.mp h w hw
  rw [hp] at hw
  obtain ⟨i, -, hi⟩ := List.mem_filterMap.mp hw
  exact zmem i hi h1
theorem mS_X8_takeNumber : Cond.selects RX8 yX8_takeNumber yX8_takeNumber ∈ zTB := zmem0 (List.mem_of_getElem? (i := 0) rfl) rfl
theorem mS_X8_takeWord : Cond.selects RX8 yX8_takeWord yX8_takeWord ∈ zTB := zmem0 (List.mem_of_getElem? (i := 1) rfl) rfl
theorem mS_X8_kindOfWord : Cond.selects RX8 yX8_kindOfWord yX8_kindOfWord ∈ zTB := zmem0 (List.mem_of_getElem? (i := 2) rfl) rfl
theorem mS_X5_readDefinition : Cond.selects RX5 yX5_readDefinition yX5_readDefinition ∈ zTB := zmem0 (List.mem_of_getElem? (i := 3) rfl) rfl
theorem mS_X5_cannotStand : Cond.selects RX5 yX5_cannotStand yX5_cannotStand ∈ zTB := zmem0 (List.mem_of_getElem? (i := 4) rfl) rfl
theorem mS_X5_fail : Cond.selects RX5 yX5_fail yX5_fail ∈ zTB := zmem0 (List.mem_of_getElem? (i := 5) rfl) rfl
theorem mS_X5_readParameters : Cond.selects RX5 yX5_readParameters yX5_readParameters ∈ zTB := zmem0 (List.mem_of_getElem? (i := 6) rfl) rfl
theorem mS_X5_take : Cond.selects RX5 yX5_take yX5_take ∈ zTB := zmem0 (List.mem_of_getElem? (i := 7) rfl) rfl
theorem mS_X5_readExpr : Cond.selects RX5 yX5_readExpr yX5_readExpr ∈ zTB := zmem0 (List.mem_of_getElem? (i := 8) rfl) rfl
theorem mS_X5_readLet : Cond.selects RX5 yX5_readLet yX5_readLet ∈ zTB := zmem0 (List.mem_of_getElem? (i := 9) rfl) rfl
theorem mS_X4_addDeed_ : Cond.selects RX4 yX4_addDeed_ yX4_addDeed_ ∈ zTB := zmem0 (List.mem_of_getElem? (i := 10) rfl) rfl
theorem mS_X5_readBinding : Cond.selects RX5 yX5_readBinding yX5_readBinding ∈ zTB := zmem0 (List.mem_of_getElem? (i := 11) rfl) rfl
theorem mS_X5_readAtoms : Cond.selects RX5 yX5_readAtoms yX5_readAtoms ∈ zTB := zmem0 (List.mem_of_getElem? (i := 12) rfl) rfl
theorem mS_X5_beginsAtom : Cond.selects RX5 yX5_beginsAtom yX5_beginsAtom ∈ zTB := zmem0 (List.mem_of_getElem? (i := 13) rfl) rfl
theorem mS_X5_readAtom : Cond.selects RX5 yX5_readAtom yX5_readAtom ∈ zTB := zmem0 (List.mem_of_getElem? (i := 14) rfl) rfl
theorem mS_X5_readWithin : Cond.selects RX5 yX5_readWithin yX5_readWithin ∈ zTB := zmem0 (List.mem_of_getElem? (i := 15) rfl) rfl
theorem mS_X4_countNodes : Cond.selects RX4 yX4_countNodes yX4_countNodes ∈ zTB := zmem0 (List.mem_of_getElem? (i := 16) rfl) rfl
theorem mS_X5_checkNames : Cond.selects RX5 yX5_checkNames yX5_checkNames ∈ zTB := zmem0 (List.mem_of_getElem? (i := 17) rfl) rfl
theorem mS_X9_forgetSweeps : Cond.selects RX9 yX9_forgetSweeps yX9_forgetSweeps ∈ zTB := zmem0 (List.mem_of_getElem? (i := 18) rfl) rfl
theorem mS_X9_goOn : Cond.selects RX9 yX9_goOn yX9_goOn ∈ zTB := zmem0 (List.mem_of_getElem? (i := 19) rfl) rfl
theorem mS_X6_beginOf : Cond.selects RX6 yX6_beginOf yX6_beginOf ∈ zTB := zmem0 (List.mem_of_getElem? (i := 20) rfl) rfl
theorem mS_X2_valueOnTop : Cond.selects RX2 yX2_valueOnTop yX2_valueOnTop ∈ zTB := zmem0 (List.mem_of_getElem? (i := 21) rfl) rfl
theorem mS_X2_lookAtThings : Cond.selects RX2 yX2_lookAtThings yX2_lookAtThings ∈ zTB := zmem0 (List.mem_of_getElem? (i := 22) rfl) rfl
theorem mS_X2_secondBelow : Cond.selects RX2 yX2_secondBelow yX2_secondBelow ∈ zTB := zmem0 (List.mem_of_getElem? (i := 23) rfl) rfl
theorem mS_X2_failing : Cond.selects RX2 yX2_failing yX2_failing ∈ zTB := zmem0 (List.mem_of_getElem? (i := 24) rfl) rfl
theorem mS_X2_isValue : Cond.selects RX2 yX2_isValue yX2_isValue ∈ zTB := zmem0 (List.mem_of_getElem? (i := 25) rfl) rfl
theorem mS_X2_lookAtValues : Cond.selects RX2 yX2_lookAtValues yX2_lookAtValues ∈ zTB := zmem0 (List.mem_of_getElem? (i := 26) rfl) rfl
theorem mS_X2_isNil : Cond.selects RX2 yX2_isNil yX2_isNil ∈ zTB := zmem0 (List.mem_of_getElem? (i := 27) rfl) rfl
theorem mS_X2_hasRoomFor : Cond.selects RX2 yX2_hasRoomFor yX2_hasRoomFor ∈ zTB := zmem0 (List.mem_of_getElem? (i := 28) rfl) rfl
theorem mS_X2_perform : Cond.selects RX2 yX2_perform yX2_perform ∈ zTB := zmem0 (List.mem_of_getElem? (i := 29) rfl) rfl
theorem mS_X2_makeFunction : Cond.selects RX2 yX2_makeFunction yX2_makeFunction ∈ zTB := zmem0 (List.mem_of_getElem? (i := 30) rfl) rfl
theorem mS_X3_doDeed : Cond.selects RX3 yX3_doDeed yX3_doDeed ∈ zTB := zmem0 (List.mem_of_getElem? (i := 31) rfl) rfl
theorem mS_X3_letWait : Cond.selects RX3 yX3_letWait yX3_letWait ∈ zTB := zmem0 (List.mem_of_getElem? (i := 32) rfl) rfl
theorem mS_X3_applyWaiting : Cond.selects RX3 yX3_applyWaiting yX3_applyWaiting ∈ zTB := zmem0 (List.mem_of_getElem? (i := 33) rfl) rfl
theorem mS_X3_addPointers : Cond.selects RX3 yX3_addPointers yX3_addPointers ∈ zTB := zmem0 (List.mem_of_getElem? (i := 34) rfl) rfl
theorem mS_X3_takeWaiting : Cond.selects RX3 yX3_takeWaiting yX3_takeWaiting ∈ zTB := zmem0 (List.mem_of_getElem? (i := 35) rfl) rfl
theorem mS_X3_bind : Cond.selects RX3 yX3_bind yX3_bind ∈ zTB := zmem0 (List.mem_of_getElem? (i := 36) rfl) rfl
theorem mS_X2_workOut : Cond.selects RX2 yX2_workOut yX2_workOut ∈ zTB := zmem0 (List.mem_of_getElem? (i := 37) rfl) rfl
theorem mS_X1_findKept : Cond.selects RX1 yX1_findKept yX1_findKept ∈ zTB := zmem0 (List.mem_of_getElem? (i := 38) rfl) rfl
theorem mS_X1_markBeginnings : Cond.selects RX1 yX1_markBeginnings yX1_markBeginnings ∈ zTB := zmem0 (List.mem_of_getElem? (i := 39) rfl) rfl
theorem mS_X1_addFound : Cond.selects RX1 yX1_addFound yX1_addFound ∈ zTB := zmem0 (List.mem_of_getElem? (i := 40) rfl) rfl
theorem mS_X1_comeTo : Cond.selects RX1 yX1_comeTo yX1_comeTo ∈ zTB := zmem0 (List.mem_of_getElem? (i := 41) rfl) rfl
theorem mS_X1_lengthOf : Cond.selects RX1 yX1_lengthOf yX1_lengthOf ∈ zTB := zmem0 (List.mem_of_getElem? (i := 42) rfl) rfl
theorem mS_X10_token : Cond.selects RX10 yX10_token yX10_token ∈ zTB := zmem0 (List.mem_of_getElem? (i := 44) rfl) rfl
theorem mS_X10_at : Cond.selects RX10 yX10_at yX10_at ∈ zTB := zmem0 (List.mem_of_getElem? (i := 45) rfl) rfl
theorem mS_X10_definition : Cond.selects RX10 yX10_definition yX10_definition ∈ zTB := zmem0 (List.mem_of_getElem? (i := 46) rfl) rfl
theorem mS_X10_can : Cond.selects RX10 yX10_can yX10_can ∈ zTB := zmem0 (List.mem_of_getElem? (i := 47) rfl) rfl
theorem mS_X10_fail : Cond.selects RX10 yX10_fail yX10_fail ∈ zTB := zmem0 (List.mem_of_getElem? (i := 48) rfl) rfl
theorem mS_X10_room : Cond.selects RX10 yX10_room yX10_room ∈ zTB := zmem0 (List.mem_of_getElem? (i := 49) rfl) rfl
theorem mS_X10_need : Cond.selects RX10 yX10_need yX10_need ∈ zTB := zmem0 (List.mem_of_getElem? (i := 50) rfl) rfl
theorem mS_X10_expression : Cond.selects RX10 yX10_expression yX10_expression ∈ zTB := zmem0 (List.mem_of_getElem? (i := 51) rfl) rfl
theorem mS_X10_push : Cond.selects RX10 yX10_push yX10_push ∈ zTB := zmem0 (List.mem_of_getElem? (i := 52) rfl) rfl
theorem mS_X10_atoms : Cond.selects RX10 yX10_atoms yX10_atoms ∈ zTB := zmem0 (List.mem_of_getElem? (i := 53) rfl) rfl
theorem mS_X10_emit : Cond.selects RX10 yX10_emit yX10_emit ∈ zTB := zmem0 (List.mem_of_getElem? (i := 54) rfl) rfl
theorem mS_X10_let : Cond.selects RX10 yX10_let yX10_let ∈ zTB := zmem0 (List.mem_of_getElem? (i := 55) rfl) rfl
theorem mS_X10_resolve : Cond.selects RX10 yX10_resolve yX10_resolve ∈ zTB := zmem0 (List.mem_of_getElem? (i := 56) rfl) rfl
theorem mS_X10_find : Cond.selects RX10 yX10_find yX10_find ∈ zTB := zmem0 (List.mem_of_getElem? (i := 57) rfl) rfl
theorem mS_X10_begin : Cond.selects RX10 yX10_begin yX10_begin ∈ zTB := zmem0 (List.mem_of_getElem? (i := 58) rfl) rfl
theorem mS_X10_node : Cond.selects RX10 yX10_node yX10_node ∈ zTB := zmem0 (List.mem_of_getElem? (i := 59) rfl) rfl
theorem mS_X10_look : Cond.selects RX10 yX10_look yX10_look ∈ zTB := zmem0 (List.mem_of_getElem? (i := 60) rfl) rfl
theorem mS_X10_topNode : Cond.selects RX10 yX10_topNode yX10_topNode ∈ zTB := zmem0 (List.mem_of_getElem? (i := 61) rfl) rfl
theorem mS_X10_size : Cond.selects RX10 yX10_size yX10_size ∈ zTB := zmem0 (List.mem_of_getElem? (i := 62) rfl) rfl
theorem mS_X10_lookPrimitive : Cond.selects RX10 yX10_lookPrimitive yX10_lookPrimitive ∈ zTB := zmem0 (List.mem_of_getElem? (i := 63) rfl) rfl
theorem mS_X10_thing : Cond.selects RX10 yX10_thing yX10_thing ∈ zTB := zmem0 (List.mem_of_getElem? (i := 64) rfl) rfl
theorem mS_X10_followed : Cond.selects RX10 yX10_followed yX10_followed ∈ zTB := zmem0 (List.mem_of_getElem? (i := 65) rfl) rfl
theorem mS_X10_isValue : Cond.selects RX10 yX10_isValue yX10_isValue ∈ zTB := zmem0 (List.mem_of_getElem? (i := 66) rfl) rfl
theorem mS_X10_stepOne : Cond.selects RX10 yX10_stepOne yX10_stepOne ∈ zTB := zmem0 (List.mem_of_getElem? (i := 67) rfl) rfl
theorem mS_X10_isFull : Cond.selects RX10 yX10_isFull yX10_isFull ∈ zTB := zmem0 (List.mem_of_getElem? (i := 68) rfl) rfl
theorem mS_X10_build : Cond.selects RX10 yX10_build yX10_build ∈ zTB := zmem0 (List.mem_of_getElem? (i := 69) rfl) rfl
theorem mS_X10_become : Cond.selects RX10 yX10_become yX10_become ∈ zTB := zmem0 (List.mem_of_getElem? (i := 70) rfl) rfl
theorem mS_X10_compute : Cond.selects RX10 yX10_compute yX10_compute ∈ zTB := zmem0 (List.mem_of_getElem? (i := 71) rfl) rfl
theorem mS_X10_sweepAll : Cond.selects RX10 yX10_sweepAll yX10_sweepAll ∈ zTB := zmem0 (List.mem_of_getElem? (i := 72) rfl) rfl
theorem mS_X10_findKept : Cond.selects RX10 yX10_findKept yX10_findKept ∈ zTB := zmem0 (List.mem_of_getElem? (i := 73) rfl) rfl
theorem mS_X10_keep : Cond.selects RX10 yX10_keep yX10_keep ∈ zTB := zmem0 (List.mem_of_getElem? (i := 74) rfl) rfl
theorem mS_X10_isNode : Cond.selects RX10 yX10_isNode yX10_isNode ∈ zTB := zmem0 (List.mem_of_getElem? (i := 75) rfl) rfl
theorem mS_X10_holders : Cond.selects RX10 yX10_holders yX10_holders ∈ zTB := zmem0 (List.mem_of_getElem? (i := 76) rfl) rfl
theorem mS_X10_isRoot : Cond.selects RX10 yX10_isRoot yX10_isRoot ∈ zTB := zmem0 (List.mem_of_getElem? (i := 77) rfl) rfl
theorem mN_L : Cond.initialized RL ∈ zTB := zmem1 (List.mem_of_getElem? (i := 0) rfl) rfl
theorem mN_X9 : Cond.initialized RX9 ∈ zTB := zmem1 (List.mem_of_getElem? (i := 1) rfl) rfl
theorem mN_X7 : Cond.initialized RX7 ∈ zTB := zmem1 (List.mem_of_getElem? (i := 2) rfl) rfl
theorem mN_X4 : Cond.initialized RX4 ∈ zTB := zmem1 (List.mem_of_getElem? (i := 3) rfl) rfl
theorem mN_X5 : Cond.initialized RX5 ∈ zTB := zmem1 (List.mem_of_getElem? (i := 4) rfl) rfl
theorem mN_X8 : Cond.initialized RX8 ∈ zTB := zmem1 (List.mem_of_getElem? (i := 5) rfl) rfl
theorem mN_X0 : Cond.initialized RX0 ∈ zTB := zmem1 (List.mem_of_getElem? (i := 10) rfl) rfl
theorem mN_X6 : Cond.initialized RX6 ∈ zTB := zmem1 (List.mem_of_getElem? (i := 11) rfl) rfl
theorem mN_X2 : Cond.initialized RX2 ∈ zTB := zmem1 (List.mem_of_getElem? (i := 12) rfl) rfl
theorem mN_X3 : Cond.initialized RX3 ∈ zTB := zmem1 (List.mem_of_getElem? (i := 13) rfl) rfl
theorem mN_X1 : Cond.initialized RX1 ∈ zTB := zmem1 (List.mem_of_getElem? (i := 14) rfl) rfl
theorem mN_X10 : Cond.initialized RX10 ∈ zTB := zmem1 (List.mem_of_getElem? (i := 15) rfl) rfl
theorem mB_L_8 : Cond.classLink RL 8 RX9 ∈ zTB := zmem1 (List.mem_of_getElem? (i := 20) rfl) rfl
theorem mW_X9 : Cond.instantiable RX9 13 ∈ zTB := zmem1 (List.mem_of_getElem? (i := 21) rfl) rfl
theorem mL_L_15 : Cond.methodLink RL 15 yX9_init ∈ zTB := zmem1 (List.mem_of_getElem? (i := 22) rfl) rfl
theorem mI_X9_init : Cond.instanceMethod yX9_init ∈ zTB := zmem1 (List.mem_of_getElem? (i := 23) rfl) rfl
theorem mC_X9_init : Cond.code yX9_init cX9_init 1 none ∈ zTB := zmem1 (List.mem_of_getElem? (i := 24) rfl) rfl
theorem mL_X9_1 : Cond.methodLink RX9 1 ⟨"java/lang/Object", "<init>", "()V"⟩ ∈ zTB := zmem1 (List.mem_of_getElem? (i := 25) rfl) rfl
theorem mB_X9_7 : Cond.classLink RX9 7 RX7 ∈ zTB := zmem1 (List.mem_of_getElem? (i := 28) rfl) rfl
theorem mW_X7 : Cond.instantiable RX7 2 ∈ zTB := zmem1 (List.mem_of_getElem? (i := 29) rfl) rfl
theorem mI_X7_init : Cond.instanceMethod yX7_init ∈ zTB := zmem1 (List.mem_of_getElem? (i := 31) rfl) rfl
theorem mC_X7_init : Cond.code yX7_init cX7_init 1 none ∈ zTB := zmem1 (List.mem_of_getElem? (i := 32) rfl) rfl
theorem mL_X7_3 : Cond.methodLink RX7 3 ⟨"java/lang/Object", "<init>", "()V"⟩ ∈ zTB := zmem1 (List.mem_of_getElem? (i := 33) rfl) rfl
theorem mF_X7_9 : Cond.fieldLink RX7 9 "NeedSteps$Tape" "bytes" "[B" ∈ zTB := zmem1 (List.mem_of_getElem? (i := 34) rfl) rfl
theorem mF_X7_15 : Cond.fieldLink RX7 15 "NeedSteps$Tape" "length" "I" ∈ zTB := zmem1 (List.mem_of_getElem? (i := 35) rfl) rfl
theorem mA_byte : Cond.arrayClass .byte ∈ zTB := zmem1 (List.mem_of_getElem? (i := 41) rfl) rfl
theorem mB_X9_16 : Cond.classLink RX9 16 RX4 ∈ zTB := zmem1 (List.mem_of_getElem? (i := 42) rfl) rfl
theorem mW_X4 : Cond.instantiable RX4 12 ∈ zTB := zmem1 (List.mem_of_getElem? (i := 43) rfl) rfl
theorem mI_X4_init : Cond.instanceMethod yX4_init ∈ zTB := zmem1 (List.mem_of_getElem? (i := 45) rfl) rfl
theorem mC_X4_init : Cond.code yX4_init cX4_init 1 none ∈ zTB := zmem1 (List.mem_of_getElem? (i := 46) rfl) rfl
theorem mL_X4_3 : Cond.methodLink RX4 3 ⟨"java/lang/Object", "<init>", "()V"⟩ ∈ zTB := zmem1 (List.mem_of_getElem? (i := 47) rfl) rfl
theorem mF_X4_9 : Cond.fieldLink RX4 9 "NeedSteps$Program" "names" "[J" ∈ zTB := zmem1 (List.mem_of_getElem? (i := 48) rfl) rfl
theorem mF_X4_15 : Cond.fieldLink RX4 15 "NeedSteps$Program" "parameters" "[I" ∈ zTB := zmem1 (List.mem_of_getElem? (i := 49) rfl) rfl
theorem mF_X4_19 : Cond.fieldLink RX4 19 "NeedSteps$Program" "begins" "[I" ∈ zTB := zmem1 (List.mem_of_getElem? (i := 50) rfl) rfl
theorem mF_X4_22 : Cond.fieldLink RX4 22 "NeedSteps$Program" "ends" "[I" ∈ zTB := zmem1 (List.mem_of_getElem? (i := 51) rfl) rfl
theorem mF_X4_25 : Cond.fieldLink RX4 25 "NeedSteps$Program" "nodes" "[I" ∈ zTB := zmem1 (List.mem_of_getElem? (i := 52) rfl) rfl
theorem mF_X4_28 : Cond.fieldLink RX4 28 "NeedSteps$Program" "size" "I" ∈ zTB := zmem1 (List.mem_of_getElem? (i := 53) rfl) rfl
theorem mF_X4_32 : Cond.fieldLink RX4 32 "NeedSteps$Program" "deeds" "[I" ∈ zTB := zmem1 (List.mem_of_getElem? (i := 54) rfl) rfl
theorem mF_X4_35 : Cond.fieldLink RX4 35 "NeedSteps$Program" "abouts" "[I" ∈ zTB := zmem1 (List.mem_of_getElem? (i := 55) rfl) rfl
theorem mF_X4_38 : Cond.fieldLink RX4 38 "NeedSteps$Program" "firstSlots" "[I" ∈ zTB := zmem1 (List.mem_of_getElem? (i := 56) rfl) rfl
theorem mF_X4_41 : Cond.fieldLink RX4 41 "NeedSteps$Program" "deedNames" "[J" ∈ zTB := zmem1 (List.mem_of_getElem? (i := 57) rfl) rfl
theorem mF_X4_44 : Cond.fieldLink RX4 44 "NeedSteps$Program" "deedPlaces" "[I" ∈ zTB := zmem1 (List.mem_of_getElem? (i := 58) rfl) rfl
theorem mF_X4_47 : Cond.fieldLink RX4 47 "NeedSteps$Program" "deedCount" "I" ∈ zTB := zmem1 (List.mem_of_getElem? (i := 59) rfl) rfl
theorem mA_long : Cond.arrayClass .long ∈ zTB := zmem1 (List.mem_of_getElem? (i := 85) rfl) rfl
theorem mA_int : Cond.arrayClass .int ∈ zTB := zmem1 (List.mem_of_getElem? (i := 86) rfl) rfl
theorem mB_X9_23 : Cond.classLink RX9 23 RX5 ∈ zTB := zmem1 (List.mem_of_getElem? (i := 87) rfl) rfl
theorem mW_X5 : Cond.instantiable RX5 6 ∈ zTB := zmem1 (List.mem_of_getElem? (i := 88) rfl) rfl
theorem mB_X9_25 : Cond.classLink RX9 25 RX8 ∈ zTB := zmem1 (List.mem_of_getElem? (i := 89) rfl) rfl
theorem mW_X8 : Cond.instantiable RX8 7 ∈ zTB := zmem1 (List.mem_of_getElem? (i := 90) rfl) rfl
theorem mL_X9_27 : Cond.methodLink RX9 27 yX8_init ∈ zTB := zmem1 (List.mem_of_getElem? (i := 91) rfl) rfl
theorem mI_X8_init : Cond.instanceMethod yX8_init ∈ zTB := zmem1 (List.mem_of_getElem? (i := 92) rfl) rfl
theorem mC_X8_init : Cond.code yX8_init cX8_init 7 none ∈ zTB := zmem1 (List.mem_of_getElem? (i := 93) rfl) rfl
theorem mL_X8_3 : Cond.methodLink RX8 3 ⟨"java/lang/Object", "<init>", "()V"⟩ ∈ zTB := zmem1 (List.mem_of_getElem? (i := 94) rfl) rfl
theorem mL_X8_38 : Cond.methodLink RX8 38 ⟨"java/lang/String", "length", "()I"⟩ ∈ zTB := zmem1 (List.mem_of_getElem? (i := 96) rfl) rfl
theorem mL_X8_44 : Cond.methodLink RX8 44 ⟨"java/lang/String", "charAt", "(I)C"⟩ ∈ zTB := zmem1 (List.mem_of_getElem? (i := 106) rfl) rfl
theorem mF_X8_32 : Cond.fieldLink RX8 32 "NeedSteps$Tokens" "tape" "LNeedSteps$Tape;" ∈ zTB := zmem1 (List.mem_of_getElem? (i := 144) rfl) rfl
theorem mF_X8_11 : Cond.fieldLink RX8 11 "NeedSteps$Tokens" "words" "[J" ∈ zTB := zmem1 (List.mem_of_getElem? (i := 145) rfl) rfl
theorem mF_X8_15 : Cond.fieldLink RX8 15 "NeedSteps$Tokens" "at" "I" ∈ zTB := zmem1 (List.mem_of_getElem? (i := 146) rfl) rfl
theorem mF_X8_19 : Cond.fieldLink RX8 19 "NeedSteps$Tokens" "kind" "I" ∈ zTB := zmem1 (List.mem_of_getElem? (i := 147) rfl) rfl
theorem mF_X8_22 : Cond.fieldLink RX8 22 "NeedSteps$Tokens" "place" "I" ∈ zTB := zmem1 (List.mem_of_getElem? (i := 148) rfl) rfl
theorem mF_X8_25 : Cond.fieldLink RX8 25 "NeedSteps$Tokens" "value" "I" ∈ zTB := zmem1 (List.mem_of_getElem? (i := 149) rfl) rfl
theorem mF_X8_28 : Cond.fieldLink RX8 28 "NeedSteps$Tokens" "name" "J" ∈ zTB := zmem1 (List.mem_of_getElem? (i := 150) rfl) rfl
theorem mL_X9_30 : Cond.methodLink RX9 30 yX5_init ∈ zTB := zmem1 (List.mem_of_getElem? (i := 166) rfl) rfl
theorem mI_X5_init : Cond.instanceMethod yX5_init ∈ zTB := zmem1 (List.mem_of_getElem? (i := 167) rfl) rfl
theorem mC_X5_init : Cond.code yX5_init cX5_init 3 none ∈ zTB := zmem1 (List.mem_of_getElem? (i := 168) rfl) rfl
theorem mL_X5_3 : Cond.methodLink RX5 3 ⟨"java/lang/Object", "<init>", "()V"⟩ ∈ zTB := zmem1 (List.mem_of_getElem? (i := 169) rfl) rfl
theorem mF_X5_25 : Cond.fieldLink RX5 25 "NeedSteps$Reader" "tokens" "LNeedSteps$Tokens;" ∈ zTB := zmem1 (List.mem_of_getElem? (i := 170) rfl) rfl
theorem mF_X5_29 : Cond.fieldLink RX5 29 "NeedSteps$Reader" "program" "LNeedSteps$Program;" ∈ zTB := zmem1 (List.mem_of_getElem? (i := 171) rfl) rfl
theorem mF_X5_9 : Cond.fieldLink RX5 9 "NeedSteps$Reader" "parameters" "[J" ∈ zTB := zmem1 (List.mem_of_getElem? (i := 172) rfl) rfl
theorem mF_X5_15 : Cond.fieldLink RX5 15 "NeedSteps$Reader" "bound" "[J" ∈ zTB := zmem1 (List.mem_of_getElem? (i := 173) rfl) rfl
theorem mF_X5_18 : Cond.fieldLink RX5 18 "NeedSteps$Reader" "fault" "I" ∈ zTB := zmem1 (List.mem_of_getElem? (i := 174) rfl) rfl
theorem mF_X5_22 : Cond.fieldLink RX5 22 "NeedSteps$Reader" "faultPlace" "I" ∈ zTB := zmem1 (List.mem_of_getElem? (i := 175) rfl) rfl
theorem mB_X9_37 : Cond.classLink RX9 37 RX0 ∈ zTB := zmem1 (List.mem_of_getElem? (i := 189) rfl) rfl
theorem mW_X0 : Cond.instantiable RX0 9 ∈ zTB := zmem1 (List.mem_of_getElem? (i := 190) rfl) rfl
theorem mI_X0_init : Cond.instanceMethod yX0_init ∈ zTB := zmem1 (List.mem_of_getElem? (i := 192) rfl) rfl
theorem mC_X0_init : Cond.code yX0_init cX0_init 1 none ∈ zTB := zmem1 (List.mem_of_getElem? (i := 193) rfl) rfl
theorem mL_X0_3 : Cond.methodLink RX0 3 ⟨"java/lang/Object", "<init>", "()V"⟩ ∈ zTB := zmem1 (List.mem_of_getElem? (i := 194) rfl) rfl
theorem mF_X0_9 : Cond.fieldLink RX0 9 "NeedSteps$Graph" "kinds" "[I" ∈ zTB := zmem1 (List.mem_of_getElem? (i := 195) rfl) rfl
theorem mF_X0_15 : Cond.fieldLink RX0 15 "NeedSteps$Graph" "firsts" "[I" ∈ zTB := zmem1 (List.mem_of_getElem? (i := 196) rfl) rfl
theorem mF_X0_18 : Cond.fieldLink RX0 18 "NeedSteps$Graph" "seconds" "[I" ∈ zTB := zmem1 (List.mem_of_getElem? (i := 197) rfl) rfl
theorem mF_X0_21 : Cond.fieldLink RX0 21 "NeedSteps$Graph" "makers" "[I" ∈ zTB := zmem1 (List.mem_of_getElem? (i := 198) rfl) rfl
theorem mF_X0_24 : Cond.fieldLink RX0 24 "NeedSteps$Graph" "used" "I" ∈ zTB := zmem1 (List.mem_of_getElem? (i := 199) rfl) rfl
theorem mF_X0_28 : Cond.fieldLink RX0 28 "NeedSteps$Graph" "made" "I" ∈ zTB := zmem1 (List.mem_of_getElem? (i := 200) rfl) rfl
theorem mF_X0_31 : Cond.fieldLink RX0 31 "NeedSteps$Graph" "most" "I" ∈ zTB := zmem1 (List.mem_of_getElem? (i := 201) rfl) rfl
theorem mF_X0_34 : Cond.fieldLink RX0 34 "NeedSteps$Graph" "search" "I" ∈ zTB := zmem1 (List.mem_of_getElem? (i := 202) rfl) rfl
theorem mF_X0_37 : Cond.fieldLink RX0 37 "NeedSteps$Graph" "maker" "I" ∈ zTB := zmem1 (List.mem_of_getElem? (i := 203) rfl) rfl
theorem mB_X9_44 : Cond.classLink RX9 44 RX6 ∈ zTB := zmem1 (List.mem_of_getElem? (i := 223) rfl) rfl
theorem mW_X6 : Cond.instantiable RX6 4 ∈ zTB := zmem1 (List.mem_of_getElem? (i := 224) rfl) rfl
theorem mI_X6_init : Cond.instanceMethod yX6_init ∈ zTB := zmem1 (List.mem_of_getElem? (i := 226) rfl) rfl
theorem mC_X6_init : Cond.code yX6_init cX6_init 1 none ∈ zTB := zmem1 (List.mem_of_getElem? (i := 227) rfl) rfl
theorem mL_X6_3 : Cond.methodLink RX6 3 ⟨"java/lang/Object", "<init>", "()V"⟩ ∈ zTB := zmem1 (List.mem_of_getElem? (i := 228) rfl) rfl
theorem mF_X6_9 : Cond.fieldLink RX6 9 "NeedSteps$Stacks" "places" "[I" ∈ zTB := zmem1 (List.mem_of_getElem? (i := 229) rfl) rfl
theorem mF_X6_15 : Cond.fieldLink RX6 15 "NeedSteps$Stacks" "begins" "[I" ∈ zTB := zmem1 (List.mem_of_getElem? (i := 230) rfl) rfl
theorem mF_X6_18 : Cond.fieldLink RX6 18 "NeedSteps$Stacks" "size" "I" ∈ zTB := zmem1 (List.mem_of_getElem? (i := 231) rfl) rfl
theorem mF_X6_22 : Cond.fieldLink RX6 22 "NeedSteps$Stacks" "dumped" "I" ∈ zTB := zmem1 (List.mem_of_getElem? (i := 232) rfl) rfl
theorem mB_X9_51 : Cond.classLink RX9 51 RX2 ∈ zTB := zmem2 (List.mem_of_getElem? (i := 2) rfl) rfl
theorem mW_X2 : Cond.instantiable RX2 11 ∈ zTB := zmem2 (List.mem_of_getElem? (i := 3) rfl) rfl
theorem mL_X9_53 : Cond.methodLink RX9 53 yX2_init ∈ zTB := zmem2 (List.mem_of_getElem? (i := 4) rfl) rfl
theorem mI_X2_init : Cond.instanceMethod yX2_init ∈ zTB := zmem2 (List.mem_of_getElem? (i := 5) rfl) rfl
theorem mC_X2_init : Cond.code yX2_init cX2_init 4 none ∈ zTB := zmem2 (List.mem_of_getElem? (i := 6) rfl) rfl
theorem mL_X2_3 : Cond.methodLink RX2 3 ⟨"java/lang/Object", "<init>", "()V"⟩ ∈ zTB := zmem2 (List.mem_of_getElem? (i := 7) rfl) rfl
theorem mB_X2_46 : Cond.classLink RX2 46 RX3 ∈ zTB := zmem2 (List.mem_of_getElem? (i := 8) rfl) rfl
theorem mW_X3 : Cond.instantiable RX3 6 ∈ zTB := zmem2 (List.mem_of_getElem? (i := 9) rfl) rfl
theorem mL_X2_48 : Cond.methodLink RX2 48 yX3_init ∈ zTB := zmem2 (List.mem_of_getElem? (i := 10) rfl) rfl
theorem mI_X3_init : Cond.instanceMethod yX3_init ∈ zTB := zmem2 (List.mem_of_getElem? (i := 11) rfl) rfl
theorem mC_X3_init : Cond.code yX3_init cX3_init 3 none ∈ zTB := zmem2 (List.mem_of_getElem? (i := 12) rfl) rfl
theorem mL_X3_3 : Cond.methodLink RX3 3 ⟨"java/lang/Object", "<init>", "()V"⟩ ∈ zTB := zmem2 (List.mem_of_getElem? (i := 13) rfl) rfl
theorem mF_X3_25 : Cond.fieldLink RX3 25 "NeedSteps$Maker" "program" "LNeedSteps$Program;" ∈ zTB := zmem2 (List.mem_of_getElem? (i := 14) rfl) rfl
theorem mF_X3_29 : Cond.fieldLink RX3 29 "NeedSteps$Maker" "graph" "LNeedSteps$Graph;" ∈ zTB := zmem2 (List.mem_of_getElem? (i := 15) rfl) rfl
theorem mF_X3_9 : Cond.fieldLink RX3 9 "NeedSteps$Maker" "given" "[I" ∈ zTB := zmem2 (List.mem_of_getElem? (i := 16) rfl) rfl
theorem mF_X3_15 : Cond.fieldLink RX3 15 "NeedSteps$Maker" "bound" "[I" ∈ zTB := zmem2 (List.mem_of_getElem? (i := 17) rfl) rfl
theorem mF_X3_18 : Cond.fieldLink RX3 18 "NeedSteps$Maker" "waiting" "[I" ∈ zTB := zmem2 (List.mem_of_getElem? (i := 18) rfl) rfl
theorem mF_X3_21 : Cond.fieldLink RX3 21 "NeedSteps$Maker" "size" "I" ∈ zTB := zmem2 (List.mem_of_getElem? (i := 19) rfl) rfl
theorem mF_X2_34 : Cond.fieldLink RX2 34 "NeedSteps$Machine" "program" "LNeedSteps$Program;" ∈ zTB := zmem2 (List.mem_of_getElem? (i := 33) rfl) rfl
theorem mF_X2_38 : Cond.fieldLink RX2 38 "NeedSteps$Machine" "graph" "LNeedSteps$Graph;" ∈ zTB := zmem2 (List.mem_of_getElem? (i := 34) rfl) rfl
theorem mF_X2_42 : Cond.fieldLink RX2 42 "NeedSteps$Machine" "stacks" "LNeedSteps$Stacks;" ∈ zTB := zmem2 (List.mem_of_getElem? (i := 35) rfl) rfl
theorem mF_X2_51 : Cond.fieldLink RX2 51 "NeedSteps$Machine" "maker" "LNeedSteps$Maker;" ∈ zTB := zmem2 (List.mem_of_getElem? (i := 36) rfl) rfl
theorem mF_X2_9 : Cond.fieldLink RX2 9 "NeedSteps$Machine" "timesMade" "[I" ∈ zTB := zmem2 (List.mem_of_getElem? (i := 37) rfl) rfl
theorem mF_X2_15 : Cond.fieldLink RX2 15 "NeedSteps$Machine" "nodesMade" "[I" ∈ zTB := zmem2 (List.mem_of_getElem? (i := 38) rfl) rfl
theorem mF_X2_18 : Cond.fieldLink RX2 18 "NeedSteps$Machine" "steps" "I" ∈ zTB := zmem2 (List.mem_of_getElem? (i := 39) rfl) rfl
theorem mF_X2_22 : Cond.fieldLink RX2 22 "NeedSteps$Machine" "error" "I" ∈ zTB := zmem2 (List.mem_of_getElem? (i := 40) rfl) rfl
theorem mF_X2_25 : Cond.fieldLink RX2 25 "NeedSteps$Machine" "needed" "I" ∈ zTB := zmem2 (List.mem_of_getElem? (i := 41) rfl) rfl
theorem mF_X2_28 : Cond.fieldLink RX2 28 "NeedSteps$Machine" "firstThing" "I" ∈ zTB := zmem2 (List.mem_of_getElem? (i := 42) rfl) rfl
theorem mF_X2_31 : Cond.fieldLink RX2 31 "NeedSteps$Machine" "secondThing" "I" ∈ zTB := zmem2 (List.mem_of_getElem? (i := 43) rfl) rfl
theorem mB_X9_60 : Cond.classLink RX9 60 RX1 ∈ zTB := zmem2 (List.mem_of_getElem? (i := 67) rfl) rfl
theorem mW_X1 : Cond.instantiable RX1 7 ∈ zTB := zmem2 (List.mem_of_getElem? (i := 68) rfl) rfl
theorem mL_X9_62 : Cond.methodLink RX9 62 yX1_init ∈ zTB := zmem2 (List.mem_of_getElem? (i := 69) rfl) rfl
theorem mI_X1_init : Cond.instanceMethod yX1_init ∈ zTB := zmem2 (List.mem_of_getElem? (i := 70) rfl) rfl
theorem mC_X1_init : Cond.code yX1_init cX1_init 4 none ∈ zTB := zmem2 (List.mem_of_getElem? (i := 71) rfl) rfl
theorem mL_X1_3 : Cond.methodLink RX1 3 ⟨"java/lang/Object", "<init>", "()V"⟩ ∈ zTB := zmem2 (List.mem_of_getElem? (i := 72) rfl) rfl
theorem mF_X1_25 : Cond.fieldLink RX1 25 "NeedSteps$Keeper" "program" "LNeedSteps$Program;" ∈ zTB := zmem2 (List.mem_of_getElem? (i := 73) rfl) rfl
theorem mF_X1_29 : Cond.fieldLink RX1 29 "NeedSteps$Keeper" "graph" "LNeedSteps$Graph;" ∈ zTB := zmem2 (List.mem_of_getElem? (i := 74) rfl) rfl
theorem mF_X1_33 : Cond.fieldLink RX1 33 "NeedSteps$Keeper" "stacks" "LNeedSteps$Stacks;" ∈ zTB := zmem2 (List.mem_of_getElem? (i := 75) rfl) rfl
theorem mF_X1_9 : Cond.fieldLink RX1 9 "NeedSteps$Keeper" "found" "[I" ∈ zTB := zmem2 (List.mem_of_getElem? (i := 76) rfl) rfl
theorem mF_X1_15 : Cond.fieldLink RX1 15 "NeedSteps$Keeper" "foundCount" "I" ∈ zTB := zmem2 (List.mem_of_getElem? (i := 77) rfl) rfl
theorem mF_X1_19 : Cond.fieldLink RX1 19 "NeedSteps$Keeper" "lengths" "[I" ∈ zTB := zmem2 (List.mem_of_getElem? (i := 78) rfl) rfl
theorem mF_X1_22 : Cond.fieldLink RX1 22 "NeedSteps$Keeper" "aheads" "[I" ∈ zTB := zmem2 (List.mem_of_getElem? (i := 79) rfl) rfl
theorem mF_X9_10 : Cond.fieldLink RX9 10 "NeedSteps" "tape" "LNeedSteps$Tape;" ∈ zTB := zmem2 (List.mem_of_getElem? (i := 95) rfl) rfl
theorem mF_X9_19 : Cond.fieldLink RX9 19 "NeedSteps" "program" "LNeedSteps$Program;" ∈ zTB := zmem2 (List.mem_of_getElem? (i := 96) rfl) rfl
theorem mF_X9_33 : Cond.fieldLink RX9 33 "NeedSteps" "reader" "LNeedSteps$Reader;" ∈ zTB := zmem2 (List.mem_of_getElem? (i := 97) rfl) rfl
theorem mF_X9_40 : Cond.fieldLink RX9 40 "NeedSteps" "graph" "LNeedSteps$Graph;" ∈ zTB := zmem2 (List.mem_of_getElem? (i := 98) rfl) rfl
theorem mF_X9_47 : Cond.fieldLink RX9 47 "NeedSteps" "stacks" "LNeedSteps$Stacks;" ∈ zTB := zmem2 (List.mem_of_getElem? (i := 99) rfl) rfl
theorem mF_X9_56 : Cond.fieldLink RX9 56 "NeedSteps" "machine" "LNeedSteps$Machine;" ∈ zTB := zmem2 (List.mem_of_getElem? (i := 100) rfl) rfl
theorem mF_X9_63 : Cond.fieldLink RX9 63 "NeedSteps" "keeper" "LNeedSteps$Keeper;" ∈ zTB := zmem2 (List.mem_of_getElem? (i := 101) rfl) rfl
theorem mF_X9_67 : Cond.fieldLink RX9 67 "NeedSteps" "sweptAt" "[Z" ∈ zTB := zmem2 (List.mem_of_getElem? (i := 102) rfl) rfl
theorem mF_X9_71 : Cond.fieldLink RX9 71 "NeedSteps" "hasProgram" "Z" ∈ zTB := zmem2 (List.mem_of_getElem? (i := 103) rfl) rfl
theorem mF_X9_75 : Cond.fieldLink RX9 75 "NeedSteps" "fault" "I" ∈ zTB := zmem2 (List.mem_of_getElem? (i := 104) rfl) rfl
theorem mF_X9_79 : Cond.fieldLink RX9 79 "NeedSteps" "state" "I" ∈ zTB := zmem2 (List.mem_of_getElem? (i := 105) rfl) rfl
theorem mF_X9_82 : Cond.fieldLink RX9 82 "NeedSteps" "error" "I" ∈ zTB := zmem2 (List.mem_of_getElem? (i := 106) rfl) rfl
theorem mF_X9_85 : Cond.fieldLink RX9 85 "NeedSteps" "stop" "I" ∈ zTB := zmem2 (List.mem_of_getElem? (i := 107) rfl) rfl
theorem mA_boolean : Cond.arrayClass .boolean ∈ zTB := zmem2 (List.mem_of_getElem? (i := 135) rfl) rfl
theorem mL_L_19 : Cond.methodLink RL 19 yX9_feed ∈ zTB := zmem2 (List.mem_of_getElem? (i := 136) rfl) rfl
theorem mI_X9_feed : Cond.instanceMethod yX9_feed ∈ zTB := zmem2 (List.mem_of_getElem? (i := 137) rfl) rfl
theorem mS_X9_feed : Cond.selects RX9 yX9_feed yX9_feed ∈ zTB := zmem2 (List.mem_of_getElem? (i := 138) rfl) rfl
theorem mC_X9_feed : Cond.code yX9_feed cX9_feed 6 (some .int) ∈ zTB := zmem2 (List.mem_of_getElem? (i := 139) rfl) rfl
theorem mL_X9_88 : Cond.methodLink RX9 88 yX7_size ∈ zTB := zmem2 (List.mem_of_getElem? (i := 140) rfl) rfl
theorem mI_X7_size : Cond.instanceMethod yX7_size ∈ zTB := zmem2 (List.mem_of_getElem? (i := 141) rfl) rfl
theorem mS_X7_size : Cond.selects RX7 yX7_size yX7_size ∈ zTB := zmem2 (List.mem_of_getElem? (i := 142) rfl) rfl
theorem mC_X7_size : Cond.code yX7_size cX7_size 1 (some .int) ∈ zTB := zmem2 (List.mem_of_getElem? (i := 143) rfl) rfl
theorem mL_X9_92 : Cond.methodLink RX9 92 yX7_put ∈ zTB := zmem2 (List.mem_of_getElem? (i := 144) rfl) rfl
theorem mI_X7_put : Cond.instanceMethod yX7_put ∈ zTB := zmem2 (List.mem_of_getElem? (i := 145) rfl) rfl
theorem mS_X7_put : Cond.selects RX7 yX7_put yX7_put ∈ zTB := zmem2 (List.mem_of_getElem? (i := 146) rfl) rfl
theorem mC_X7_put : Cond.code yX7_put cX7_put 3 none ∈ zTB := zmem2 (List.mem_of_getElem? (i := 147) rfl) rfl
theorem mL_L_24 : Cond.methodLink RL 24 yX9_cut ∈ zTB := zmem2 (List.mem_of_getElem? (i := 148) rfl) rfl
theorem mI_X9_cut : Cond.instanceMethod yX9_cut ∈ zTB := zmem2 (List.mem_of_getElem? (i := 149) rfl) rfl
theorem mS_X9_cut : Cond.selects RX9 yX9_cut yX9_cut ∈ zTB := zmem2 (List.mem_of_getElem? (i := 150) rfl) rfl
theorem mC_X9_cut : Cond.code yX9_cut cX9_cut 2 (some .int) ∈ zTB := zmem2 (List.mem_of_getElem? (i := 151) rfl) rfl
theorem mL_X9_96 : Cond.methodLink RX9 96 yX7_keepFirst ∈ zTB := zmem2 (List.mem_of_getElem? (i := 152) rfl) rfl
theorem mI_X7_keepFirst : Cond.instanceMethod yX7_keepFirst ∈ zTB := zmem2 (List.mem_of_getElem? (i := 153) rfl) rfl
theorem mS_X7_keepFirst : Cond.selects RX7 yX7_keepFirst yX7_keepFirst ∈ zTB := zmem2 (List.mem_of_getElem? (i := 154) rfl) rfl
theorem mC_X7_keepFirst : Cond.code yX7_keepFirst cX7_keepFirst 3 (some .int) ∈ zTB := zmem2 (List.mem_of_getElem? (i := 155) rfl) rfl
theorem mL_L_29 : Cond.methodLink RL 29 yX9_read ∈ zTB := zmem2 (List.mem_of_getElem? (i := 156) rfl) rfl
theorem mI_X9_read : Cond.instanceMethod yX9_read ∈ zTB := zmem2 (List.mem_of_getElem? (i := 157) rfl) rfl
theorem mS_X9_read : Cond.selects RX9 yX9_read yX9_read ∈ zTB := zmem2 (List.mem_of_getElem? (i := 158) rfl) rfl
theorem mC_X9_read : Cond.code yX9_read cX9_read 1 (some .int) ∈ zTB := zmem2 (List.mem_of_getElem? (i := 159) rfl) rfl
theorem mL_X9_100 : Cond.methodLink RX9 100 yX5_readProgram ∈ zTB := zmem2 (List.mem_of_getElem? (i := 160) rfl) rfl
theorem mI_X5_readProgram : Cond.instanceMethod yX5_readProgram ∈ zTB := zmem2 (List.mem_of_getElem? (i := 161) rfl) rfl
theorem mS_X5_readProgram : Cond.selects RX5 yX5_readProgram yX5_readProgram ∈ zTB := zmem2 (List.mem_of_getElem? (i := 162) rfl) rfl
theorem mC_X5_readProgram : Cond.code yX5_readProgram cX5_readProgram 3 none ∈ zTB := zmem2 (List.mem_of_getElem? (i := 163) rfl) rfl
theorem mL_X5_33 : Cond.methodLink RX5 33 yX4_clear ∈ zTB := zmem2 (List.mem_of_getElem? (i := 164) rfl) rfl
theorem mI_X4_clear : Cond.instanceMethod yX4_clear ∈ zTB := zmem2 (List.mem_of_getElem? (i := 165) rfl) rfl
theorem mS_X4_clear : Cond.selects RX4 yX4_clear yX4_clear ∈ zTB := zmem2 (List.mem_of_getElem? (i := 166) rfl) rfl
theorem mC_X4_clear : Cond.code yX4_clear cX4_clear 1 none ∈ zTB := zmem2 (List.mem_of_getElem? (i := 167) rfl) rfl
theorem mL_X5_38 : Cond.methodLink RX5 38 yX8_begin ∈ zTB := zmem2 (List.mem_of_getElem? (i := 168) rfl) rfl
theorem mI_X8_begin : Cond.instanceMethod yX8_begin ∈ zTB := zmem2 (List.mem_of_getElem? (i := 169) rfl) rfl
theorem mS_X8_begin : Cond.selects RX8 yX8_begin yX8_begin ∈ zTB := zmem2 (List.mem_of_getElem? (i := 170) rfl) rfl
theorem mC_X8_begin : Cond.code yX8_begin cX8_begin 1 none ∈ zTB := zmem2 (List.mem_of_getElem? (i := 171) rfl) rfl
theorem mL_X8_53 : Cond.methodLink RX8 53 yX8_advance ∈ zTB := zmem2 (List.mem_of_getElem? (i := 172) rfl) rfl
theorem mI_X8_advance : Cond.instanceMethod yX8_advance ∈ zTB := zmem2 (List.mem_of_getElem? (i := 173) rfl) rfl
theorem mS_X8_advance : Cond.selects RX8 yX8_advance yX8_advance ∈ zTB := zmem2 (List.mem_of_getElem? (i := 174) rfl) rfl
theorem mC_X8_advance : Cond.code yX8_advance cX8_advance 2 none ∈ zTB := zmem2 (List.mem_of_getElem? (i := 175) rfl) rfl
theorem mL_X8_56 : Cond.methodLink RX8 56 yX7_byteAt ∈ zTB := zmem2 (List.mem_of_getElem? (i := 176) rfl) rfl
theorem mI_X7_byteAt : Cond.instanceMethod yX7_byteAt ∈ zTB := zmem2 (List.mem_of_getElem? (i := 177) rfl) rfl
theorem mS_X7_byteAt : Cond.selects RX7 yX7_byteAt yX7_byteAt ∈ zTB := zmem2 (List.mem_of_getElem? (i := 178) rfl) rfl
theorem mC_X7_byteAt : Cond.code yX7_byteAt cX7_byteAt 2 (some .int) ∈ zTB := zmem2 (List.mem_of_getElem? (i := 179) rfl) rfl
theorem mL_X8_48 : Cond.methodLink RX8 48 yX7_size ∈ zTB := zmem2 (List.mem_of_getElem? (i := 180) rfl) rfl
theorem mL_X8_60 : Cond.methodLink RX8 60 yX8_isDigit ∈ zTB := zmem2 (List.mem_of_getElem? (i := 181) rfl) rfl
theorem mT_X8_isDigit : Cond.static yX8_isDigit ∈ zTB := zmem2 (List.mem_of_getElem? (i := 182) rfl) rfl
theorem mC_X8_isDigit : Cond.code yX8_isDigit cX8_isDigit 1 (some .boolean) ∈ zTB := zmem2 (List.mem_of_getElem? (i := 183) rfl) rfl
theorem mL_X8_64 : Cond.methodLink RX8 64 yX8_takeNumber ∈ zTB := zmem2 (List.mem_of_getElem? (i := 184) rfl) rfl
theorem mI_X8_takeNumber : Cond.instanceMethod yX8_takeNumber ∈ zTB := zmem2 (List.mem_of_getElem? (i := 186) rfl) rfl
theorem mC_X8_takeNumber : Cond.code yX8_takeNumber cX8_takeNumber 1 none ∈ zTB := zmem2 (List.mem_of_getElem? (i := 187) rfl) rfl
theorem mL_X8_67 : Cond.methodLink RX8 67 yX8_isLetter ∈ zTB := zmem2 (List.mem_of_getElem? (i := 188) rfl) rfl
theorem mT_X8_isLetter : Cond.static yX8_isLetter ∈ zTB := zmem2 (List.mem_of_getElem? (i := 189) rfl) rfl
theorem mC_X8_isLetter : Cond.code yX8_isLetter cX8_isLetter 1 (some .boolean) ∈ zTB := zmem2 (List.mem_of_getElem? (i := 190) rfl) rfl
theorem mL_X8_70 : Cond.methodLink RX8 70 yX8_takeWord ∈ zTB := zmem2 (List.mem_of_getElem? (i := 191) rfl) rfl
theorem mI_X8_takeWord : Cond.instanceMethod yX8_takeWord ∈ zTB := zmem2 (List.mem_of_getElem? (i := 193) rfl) rfl
theorem mC_X8_takeWord : Cond.code yX8_takeWord cX8_takeWord 1 none ∈ zTB := zmem2 (List.mem_of_getElem? (i := 194) rfl) rfl
theorem mL_X8_76 : Cond.methodLink RX8 76 yX8_isLetterOrDigit ∈ zTB := zmem2 (List.mem_of_getElem? (i := 195) rfl) rfl
theorem mT_X8_isLetterOrDigit : Cond.static yX8_isLetterOrDigit ∈ zTB := zmem2 (List.mem_of_getElem? (i := 196) rfl) rfl
theorem mC_X8_isLetterOrDigit : Cond.code yX8_isLetterOrDigit cX8_isLetterOrDigit 1 (some .boolean) ∈ zTB := zmem2 (List.mem_of_getElem? (i := 197) rfl) rfl
theorem mL_X8_79 : Cond.methodLink RX8 79 yX8_kindOfWord ∈ zTB := zmem2 (List.mem_of_getElem? (i := 198) rfl) rfl
theorem mI_X8_kindOfWord : Cond.instanceMethod yX8_kindOfWord ∈ zTB := zmem2 (List.mem_of_getElem? (i := 200) rfl) rfl
theorem mC_X8_kindOfWord : Cond.code yX8_kindOfWord cX8_kindOfWord 2 (some .int) ∈ zTB := zmem2 (List.mem_of_getElem? (i := 201) rfl) rfl
theorem mL_X8_73 : Cond.methodLink RX8 73 yX8_signOf ∈ zTB := zmem2 (List.mem_of_getElem? (i := 202) rfl) rfl
theorem mT_X8_signOf : Cond.static yX8_signOf ∈ zTB := zmem2 (List.mem_of_getElem? (i := 203) rfl) rfl
theorem mC_X8_signOf : Cond.code yX8_signOf cX8_signOf 1 (some .int) ∈ zTB := zmem2 (List.mem_of_getElem? (i := 204) rfl) rfl
theorem mL_X5_43 : Cond.methodLink RX5 43 yX5_readDefinition ∈ zTB := zmem2 (List.mem_of_getElem? (i := 205) rfl) rfl
theorem mI_X5_readDefinition : Cond.instanceMethod yX5_readDefinition ∈ zTB := zmem2 (List.mem_of_getElem? (i := 207) rfl) rfl
theorem mC_X5_readDefinition : Cond.code yX5_readDefinition cX5_readDefinition 4 (some .boolean) ∈ zTB := zmem2 (List.mem_of_getElem? (i := 208) rfl) rfl
theorem mL_X5_47 : Cond.methodLink RX5 47 yX8_kind ∈ zTB := zmem2 (List.mem_of_getElem? (i := 209) rfl) rfl
theorem mI_X8_kind : Cond.instanceMethod yX8_kind ∈ zTB := zmem2 (List.mem_of_getElem? (i := 210) rfl) rfl
theorem mS_X8_kind : Cond.selects RX8 yX8_kind yX8_kind ∈ zTB := zmem2 (List.mem_of_getElem? (i := 211) rfl) rfl
theorem mC_X8_kind : Cond.code yX8_kind cX8_kind 1 (some .int) ∈ zTB := zmem2 (List.mem_of_getElem? (i := 212) rfl) rfl
theorem mL_X5_77 : Cond.methodLink RX5 77 yX5_cannotStand ∈ zTB := zmem2 (List.mem_of_getElem? (i := 213) rfl) rfl
theorem mI_X5_cannotStand : Cond.instanceMethod yX5_cannotStand ∈ zTB := zmem2 (List.mem_of_getElem? (i := 215) rfl) rfl
theorem mC_X5_cannotStand : Cond.code yX5_cannotStand cX5_cannotStand 2 (some .boolean) ∈ zTB := zmem2 (List.mem_of_getElem? (i := 216) rfl) rfl
theorem mL_X5_83 : Cond.methodLink RX5 83 yX8_place ∈ zTB := zmem2 (List.mem_of_getElem? (i := 217) rfl) rfl
theorem mI_X8_place : Cond.instanceMethod yX8_place ∈ zTB := zmem2 (List.mem_of_getElem? (i := 218) rfl) rfl
theorem mS_X8_place : Cond.selects RX8 yX8_place yX8_place ∈ zTB := zmem2 (List.mem_of_getElem? (i := 219) rfl) rfl
theorem mC_X8_place : Cond.code yX8_place cX8_place 1 (some .int) ∈ zTB := zmem2 (List.mem_of_getElem? (i := 220) rfl) rfl
theorem mL_X5_66 : Cond.methodLink RX5 66 yX5_fail ∈ zTB := zmem2 (List.mem_of_getElem? (i := 221) rfl) rfl
theorem mI_X5_fail : Cond.instanceMethod yX5_fail ∈ zTB := zmem2 (List.mem_of_getElem? (i := 223) rfl) rfl
theorem mC_X5_fail : Cond.code yX5_fail cX5_fail 3 (some .boolean) ∈ zTB := zmem2 (List.mem_of_getElem? (i := 224) rfl) rfl
theorem mL_X5_80 : Cond.methodLink RX5 80 yX4_size ∈ zTB := zmem2 (List.mem_of_getElem? (i := 225) rfl) rfl
theorem mI_X4_size : Cond.instanceMethod yX4_size ∈ zTB := zmem2 (List.mem_of_getElem? (i := 226) rfl) rfl
theorem mS_X4_size : Cond.selects RX4 yX4_size yX4_size ∈ zTB := zmem2 (List.mem_of_getElem? (i := 227) rfl) rfl
theorem mC_X4_size : Cond.code yX4_size cX4_size 1 (some .int) ∈ zTB := zmem2 (List.mem_of_getElem? (i := 228) rfl) rfl
theorem mL_X5_86 : Cond.methodLink RX5 86 yX8_name ∈ zTB := zmem2 (List.mem_of_getElem? (i := 229) rfl) rfl
theorem mI_X8_name : Cond.instanceMethod yX8_name ∈ zTB := zmem2 (List.mem_of_getElem? (i := 230) rfl) rfl
theorem mS_X8_name : Cond.selects RX8 yX8_name yX8_name ∈ zTB := zmem2 (List.mem_of_getElem? (i := 231) rfl) rfl
theorem mC_X8_name : Cond.code yX8_name cX8_name 1 (some .long) ∈ zTB := zmem2 (List.mem_of_getElem? (i := 232) rfl) rfl
theorem mL_X5_62 : Cond.methodLink RX5 62 yX4_definitionOf ∈ zTB := zmem2 (List.mem_of_getElem? (i := 233) rfl) rfl
theorem mI_X4_definitionOf : Cond.instanceMethod yX4_definitionOf ∈ zTB := zmem2 (List.mem_of_getElem? (i := 234) rfl) rfl
theorem mS_X4_definitionOf : Cond.selects RX4 yX4_definitionOf yX4_definitionOf ∈ zTB := zmem2 (List.mem_of_getElem? (i := 235) rfl) rfl
theorem mC_X4_definitionOf : Cond.code yX4_definitionOf cX4_definitionOf 4 (some .int) ∈ zTB := zmem2 (List.mem_of_getElem? (i := 236) rfl) rfl
theorem mL_X5_90 : Cond.methodLink RX5 90 yX4_openDefinition ∈ zTB := zmem2 (List.mem_of_getElem? (i := 237) rfl) rfl
theorem mI_X4_openDefinition : Cond.instanceMethod yX4_openDefinition ∈ zTB := zmem2 (List.mem_of_getElem? (i := 238) rfl) rfl
theorem mS_X4_openDefinition : Cond.selects RX4 yX4_openDefinition yX4_openDefinition ∈ zTB := zmem2 (List.mem_of_getElem? (i := 239) rfl) rfl
theorem mC_X4_openDefinition : Cond.code yX4_openDefinition cX4_openDefinition 3 none ∈ zTB := zmem3 (List.mem_of_getElem? (i := 0) rfl) rfl
theorem mL_X5_94 : Cond.methodLink RX5 94 yX8_advance ∈ zTB := zmem3 (List.mem_of_getElem? (i := 1) rfl) rfl
theorem mL_X5_97 : Cond.methodLink RX5 97 yX4_deedCount ∈ zTB := zmem3 (List.mem_of_getElem? (i := 2) rfl) rfl
theorem mI_X4_deedCount : Cond.instanceMethod yX4_deedCount ∈ zTB := zmem3 (List.mem_of_getElem? (i := 3) rfl) rfl
theorem mS_X4_deedCount : Cond.selects RX4 yX4_deedCount yX4_deedCount ∈ zTB := zmem3 (List.mem_of_getElem? (i := 4) rfl) rfl
theorem mC_X4_deedCount : Cond.code yX4_deedCount cX4_deedCount 1 (some .int) ∈ zTB := zmem3 (List.mem_of_getElem? (i := 5) rfl) rfl
theorem mL_X5_100 : Cond.methodLink RX5 100 yX5_readParameters ∈ zTB := zmem3 (List.mem_of_getElem? (i := 6) rfl) rfl
theorem mI_X5_readParameters : Cond.instanceMethod yX5_readParameters ∈ zTB := zmem3 (List.mem_of_getElem? (i := 8) rfl) rfl
theorem mC_X5_readParameters : Cond.code yX5_readParameters cX5_readParameters 2 (some .int) ∈ zTB := zmem3 (List.mem_of_getElem? (i := 9) rfl) rfl
theorem mL_X5_118 : Cond.methodLink RX5 118 yX5_has ∈ zTB := zmem3 (List.mem_of_getElem? (i := 10) rfl) rfl
theorem mT_X5_has : Cond.static yX5_has ∈ zTB := zmem3 (List.mem_of_getElem? (i := 11) rfl) rfl
theorem mC_X5_has : Cond.code yX5_has cX5_has 6 (some .boolean) ∈ zTB := zmem3 (List.mem_of_getElem? (i := 12) rfl) rfl
theorem mL_X5_103 : Cond.methodLink RX5 103 yX5_take ∈ zTB := zmem3 (List.mem_of_getElem? (i := 13) rfl) rfl
theorem mI_X5_take : Cond.instanceMethod yX5_take ∈ zTB := zmem3 (List.mem_of_getElem? (i := 15) rfl) rfl
theorem mC_X5_take : Cond.code yX5_take cX5_take 2 (some .boolean) ∈ zTB := zmem3 (List.mem_of_getElem? (i := 16) rfl) rfl
theorem mL_X5_107 : Cond.methodLink RX5 107 yX5_readExpr ∈ zTB := zmem3 (List.mem_of_getElem? (i := 17) rfl) rfl
theorem mI_X5_readExpr : Cond.instanceMethod yX5_readExpr ∈ zTB := zmem3 (List.mem_of_getElem? (i := 19) rfl) rfl
theorem mC_X5_readExpr : Cond.code yX5_readExpr cX5_readExpr 2 (some .boolean) ∈ zTB := zmem3 (List.mem_of_getElem? (i := 20) rfl) rfl
theorem mL_X5_122 : Cond.methodLink RX5 122 yX5_readLet ∈ zTB := zmem3 (List.mem_of_getElem? (i := 21) rfl) rfl
theorem mI_X5_readLet : Cond.instanceMethod yX5_readLet ∈ zTB := zmem3 (List.mem_of_getElem? (i := 23) rfl) rfl
theorem mC_X5_readLet : Cond.code yX5_readLet cX5_readLet 7 (some .boolean) ∈ zTB := zmem3 (List.mem_of_getElem? (i := 24) rfl) rfl
theorem mL_X5_128 : Cond.methodLink RX5 128 yX4_addDeed ∈ zTB := zmem3 (List.mem_of_getElem? (i := 25) rfl) rfl
theorem mI_X4_addDeed : Cond.instanceMethod yX4_addDeed ∈ zTB := zmem3 (List.mem_of_getElem? (i := 26) rfl) rfl
theorem mS_X4_addDeed : Cond.selects RX4 yX4_addDeed yX4_addDeed ∈ zTB := zmem3 (List.mem_of_getElem? (i := 27) rfl) rfl
theorem mC_X4_addDeed : Cond.code yX4_addDeed cX4_addDeed 3 none ∈ zTB := zmem3 (List.mem_of_getElem? (i := 28) rfl) rfl
theorem mL_X4_64 : Cond.methodLink RX4 64 yX4_addDeed_ ∈ zTB := zmem3 (List.mem_of_getElem? (i := 29) rfl) rfl
theorem mI_X4_addDeed_ : Cond.instanceMethod yX4_addDeed_ ∈ zTB := zmem3 (List.mem_of_getElem? (i := 31) rfl) rfl
theorem mC_X4_addDeed_ : Cond.code yX4_addDeed_ cX4_addDeed_ 6 none ∈ zTB := zmem3 (List.mem_of_getElem? (i := 32) rfl) rfl
theorem mL_X5_132 : Cond.methodLink RX5 132 yX5_readBinding ∈ zTB := zmem3 (List.mem_of_getElem? (i := 33) rfl) rfl
theorem mI_X5_readBinding : Cond.instanceMethod yX5_readBinding ∈ zTB := zmem3 (List.mem_of_getElem? (i := 35) rfl) rfl
theorem mC_X5_readBinding : Cond.code yX5_readBinding cX5_readBinding 5 (some .boolean) ∈ zTB := zmem3 (List.mem_of_getElem? (i := 36) rfl) rfl
theorem mL_X5_135 : Cond.methodLink RX5 135 yX4_settlePointers ∈ zTB := zmem3 (List.mem_of_getElem? (i := 37) rfl) rfl
theorem mI_X4_settlePointers : Cond.instanceMethod yX4_settlePointers ∈ zTB := zmem3 (List.mem_of_getElem? (i := 38) rfl) rfl
theorem mS_X4_settlePointers : Cond.selects RX4 yX4_settlePointers yX4_settlePointers ∈ zTB := zmem3 (List.mem_of_getElem? (i := 39) rfl) rfl
theorem mC_X4_settlePointers : Cond.code yX4_settlePointers cX4_settlePointers 4 none ∈ zTB := zmem3 (List.mem_of_getElem? (i := 40) rfl) rfl
theorem mL_X4_68 : Cond.methodLink RX4 68 yX4_isDeed ∈ zTB := zmem3 (List.mem_of_getElem? (i := 41) rfl) rfl
theorem mT_X4_isDeed : Cond.static yX4_isDeed ∈ zTB := zmem3 (List.mem_of_getElem? (i := 42) rfl) rfl
theorem mC_X4_isDeed : Cond.code yX4_isDeed cX4_isDeed 1 (some .boolean) ∈ zTB := zmem3 (List.mem_of_getElem? (i := 43) rfl) rfl
theorem mL_X5_110 : Cond.methodLink RX5 110 yX4_tell ∈ zTB := zmem3 (List.mem_of_getElem? (i := 44) rfl) rfl
theorem mI_X4_tell : Cond.instanceMethod yX4_tell ∈ zTB := zmem3 (List.mem_of_getElem? (i := 45) rfl) rfl
theorem mS_X4_tell : Cond.selects RX4 yX4_tell yX4_tell ∈ zTB := zmem3 (List.mem_of_getElem? (i := 46) rfl) rfl
theorem mC_X4_tell : Cond.code yX4_tell cX4_tell 7 none ∈ zTB := zmem3 (List.mem_of_getElem? (i := 47) rfl) rfl
theorem mL_X5_125 : Cond.methodLink RX5 125 yX5_readAtoms ∈ zTB := zmem3 (List.mem_of_getElem? (i := 48) rfl) rfl
theorem mI_X5_readAtoms : Cond.instanceMethod yX5_readAtoms ∈ zTB := zmem3 (List.mem_of_getElem? (i := 50) rfl) rfl
theorem mC_X5_readAtoms : Cond.code yX5_readAtoms cX5_readAtoms 3 (some .boolean) ∈ zTB := zmem3 (List.mem_of_getElem? (i := 51) rfl) rfl
theorem mL_X5_139 : Cond.methodLink RX5 139 yX5_beginsAtom ∈ zTB := zmem3 (List.mem_of_getElem? (i := 52) rfl) rfl
theorem mI_X5_beginsAtom : Cond.instanceMethod yX5_beginsAtom ∈ zTB := zmem3 (List.mem_of_getElem? (i := 54) rfl) rfl
theorem mC_X5_beginsAtom : Cond.code yX5_beginsAtom cX5_beginsAtom 2 (some .boolean) ∈ zTB := zmem3 (List.mem_of_getElem? (i := 55) rfl) rfl
theorem mL_X5_142 : Cond.methodLink RX5 142 yX5_readAtom ∈ zTB := zmem3 (List.mem_of_getElem? (i := 56) rfl) rfl
theorem mI_X5_readAtom : Cond.instanceMethod yX5_readAtom ∈ zTB := zmem3 (List.mem_of_getElem? (i := 58) rfl) rfl
theorem mC_X5_readAtom : Cond.code yX5_readAtom cX5_readAtom 2 (some .boolean) ∈ zTB := zmem3 (List.mem_of_getElem? (i := 59) rfl) rfl
theorem mL_X5_145 : Cond.methodLink RX5 145 yX8_value ∈ zTB := zmem3 (List.mem_of_getElem? (i := 60) rfl) rfl
theorem mI_X8_value : Cond.instanceMethod yX8_value ∈ zTB := zmem3 (List.mem_of_getElem? (i := 61) rfl) rfl
theorem mS_X8_value : Cond.selects RX8 yX8_value yX8_value ∈ zTB := zmem3 (List.mem_of_getElem? (i := 62) rfl) rfl
theorem mC_X8_value : Cond.code yX8_value cX8_value 1 (some .int) ∈ zTB := zmem3 (List.mem_of_getElem? (i := 63) rfl) rfl
theorem mL_X5_148 : Cond.methodLink RX5 148 yX4_addName ∈ zTB := zmem3 (List.mem_of_getElem? (i := 64) rfl) rfl
theorem mI_X4_addName : Cond.instanceMethod yX4_addName ∈ zTB := zmem3 (List.mem_of_getElem? (i := 65) rfl) rfl
theorem mS_X4_addName : Cond.selects RX4 yX4_addName yX4_addName ∈ zTB := zmem3 (List.mem_of_getElem? (i := 66) rfl) rfl
theorem mC_X4_addName : Cond.code yX4_addName cX4_addName 4 none ∈ zTB := zmem3 (List.mem_of_getElem? (i := 67) rfl) rfl
theorem mL_X5_152 : Cond.methodLink RX5 152 yX5_readWithin ∈ zTB := zmem3 (List.mem_of_getElem? (i := 68) rfl) rfl
theorem mI_X5_readWithin : Cond.instanceMethod yX5_readWithin ∈ zTB := zmem3 (List.mem_of_getElem? (i := 70) rfl) rfl
theorem mC_X5_readWithin : Cond.code yX5_readWithin cX5_readWithin 2 (some .boolean) ∈ zTB := zmem3 (List.mem_of_getElem? (i := 71) rfl) rfl
theorem mL_X5_114 : Cond.methodLink RX5 114 yX4_closeDefinition ∈ zTB := zmem3 (List.mem_of_getElem? (i := 72) rfl) rfl
theorem mI_X4_closeDefinition : Cond.instanceMethod yX4_closeDefinition ∈ zTB := zmem3 (List.mem_of_getElem? (i := 73) rfl) rfl
theorem mS_X4_closeDefinition : Cond.selects RX4 yX4_closeDefinition yX4_closeDefinition ∈ zTB := zmem3 (List.mem_of_getElem? (i := 74) rfl) rfl
theorem mC_X4_closeDefinition : Cond.code yX4_closeDefinition cX4_closeDefinition 3 none ∈ zTB := zmem3 (List.mem_of_getElem? (i := 75) rfl) rfl
theorem mL_X4_50 : Cond.methodLink RX4 50 yX4_countNodes ∈ zTB := zmem3 (List.mem_of_getElem? (i := 76) rfl) rfl
theorem mI_X4_countNodes : Cond.instanceMethod yX4_countNodes ∈ zTB := zmem3 (List.mem_of_getElem? (i := 78) rfl) rfl
theorem mC_X4_countNodes : Cond.code yX4_countNodes cX4_countNodes 4 (some .int) ∈ zTB := zmem3 (List.mem_of_getElem? (i := 79) rfl) rfl
theorem mL_X4_54 : Cond.methodLink RX4 54 yX4_deedAt ∈ zTB := zmem3 (List.mem_of_getElem? (i := 80) rfl) rfl
theorem mI_X4_deedAt : Cond.instanceMethod yX4_deedAt ∈ zTB := zmem3 (List.mem_of_getElem? (i := 81) rfl) rfl
theorem mS_X4_deedAt : Cond.selects RX4 yX4_deedAt yX4_deedAt ∈ zTB := zmem3 (List.mem_of_getElem? (i := 82) rfl) rfl
theorem mC_X4_deedAt : Cond.code yX4_deedAt cX4_deedAt 2 (some .int) ∈ zTB := zmem3 (List.mem_of_getElem? (i := 83) rfl) rfl
theorem mL_X4_57 : Cond.methodLink RX4 57 yX4_aboutAt ∈ zTB := zmem3 (List.mem_of_getElem? (i := 84) rfl) rfl
theorem mI_X4_aboutAt : Cond.instanceMethod yX4_aboutAt ∈ zTB := zmem3 (List.mem_of_getElem? (i := 85) rfl) rfl
theorem mS_X4_aboutAt : Cond.selects RX4 yX4_aboutAt yX4_aboutAt ∈ zTB := zmem3 (List.mem_of_getElem? (i := 86) rfl) rfl
theorem mC_X4_aboutAt : Cond.code yX4_aboutAt cX4_aboutAt 2 (some .int) ∈ zTB := zmem3 (List.mem_of_getElem? (i := 87) rfl) rfl
theorem mL_X5_51 : Cond.methodLink RX5 51 yX5_checkNames ∈ zTB := zmem3 (List.mem_of_getElem? (i := 88) rfl) rfl
theorem mI_X5_checkNames : Cond.instanceMethod yX5_checkNames ∈ zTB := zmem3 (List.mem_of_getElem? (i := 90) rfl) rfl
theorem mC_X5_checkNames : Cond.code yX5_checkNames cX5_checkNames 3 none ∈ zTB := zmem3 (List.mem_of_getElem? (i := 91) rfl) rfl
theorem mL_X5_54 : Cond.methodLink RX5 54 yX4_tellDefinitions ∈ zTB := zmem3 (List.mem_of_getElem? (i := 92) rfl) rfl
theorem mI_X4_tellDefinitions : Cond.instanceMethod yX4_tellDefinitions ∈ zTB := zmem3 (List.mem_of_getElem? (i := 93) rfl) rfl
theorem mS_X4_tellDefinitions : Cond.selects RX4 yX4_tellDefinitions yX4_tellDefinitions ∈ zTB := zmem3 (List.mem_of_getElem? (i := 94) rfl) rfl
theorem mC_X4_tellDefinitions : Cond.code yX4_tellDefinitions cX4_tellDefinitions 2 none ∈ zTB := zmem3 (List.mem_of_getElem? (i := 95) rfl) rfl
theorem mL_X4_71 : Cond.methodLink RX4 71 yX4_tell ∈ zTB := zmem3 (List.mem_of_getElem? (i := 96) rfl) rfl
theorem mL_X5_57 : Cond.methodLink RX5 57 yX4_firstUntold ∈ zTB := zmem3 (List.mem_of_getElem? (i := 97) rfl) rfl
theorem mI_X4_firstUntold : Cond.instanceMethod yX4_firstUntold ∈ zTB := zmem3 (List.mem_of_getElem? (i := 98) rfl) rfl
theorem mS_X4_firstUntold : Cond.selects RX4 yX4_firstUntold yX4_firstUntold ∈ zTB := zmem3 (List.mem_of_getElem? (i := 99) rfl) rfl
theorem mC_X4_firstUntold : Cond.code yX4_firstUntold cX4_firstUntold 2 (some .int) ∈ zTB := zmem3 (List.mem_of_getElem? (i := 100) rfl) rfl
theorem mK_X5_60 : Cond.constantLong RX5 60 1835100526 ∈ zTB := zmem3 (List.mem_of_getElem? (i := 101) rfl) rfl
theorem mL_X5_70 : Cond.methodLink RX5 70 yX4_parametersOf ∈ zTB := zmem3 (List.mem_of_getElem? (i := 102) rfl) rfl
theorem mI_X4_parametersOf : Cond.instanceMethod yX4_parametersOf ∈ zTB := zmem3 (List.mem_of_getElem? (i := 103) rfl) rfl
theorem mS_X4_parametersOf : Cond.selects RX4 yX4_parametersOf yX4_parametersOf ∈ zTB := zmem3 (List.mem_of_getElem? (i := 104) rfl) rfl
theorem mC_X4_parametersOf : Cond.code yX4_parametersOf cX4_parametersOf 2 (some .int) ∈ zTB := zmem3 (List.mem_of_getElem? (i := 105) rfl) rfl
theorem mL_X4_60 : Cond.methodLink RX4 60 yX4_isDefinition ∈ zTB := zmem3 (List.mem_of_getElem? (i := 106) rfl) rfl
theorem mT_X4_isDefinition : Cond.static yX4_isDefinition ∈ zTB := zmem3 (List.mem_of_getElem? (i := 107) rfl) rfl
theorem mC_X4_isDefinition : Cond.code yX4_isDefinition cX4_isDefinition 1 (some .boolean) ∈ zTB := zmem3 (List.mem_of_getElem? (i := 108) rfl) rfl
theorem mL_X5_74 : Cond.methodLink RX5 74 yX8_end ∈ zTB := zmem3 (List.mem_of_getElem? (i := 109) rfl) rfl
theorem mI_X8_end : Cond.instanceMethod yX8_end ∈ zTB := zmem3 (List.mem_of_getElem? (i := 110) rfl) rfl
theorem mS_X8_end : Cond.selects RX8 yX8_end yX8_end ∈ zTB := zmem3 (List.mem_of_getElem? (i := 111) rfl) rfl
theorem mC_X8_end : Cond.code yX8_end cX8_end 1 (some .int) ∈ zTB := zmem3 (List.mem_of_getElem? (i := 112) rfl) rfl
theorem mL_X9_103 : Cond.methodLink RX9 103 yX5_faultFound ∈ zTB := zmem3 (List.mem_of_getElem? (i := 113) rfl) rfl
theorem mI_X5_faultFound : Cond.instanceMethod yX5_faultFound ∈ zTB := zmem3 (List.mem_of_getElem? (i := 114) rfl) rfl
theorem mS_X5_faultFound : Cond.selects RX5 yX5_faultFound yX5_faultFound ∈ zTB := zmem3 (List.mem_of_getElem? (i := 115) rfl) rfl
theorem mC_X5_faultFound : Cond.code yX5_faultFound cX5_faultFound 1 (some .int) ∈ zTB := zmem3 (List.mem_of_getElem? (i := 116) rfl) rfl
theorem mL_X9_106 : Cond.methodLink RX9 106 yX5_faultPlace ∈ zTB := zmem3 (List.mem_of_getElem? (i := 117) rfl) rfl
theorem mI_X5_faultPlace : Cond.instanceMethod yX5_faultPlace ∈ zTB := zmem3 (List.mem_of_getElem? (i := 118) rfl) rfl
theorem mS_X5_faultPlace : Cond.selects RX5 yX5_faultPlace yX5_faultPlace ∈ zTB := zmem3 (List.mem_of_getElem? (i := 119) rfl) rfl
theorem mC_X5_faultPlace : Cond.code yX5_faultPlace cX5_faultPlace 1 (some .int) ∈ zTB := zmem3 (List.mem_of_getElem? (i := 120) rfl) rfl
theorem mL_X9_109 : Cond.methodLink RX9 109 yX9_forgetSweeps ∈ zTB := zmem3 (List.mem_of_getElem? (i := 121) rfl) rfl
theorem mI_X9_forgetSweeps : Cond.instanceMethod yX9_forgetSweeps ∈ zTB := zmem3 (List.mem_of_getElem? (i := 123) rfl) rfl
theorem mC_X9_forgetSweeps : Cond.code yX9_forgetSweeps cX9_forgetSweeps 3 none ∈ zTB := zmem3 (List.mem_of_getElem? (i := 124) rfl) rfl
theorem mL_X9_132 : Cond.methodLink RX9 132 yX2_stepsDone ∈ zTB := zmem3 (List.mem_of_getElem? (i := 125) rfl) rfl
theorem mI_X2_stepsDone : Cond.instanceMethod yX2_stepsDone ∈ zTB := zmem3 (List.mem_of_getElem? (i := 126) rfl) rfl
theorem mS_X2_stepsDone : Cond.selects RX2 yX2_stepsDone yX2_stepsDone ∈ zTB := zmem3 (List.mem_of_getElem? (i := 127) rfl) rfl
theorem mC_X2_stepsDone : Cond.code yX2_stepsDone cX2_stepsDone 1 (some .int) ∈ zTB := zmem3 (List.mem_of_getElem? (i := 128) rfl) rfl
theorem mL_X9_112 : Cond.methodLink RX9 112 yX2_begin ∈ zTB := zmem3 (List.mem_of_getElem? (i := 129) rfl) rfl
theorem mI_X2_begin : Cond.instanceMethod yX2_begin ∈ zTB := zmem3 (List.mem_of_getElem? (i := 130) rfl) rfl
theorem mS_X2_begin : Cond.selects RX2 yX2_begin yX2_begin ∈ zTB := zmem3 (List.mem_of_getElem? (i := 131) rfl) rfl
theorem mC_X2_begin : Cond.code yX2_begin cX2_begin 2 none ∈ zTB := zmem3 (List.mem_of_getElem? (i := 132) rfl) rfl
theorem mL_X2_55 : Cond.methodLink RX2 55 yX0_clear ∈ zTB := zmem3 (List.mem_of_getElem? (i := 133) rfl) rfl
theorem mI_X0_clear : Cond.instanceMethod yX0_clear ∈ zTB := zmem3 (List.mem_of_getElem? (i := 134) rfl) rfl
theorem mS_X0_clear : Cond.selects RX0 yX0_clear yX0_clear ∈ zTB := zmem3 (List.mem_of_getElem? (i := 135) rfl) rfl
theorem mC_X0_clear : Cond.code yX0_clear cX0_clear 2 none ∈ zTB := zmem3 (List.mem_of_getElem? (i := 136) rfl) rfl
theorem mL_X2_60 : Cond.methodLink RX2 60 yX4_size ∈ zTB := zmem3 (List.mem_of_getElem? (i := 137) rfl) rfl
theorem mL_X2_66 : Cond.methodLink RX2 66 yX0_add ∈ zTB := zmem3 (List.mem_of_getElem? (i := 138) rfl) rfl
theorem mI_X0_add : Cond.instanceMethod yX0_add ∈ zTB := zmem3 (List.mem_of_getElem? (i := 139) rfl) rfl
theorem mS_X0_add : Cond.selects RX0 yX0_add yX0_add ∈ zTB := zmem3 (List.mem_of_getElem? (i := 140) rfl) rfl
theorem mC_X0_add : Cond.code yX0_add cX0_add 5 (some .int) ∈ zTB := zmem3 (List.mem_of_getElem? (i := 141) rfl) rfl
theorem mK_X2_72 : Cond.constantLong RX2 72 1835100526 ∈ zTB := zmem3 (List.mem_of_getElem? (i := 142) rfl) rfl
theorem mL_X2_74 : Cond.methodLink RX2 74 yX4_definitionOf ∈ zTB := zmem3 (List.mem_of_getElem? (i := 143) rfl) rfl
theorem mL_X2_78 : Cond.methodLink RX2 78 yX6_begin ∈ zTB := zmem3 (List.mem_of_getElem? (i := 144) rfl) rfl
theorem mI_X6_begin : Cond.instanceMethod yX6_begin ∈ zTB := zmem3 (List.mem_of_getElem? (i := 145) rfl) rfl
theorem mS_X6_begin : Cond.selects RX6 yX6_begin yX6_begin ∈ zTB := zmem3 (List.mem_of_getElem? (i := 146) rfl) rfl
theorem mC_X6_begin : Cond.code yX6_begin cX6_begin 2 none ∈ zTB := zmem3 (List.mem_of_getElem? (i := 147) rfl) rfl
theorem mL_X6_25 : Cond.methodLink RX6 25 yX6_push ∈ zTB := zmem3 (List.mem_of_getElem? (i := 148) rfl) rfl
theorem mI_X6_push : Cond.instanceMethod yX6_push ∈ zTB := zmem3 (List.mem_of_getElem? (i := 149) rfl) rfl
theorem mS_X6_push : Cond.selects RX6 yX6_push yX6_push ∈ zTB := zmem3 (List.mem_of_getElem? (i := 150) rfl) rfl
theorem mC_X6_push : Cond.code yX6_push cX6_push 2 none ∈ zTB := zmem3 (List.mem_of_getElem? (i := 151) rfl) rfl
theorem mL_X9_115 : Cond.methodLink RX9 115 yX9_goOn ∈ zTB := zmem3 (List.mem_of_getElem? (i := 152) rfl) rfl
theorem mI_X9_goOn : Cond.instanceMethod yX9_goOn ∈ zTB := zmem3 (List.mem_of_getElem? (i := 154) rfl) rfl
theorem mC_X9_goOn : Cond.code yX9_goOn cX9_goOn 1 none ∈ zTB := zmem3 (List.mem_of_getElem? (i := 155) rfl) rfl
theorem mL_X9_118 : Cond.methodLink RX9 118 yX4_size ∈ zTB := zmem3 (List.mem_of_getElem? (i := 156) rfl) rfl
theorem mL_L_33 : Cond.methodLink RL 33 yX9_fault ∈ zTB := zmem3 (List.mem_of_getElem? (i := 157) rfl) rfl
theorem mI_X9_fault : Cond.instanceMethod yX9_fault ∈ zTB := zmem3 (List.mem_of_getElem? (i := 158) rfl) rfl
theorem mS_X9_fault : Cond.selects RX9 yX9_fault yX9_fault ∈ zTB := zmem3 (List.mem_of_getElem? (i := 159) rfl) rfl
theorem mC_X9_fault : Cond.code yX9_fault cX9_fault 1 (some .int) ∈ zTB := zmem3 (List.mem_of_getElem? (i := 160) rfl) rfl
theorem mL_L_37 : Cond.methodLink RL 37 yX9_step ∈ zTB := zmem3 (List.mem_of_getElem? (i := 161) rfl) rfl
theorem mI_X9_step : Cond.instanceMethod yX9_step ∈ zTB := zmem3 (List.mem_of_getElem? (i := 162) rfl) rfl
theorem mS_X9_step : Cond.selects RX9 yX9_step yX9_step ∈ zTB := zmem3 (List.mem_of_getElem? (i := 163) rfl) rfl
theorem mC_X9_step : Cond.code yX9_step cX9_step 3 (some .int) ∈ zTB := zmem3 (List.mem_of_getElem? (i := 164) rfl) rfl
theorem mL_X9_119 : Cond.methodLink RX9 119 yX2_wouldMake ∈ zTB := zmem3 (List.mem_of_getElem? (i := 165) rfl) rfl
theorem mI_X2_wouldMake : Cond.instanceMethod yX2_wouldMake ∈ zTB := zmem3 (List.mem_of_getElem? (i := 166) rfl) rfl
theorem mS_X2_wouldMake : Cond.selects RX2 yX2_wouldMake yX2_wouldMake ∈ zTB := zmem3 (List.mem_of_getElem? (i := 167) rfl) rfl
theorem mC_X2_wouldMake : Cond.code yX2_wouldMake cX2_wouldMake 3 (some .boolean) ∈ zTB := zmem3 (List.mem_of_getElem? (i := 168) rfl) rfl
theorem mL_X2_84 : Cond.methodLink RX2 84 yX6_fromTop ∈ zTB := zmem3 (List.mem_of_getElem? (i := 169) rfl) rfl
theorem mI_X6_fromTop : Cond.instanceMethod yX6_fromTop ∈ zTB := zmem3 (List.mem_of_getElem? (i := 170) rfl) rfl
theorem mS_X6_fromTop : Cond.selects RX6 yX6_fromTop yX6_fromTop ∈ zTB := zmem3 (List.mem_of_getElem? (i := 171) rfl) rfl
theorem mC_X6_fromTop : Cond.code yX6_fromTop cX6_fromTop 2 (some .int) ∈ zTB := zmem3 (List.mem_of_getElem? (i := 172) rfl) rfl
theorem mL_X6_33 : Cond.methodLink RX6 33 yX6_height ∈ zTB := zmem3 (List.mem_of_getElem? (i := 173) rfl) rfl
theorem mI_X6_height : Cond.instanceMethod yX6_height ∈ zTB := zmem3 (List.mem_of_getElem? (i := 174) rfl) rfl
theorem mS_X6_height : Cond.selects RX6 yX6_height yX6_height ∈ zTB := zmem3 (List.mem_of_getElem? (i := 175) rfl) rfl
theorem mC_X6_height : Cond.code yX6_height cX6_height 1 (some .int) ∈ zTB := zmem3 (List.mem_of_getElem? (i := 176) rfl) rfl
theorem mL_X6_29 : Cond.methodLink RX6 29 yX6_beginOf ∈ zTB := zmem3 (List.mem_of_getElem? (i := 177) rfl) rfl
theorem mI_X6_beginOf : Cond.instanceMethod yX6_beginOf ∈ zTB := zmem3 (List.mem_of_getElem? (i := 179) rfl) rfl
theorem mC_X6_beginOf : Cond.code yX6_beginOf cX6_beginOf 2 (some .int) ∈ zTB := zmem3 (List.mem_of_getElem? (i := 180) rfl) rfl
theorem mL_X6_37 : Cond.methodLink RX6 37 yX6_at ∈ zTB := zmem3 (List.mem_of_getElem? (i := 181) rfl) rfl
theorem mI_X6_at : Cond.instanceMethod yX6_at ∈ zTB := zmem3 (List.mem_of_getElem? (i := 182) rfl) rfl
theorem mS_X6_at : Cond.selects RX6 yX6_at yX6_at ∈ zTB := zmem3 (List.mem_of_getElem? (i := 183) rfl) rfl
theorem mC_X6_at : Cond.code yX6_at cX6_at 2 (some .int) ∈ zTB := zmem3 (List.mem_of_getElem? (i := 184) rfl) rfl
theorem mL_X2_88 : Cond.methodLink RX2 88 yX0_kindOf ∈ zTB := zmem3 (List.mem_of_getElem? (i := 185) rfl) rfl
theorem mI_X0_kindOf : Cond.instanceMethod yX0_kindOf ∈ zTB := zmem3 (List.mem_of_getElem? (i := 186) rfl) rfl
theorem mS_X0_kindOf : Cond.selects RX0 yX0_kindOf yX0_kindOf ∈ zTB := zmem3 (List.mem_of_getElem? (i := 187) rfl) rfl
theorem mC_X0_kindOf : Cond.code yX0_kindOf cX0_kindOf 2 (some .int) ∈ zTB := zmem3 (List.mem_of_getElem? (i := 188) rfl) rfl
theorem mL_X2_91 : Cond.methodLink RX2 91 yX0_firstOf ∈ zTB := zmem3 (List.mem_of_getElem? (i := 189) rfl) rfl
theorem mI_X0_firstOf : Cond.instanceMethod yX0_firstOf ∈ zTB := zmem3 (List.mem_of_getElem? (i := 190) rfl) rfl
theorem mS_X0_firstOf : Cond.selects RX0 yX0_firstOf yX0_firstOf ∈ zTB := zmem3 (List.mem_of_getElem? (i := 191) rfl) rfl
theorem mC_X0_firstOf : Cond.code yX0_firstOf cX0_firstOf 2 (some .int) ∈ zTB := zmem3 (List.mem_of_getElem? (i := 192) rfl) rfl
theorem mL_X2_94 : Cond.methodLink RX2 94 yX2_look ∈ zTB := zmem3 (List.mem_of_getElem? (i := 193) rfl) rfl
theorem mI_X2_look : Cond.instanceMethod yX2_look ∈ zTB := zmem3 (List.mem_of_getElem? (i := 194) rfl) rfl
theorem mS_X2_look : Cond.selects RX2 yX2_look yX2_look ∈ zTB := zmem3 (List.mem_of_getElem? (i := 195) rfl) rfl
theorem mC_X2_look : Cond.code yX2_look cX2_look 4 (some .int) ∈ zTB := zmem3 (List.mem_of_getElem? (i := 196) rfl) rfl
theorem mL_X2_104 : Cond.methodLink RX2 104 yX6_height ∈ zTB := zmem3 (List.mem_of_getElem? (i := 197) rfl) rfl
theorem mL_X2_107 : Cond.methodLink RX2 107 yX4_parametersOf ∈ zTB := zmem3 (List.mem_of_getElem? (i := 198) rfl) rfl
theorem mL_X2_110 : Cond.methodLink RX2 110 yX2_valueOnTop ∈ zTB := zmem3 (List.mem_of_getElem? (i := 199) rfl) rfl
theorem mI_X2_valueOnTop : Cond.instanceMethod yX2_valueOnTop ∈ zTB := zmem3 (List.mem_of_getElem? (i := 201) rfl) rfl
theorem mC_X2_valueOnTop : Cond.code yX2_valueOnTop cX2_valueOnTop 1 (some .int) ∈ zTB := zmem3 (List.mem_of_getElem? (i := 202) rfl) rfl
theorem mL_X2_122 : Cond.methodLink RX2 122 yX6_dumped ∈ zTB := zmem3 (List.mem_of_getElem? (i := 203) rfl) rfl
theorem mI_X6_dumped : Cond.instanceMethod yX6_dumped ∈ zTB := zmem3 (List.mem_of_getElem? (i := 204) rfl) rfl
theorem mS_X6_dumped : Cond.selects RX6 yX6_dumped yX6_dumped ∈ zTB := zmem3 (List.mem_of_getElem? (i := 205) rfl) rfl
theorem mC_X6_dumped : Cond.code yX6_dumped cX6_dumped 1 (some .int) ∈ zTB := zmem3 (List.mem_of_getElem? (i := 206) rfl) rfl
theorem mL_X2_113 : Cond.methodLink RX2 113 yX2_needsOf ∈ zTB := zmem3 (List.mem_of_getElem? (i := 207) rfl) rfl
theorem mT_X2_needsOf : Cond.static yX2_needsOf ∈ zTB := zmem3 (List.mem_of_getElem? (i := 208) rfl) rfl
theorem mC_X2_needsOf : Cond.code yX2_needsOf cX2_needsOf 1 (some .int) ∈ zTB := zmem3 (List.mem_of_getElem? (i := 209) rfl) rfl
theorem mF_X2_153 : Cond.fieldLink RX2 153 "NeedSteps$Machine" "NEEDS" "[I" ∈ zTB := zmem3 (List.mem_of_getElem? (i := 210) rfl) rfl
theorem mL_X2_116 : Cond.methodLink RX2 116 yX2_lookAtThings ∈ zTB := zmem3 (List.mem_of_getElem? (i := 212) rfl) rfl
theorem mI_X2_lookAtThings : Cond.instanceMethod yX2_lookAtThings ∈ zTB := zmem3 (List.mem_of_getElem? (i := 214) rfl) rfl
theorem mC_X2_lookAtThings : Cond.code yX2_lookAtThings cX2_lookAtThings 5 (some .int) ∈ zTB := zmem3 (List.mem_of_getElem? (i := 215) rfl) rfl
theorem mL_X2_125 : Cond.methodLink RX2 125 yX2_wantsOf ∈ zTB := zmem3 (List.mem_of_getElem? (i := 216) rfl) rfl
theorem mT_X2_wantsOf : Cond.static yX2_wantsOf ∈ zTB := zmem3 (List.mem_of_getElem? (i := 217) rfl) rfl
theorem mC_X2_wantsOf : Cond.code yX2_wantsOf cX2_wantsOf 1 (some .int) ∈ zTB := zmem3 (List.mem_of_getElem? (i := 218) rfl) rfl
theorem mF_X2_156 : Cond.fieldLink RX2 156 "NeedSteps$Machine" "WANTS" "[I" ∈ zTB := zmem3 (List.mem_of_getElem? (i := 219) rfl) rfl
theorem mL_X2_128 : Cond.methodLink RX2 128 yX2_secondBelow ∈ zTB := zmem3 (List.mem_of_getElem? (i := 221) rfl) rfl
theorem mI_X2_secondBelow : Cond.instanceMethod yX2_secondBelow ∈ zTB := zmem3 (List.mem_of_getElem? (i := 223) rfl) rfl
theorem mC_X2_secondBelow : Cond.code yX2_secondBelow cX2_secondBelow 2 (some .int) ∈ zTB := zmem3 (List.mem_of_getElem? (i := 224) rfl) rfl
theorem mL_X2_150 : Cond.methodLink RX2 150 yX0_secondOf ∈ zTB := zmem3 (List.mem_of_getElem? (i := 225) rfl) rfl
theorem mI_X0_secondOf : Cond.instanceMethod yX0_secondOf ∈ zTB := zmem3 (List.mem_of_getElem? (i := 226) rfl) rfl
theorem mS_X0_secondOf : Cond.selects RX0 yX0_secondOf yX0_secondOf ∈ zTB := zmem3 (List.mem_of_getElem? (i := 227) rfl) rfl
theorem mC_X0_secondOf : Cond.code yX0_secondOf cX0_secondOf 2 (some .int) ∈ zTB := zmem3 (List.mem_of_getElem? (i := 228) rfl) rfl
theorem mL_X2_131 : Cond.methodLink RX2 131 yX0_followed ∈ zTB := zmem3 (List.mem_of_getElem? (i := 229) rfl) rfl
theorem mI_X0_followed : Cond.instanceMethod yX0_followed ∈ zTB := zmem3 (List.mem_of_getElem? (i := 230) rfl) rfl
theorem mS_X0_followed : Cond.selects RX0 yX0_followed yX0_followed ∈ zTB := zmem3 (List.mem_of_getElem? (i := 231) rfl) rfl
theorem mC_X0_followed : Cond.code yX0_followed cX0_followed 4 (some .int) ∈ zTB := zmem3 (List.mem_of_getElem? (i := 232) rfl) rfl
theorem mL_X0_48 : Cond.methodLink RX0 48 yX0_kindOf ∈ zTB := zmem3 (List.mem_of_getElem? (i := 233) rfl) rfl
theorem mL_X0_52 : Cond.methodLink RX0 52 yX0_firstOf ∈ zTB := zmem3 (List.mem_of_getElem? (i := 234) rfl) rfl
theorem mL_X2_119 : Cond.methodLink RX2 119 yX2_failing ∈ zTB := zmem3 (List.mem_of_getElem? (i := 235) rfl) rfl
theorem mI_X2_failing : Cond.instanceMethod yX2_failing ∈ zTB := zmem3 (List.mem_of_getElem? (i := 237) rfl) rfl
theorem mC_X2_failing : Cond.code yX2_failing cX2_failing 2 (some .int) ∈ zTB := zmem3 (List.mem_of_getElem? (i := 238) rfl) rfl
theorem mL_X2_134 : Cond.methodLink RX2 134 yX2_isValue ∈ zTB := zmem3 (List.mem_of_getElem? (i := 239) rfl) rfl
theorem mI_X2_isValue : Cond.instanceMethod yX2_isValue ∈ zTB := zmem4 (List.mem_of_getElem? (i := 1) rfl) rfl
theorem mC_X2_isValue : Cond.code yX2_isValue cX2_isValue 4 (some .boolean) ∈ zTB := zmem4 (List.mem_of_getElem? (i := 2) rfl) rfl
theorem mL_X2_137 : Cond.methodLink RX2 137 yX6_hasAsLowest ∈ zTB := zmem4 (List.mem_of_getElem? (i := 3) rfl) rfl
theorem mI_X6_hasAsLowest : Cond.instanceMethod yX6_hasAsLowest ∈ zTB := zmem4 (List.mem_of_getElem? (i := 4) rfl) rfl
theorem mS_X6_hasAsLowest : Cond.selects RX6 yX6_hasAsLowest yX6_hasAsLowest ∈ zTB := zmem4 (List.mem_of_getElem? (i := 5) rfl) rfl
theorem mC_X6_hasAsLowest : Cond.code yX6_hasAsLowest cX6_hasAsLowest 3 (some .boolean) ∈ zTB := zmem4 (List.mem_of_getElem? (i := 6) rfl) rfl
theorem mL_X2_140 : Cond.methodLink RX2 140 yX2_isOfSort ∈ zTB := zmem4 (List.mem_of_getElem? (i := 7) rfl) rfl
theorem mT_X2_isOfSort : Cond.static yX2_isOfSort ∈ zTB := zmem4 (List.mem_of_getElem? (i := 8) rfl) rfl
theorem mC_X2_isOfSort : Cond.code yX2_isOfSort cX2_isOfSort 2 (some .boolean) ∈ zTB := zmem4 (List.mem_of_getElem? (i := 9) rfl) rfl
theorem mL_X2_144 : Cond.methodLink RX2 144 yX2_lookAtValues ∈ zTB := zmem4 (List.mem_of_getElem? (i := 10) rfl) rfl
theorem mI_X2_lookAtValues : Cond.instanceMethod yX2_lookAtValues ∈ zTB := zmem4 (List.mem_of_getElem? (i := 12) rfl) rfl
theorem mC_X2_lookAtValues : Cond.code yX2_lookAtValues cX2_lookAtValues 3 (some .int) ∈ zTB := zmem4 (List.mem_of_getElem? (i := 13) rfl) rfl
theorem mL_X2_147 : Cond.methodLink RX2 147 yX2_isNil ∈ zTB := zmem4 (List.mem_of_getElem? (i := 14) rfl) rfl
theorem mI_X2_isNil : Cond.instanceMethod yX2_isNil ∈ zTB := zmem4 (List.mem_of_getElem? (i := 16) rfl) rfl
theorem mC_X2_isNil : Cond.code yX2_isNil cX2_isNil 2 (some .boolean) ∈ zTB := zmem4 (List.mem_of_getElem? (i := 17) rfl) rfl
theorem mL_X9_123 : Cond.methodLink RX9 123 yX2_attempt ∈ zTB := zmem4 (List.mem_of_getElem? (i := 18) rfl) rfl
theorem mI_X2_attempt : Cond.instanceMethod yX2_attempt ∈ zTB := zmem4 (List.mem_of_getElem? (i := 19) rfl) rfl
theorem mS_X2_attempt : Cond.selects RX2 yX2_attempt yX2_attempt ∈ zTB := zmem4 (List.mem_of_getElem? (i := 20) rfl) rfl
theorem mC_X2_attempt : Cond.code yX2_attempt cX2_attempt 2 (some .int) ∈ zTB := zmem4 (List.mem_of_getElem? (i := 21) rfl) rfl
theorem mL_X2_97 : Cond.methodLink RX2 97 yX2_hasRoomFor ∈ zTB := zmem4 (List.mem_of_getElem? (i := 22) rfl) rfl
theorem mI_X2_hasRoomFor : Cond.instanceMethod yX2_hasRoomFor ∈ zTB := zmem4 (List.mem_of_getElem? (i := 24) rfl) rfl
theorem mC_X2_hasRoomFor : Cond.code yX2_hasRoomFor cX2_hasRoomFor 2 (some .boolean) ∈ zTB := zmem4 (List.mem_of_getElem? (i := 25) rfl) rfl
theorem mL_X2_159 : Cond.methodLink RX2 159 yX6_hasRoom ∈ zTB := zmem4 (List.mem_of_getElem? (i := 26) rfl) rfl
theorem mI_X6_hasRoom : Cond.instanceMethod yX6_hasRoom ∈ zTB := zmem4 (List.mem_of_getElem? (i := 27) rfl) rfl
theorem mS_X6_hasRoom : Cond.selects RX6 yX6_hasRoom yX6_hasRoom ∈ zTB := zmem4 (List.mem_of_getElem? (i := 28) rfl) rfl
theorem mC_X6_hasRoom : Cond.code yX6_hasRoom cX6_hasRoom 1 (some .boolean) ∈ zTB := zmem4 (List.mem_of_getElem? (i := 29) rfl) rfl
theorem mL_X2_163 : Cond.methodLink RX2 163 yX4_nodesOf ∈ zTB := zmem4 (List.mem_of_getElem? (i := 30) rfl) rfl
theorem mI_X4_nodesOf : Cond.instanceMethod yX4_nodesOf ∈ zTB := zmem4 (List.mem_of_getElem? (i := 31) rfl) rfl
theorem mS_X4_nodesOf : Cond.selects RX4 yX4_nodesOf yX4_nodesOf ∈ zTB := zmem4 (List.mem_of_getElem? (i := 32) rfl) rfl
theorem mC_X4_nodesOf : Cond.code yX4_nodesOf cX4_nodesOf 2 (some .int) ∈ zTB := zmem4 (List.mem_of_getElem? (i := 33) rfl) rfl
theorem mL_X2_166 : Cond.methodLink RX2 166 yX0_hasRoom ∈ zTB := zmem4 (List.mem_of_getElem? (i := 34) rfl) rfl
theorem mI_X0_hasRoom : Cond.instanceMethod yX0_hasRoom ∈ zTB := zmem4 (List.mem_of_getElem? (i := 35) rfl) rfl
theorem mS_X0_hasRoom : Cond.selects RX0 yX0_hasRoom yX0_hasRoom ∈ zTB := zmem4 (List.mem_of_getElem? (i := 36) rfl) rfl
theorem mC_X0_hasRoom : Cond.code yX0_hasRoom cX0_hasRoom 2 (some .boolean) ∈ zTB := zmem4 (List.mem_of_getElem? (i := 37) rfl) rfl
theorem mL_X2_101 : Cond.methodLink RX2 101 yX2_perform ∈ zTB := zmem4 (List.mem_of_getElem? (i := 38) rfl) rfl
theorem mI_X2_perform : Cond.instanceMethod yX2_perform ∈ zTB := zmem4 (List.mem_of_getElem? (i := 40) rfl) rfl
theorem mC_X2_perform : Cond.code yX2_perform cX2_perform 4 none ∈ zTB := zmem4 (List.mem_of_getElem? (i := 41) rfl) rfl
theorem mL_X2_168 : Cond.methodLink RX2 168 yX6_pop ∈ zTB := zmem4 (List.mem_of_getElem? (i := 42) rfl) rfl
theorem mI_X6_pop : Cond.instanceMethod yX6_pop ∈ zTB := zmem4 (List.mem_of_getElem? (i := 43) rfl) rfl
theorem mS_X6_pop : Cond.selects RX6 yX6_pop yX6_pop ∈ zTB := zmem4 (List.mem_of_getElem? (i := 44) rfl) rfl
theorem mC_X6_pop : Cond.code yX6_pop cX6_pop 2 none ∈ zTB := zmem4 (List.mem_of_getElem? (i := 45) rfl) rfl
theorem mL_X2_171 : Cond.methodLink RX2 171 yX6_push ∈ zTB := zmem4 (List.mem_of_getElem? (i := 46) rfl) rfl
theorem mL_X2_174 : Cond.methodLink RX2 174 yX2_makeFunction ∈ zTB := zmem4 (List.mem_of_getElem? (i := 47) rfl) rfl
theorem mI_X2_makeFunction : Cond.instanceMethod yX2_makeFunction ∈ zTB := zmem4 (List.mem_of_getElem? (i := 49) rfl) rfl
theorem mC_X2_makeFunction : Cond.code yX2_makeFunction cX2_makeFunction 5 none ∈ zTB := zmem4 (List.mem_of_getElem? (i := 50) rfl) rfl
theorem mL_X2_187 : Cond.methodLink RX2 187 yX3_give ∈ zTB := zmem4 (List.mem_of_getElem? (i := 51) rfl) rfl
theorem mI_X3_give : Cond.instanceMethod yX3_give ∈ zTB := zmem4 (List.mem_of_getElem? (i := 52) rfl) rfl
theorem mS_X3_give : Cond.selects RX3 yX3_give yX3_give ∈ zTB := zmem4 (List.mem_of_getElem? (i := 53) rfl) rfl
theorem mC_X3_give : Cond.code yX3_give cX3_give 3 none ∈ zTB := zmem4 (List.mem_of_getElem? (i := 54) rfl) rfl
theorem mL_X2_190 : Cond.methodLink RX2 190 yX3_make ∈ zTB := zmem4 (List.mem_of_getElem? (i := 55) rfl) rfl
theorem mI_X3_make : Cond.instanceMethod yX3_make ∈ zTB := zmem4 (List.mem_of_getElem? (i := 56) rfl) rfl
theorem mS_X3_make : Cond.selects RX3 yX3_make yX3_make ∈ zTB := zmem4 (List.mem_of_getElem? (i := 57) rfl) rfl
theorem mC_X3_make : Cond.code yX3_make cX3_make 4 (some .int) ∈ zTB := zmem4 (List.mem_of_getElem? (i := 58) rfl) rfl
theorem mL_X3_33 : Cond.methodLink RX3 33 yX0_workFor ∈ zTB := zmem4 (List.mem_of_getElem? (i := 59) rfl) rfl
theorem mI_X0_workFor : Cond.instanceMethod yX0_workFor ∈ zTB := zmem4 (List.mem_of_getElem? (i := 60) rfl) rfl
theorem mS_X0_workFor : Cond.selects RX0 yX0_workFor yX0_workFor ∈ zTB := zmem4 (List.mem_of_getElem? (i := 61) rfl) rfl
theorem mC_X0_workFor : Cond.code yX0_workFor cX0_workFor 2 none ∈ zTB := zmem4 (List.mem_of_getElem? (i := 62) rfl) rfl
theorem mL_X3_39 : Cond.methodLink RX3 39 yX4_endOf ∈ zTB := zmem4 (List.mem_of_getElem? (i := 63) rfl) rfl
theorem mI_X4_endOf : Cond.instanceMethod yX4_endOf ∈ zTB := zmem4 (List.mem_of_getElem? (i := 64) rfl) rfl
theorem mS_X4_endOf : Cond.selects RX4 yX4_endOf yX4_endOf ∈ zTB := zmem4 (List.mem_of_getElem? (i := 65) rfl) rfl
theorem mC_X4_endOf : Cond.code yX4_endOf cX4_endOf 2 (some .int) ∈ zTB := zmem4 (List.mem_of_getElem? (i := 66) rfl) rfl
theorem mL_X3_45 : Cond.methodLink RX3 45 yX4_beginOf ∈ zTB := zmem4 (List.mem_of_getElem? (i := 67) rfl) rfl
theorem mI_X4_beginOf : Cond.instanceMethod yX4_beginOf ∈ zTB := zmem4 (List.mem_of_getElem? (i := 68) rfl) rfl
theorem mS_X4_beginOf : Cond.selects RX4 yX4_beginOf yX4_beginOf ∈ zTB := zmem4 (List.mem_of_getElem? (i := 69) rfl) rfl
theorem mC_X4_beginOf : Cond.code yX4_beginOf cX4_beginOf 2 (some .int) ∈ zTB := zmem4 (List.mem_of_getElem? (i := 70) rfl) rfl
theorem mL_X3_48 : Cond.methodLink RX3 48 yX4_aboutAt ∈ zTB := zmem4 (List.mem_of_getElem? (i := 71) rfl) rfl
theorem mL_X3_51 : Cond.methodLink RX3 51 yX3_doDeed ∈ zTB := zmem4 (List.mem_of_getElem? (i := 72) rfl) rfl
theorem mI_X3_doDeed : Cond.instanceMethod yX3_doDeed ∈ zTB := zmem4 (List.mem_of_getElem? (i := 74) rfl) rfl
theorem mC_X3_doDeed : Cond.code yX3_doDeed cX3_doDeed 3 none ∈ zTB := zmem4 (List.mem_of_getElem? (i := 75) rfl) rfl
theorem mL_X3_59 : Cond.methodLink RX3 59 yX4_deedAt ∈ zTB := zmem4 (List.mem_of_getElem? (i := 76) rfl) rfl
theorem mL_X3_62 : Cond.methodLink RX3 62 yX0_add ∈ zTB := zmem4 (List.mem_of_getElem? (i := 77) rfl) rfl
theorem mL_X3_66 : Cond.methodLink RX3 66 yX3_letWait ∈ zTB := zmem4 (List.mem_of_getElem? (i := 78) rfl) rfl
theorem mI_X3_letWait : Cond.instanceMethod yX3_letWait ∈ zTB := zmem4 (List.mem_of_getElem? (i := 80) rfl) rfl
theorem mC_X3_letWait : Cond.code yX3_letWait cX3_letWait 2 none ∈ zTB := zmem4 (List.mem_of_getElem? (i := 81) rfl) rfl
theorem mL_X3_69 : Cond.methodLink RX3 69 yX3_applyWaiting ∈ zTB := zmem4 (List.mem_of_getElem? (i := 82) rfl) rfl
theorem mI_X3_applyWaiting : Cond.instanceMethod yX3_applyWaiting ∈ zTB := zmem4 (List.mem_of_getElem? (i := 84) rfl) rfl
theorem mC_X3_applyWaiting : Cond.code yX3_applyWaiting cX3_applyWaiting 5 none ∈ zTB := zmem4 (List.mem_of_getElem? (i := 85) rfl) rfl
theorem mL_X3_72 : Cond.methodLink RX3 72 yX4_firstSlotAt ∈ zTB := zmem4 (List.mem_of_getElem? (i := 86) rfl) rfl
theorem mI_X4_firstSlotAt : Cond.instanceMethod yX4_firstSlotAt ∈ zTB := zmem4 (List.mem_of_getElem? (i := 87) rfl) rfl
theorem mS_X4_firstSlotAt : Cond.selects RX4 yX4_firstSlotAt yX4_firstSlotAt ∈ zTB := zmem4 (List.mem_of_getElem? (i := 88) rfl) rfl
theorem mC_X4_firstSlotAt : Cond.code yX4_firstSlotAt cX4_firstSlotAt 2 (some .int) ∈ zTB := zmem4 (List.mem_of_getElem? (i := 89) rfl) rfl
theorem mL_X3_75 : Cond.methodLink RX3 75 yX3_addPointers ∈ zTB := zmem4 (List.mem_of_getElem? (i := 90) rfl) rfl
theorem mI_X3_addPointers : Cond.instanceMethod yX3_addPointers ∈ zTB := zmem4 (List.mem_of_getElem? (i := 92) rfl) rfl
theorem mC_X3_addPointers : Cond.code yX3_addPointers cX3_addPointers 6 none ∈ zTB := zmem4 (List.mem_of_getElem? (i := 93) rfl) rfl
theorem mL_X3_81 : Cond.methodLink RX3 81 yX0_become ∈ zTB := zmem4 (List.mem_of_getElem? (i := 94) rfl) rfl
theorem mI_X0_become : Cond.instanceMethod yX0_become ∈ zTB := zmem4 (List.mem_of_getElem? (i := 95) rfl) rfl
theorem mS_X0_become : Cond.selects RX0 yX0_become yX0_become ∈ zTB := zmem4 (List.mem_of_getElem? (i := 96) rfl) rfl
theorem mC_X0_become : Cond.code yX0_become cX0_become 5 none ∈ zTB := zmem4 (List.mem_of_getElem? (i := 97) rfl) rfl
theorem mL_X3_55 : Cond.methodLink RX3 55 yX3_takeWaiting ∈ zTB := zmem4 (List.mem_of_getElem? (i := 98) rfl) rfl
theorem mI_X3_takeWaiting : Cond.instanceMethod yX3_takeWaiting ∈ zTB := zmem4 (List.mem_of_getElem? (i := 100) rfl) rfl
theorem mC_X3_takeWaiting : Cond.code yX3_takeWaiting cX3_takeWaiting 1 (some .int) ∈ zTB := zmem4 (List.mem_of_getElem? (i := 101) rfl) rfl
theorem mL_X3_78 : Cond.methodLink RX3 78 yX3_bind ∈ zTB := zmem4 (List.mem_of_getElem? (i := 102) rfl) rfl
theorem mI_X3_bind : Cond.instanceMethod yX3_bind ∈ zTB := zmem4 (List.mem_of_getElem? (i := 104) rfl) rfl
theorem mC_X3_bind : Cond.code yX3_bind cX3_bind 3 none ∈ zTB := zmem4 (List.mem_of_getElem? (i := 105) rfl) rfl
theorem mL_X2_193 : Cond.methodLink RX2 193 yX0_become ∈ zTB := zmem4 (List.mem_of_getElem? (i := 106) rfl) rfl
theorem mL_X2_177 : Cond.methodLink RX2 177 yX6_putOnDump ∈ zTB := zmem4 (List.mem_of_getElem? (i := 107) rfl) rfl
theorem mI_X6_putOnDump : Cond.instanceMethod yX6_putOnDump ∈ zTB := zmem4 (List.mem_of_getElem? (i := 108) rfl) rfl
theorem mS_X6_putOnDump : Cond.selects RX6 yX6_putOnDump yX6_putOnDump ∈ zTB := zmem4 (List.mem_of_getElem? (i := 109) rfl) rfl
theorem mC_X6_putOnDump : Cond.code yX6_putOnDump cX6_putOnDump 2 none ∈ zTB := zmem4 (List.mem_of_getElem? (i := 110) rfl) rfl
theorem mL_X6_40 : Cond.methodLink RX6 40 yX6_hasRoom ∈ zTB := zmem4 (List.mem_of_getElem? (i := 111) rfl) rfl
theorem mL_X2_180 : Cond.methodLink RX2 180 yX2_workOut ∈ zTB := zmem4 (List.mem_of_getElem? (i := 112) rfl) rfl
theorem mI_X2_workOut : Cond.instanceMethod yX2_workOut ∈ zTB := zmem4 (List.mem_of_getElem? (i := 114) rfl) rfl
theorem mC_X2_workOut : Cond.code yX2_workOut cX2_workOut 4 none ∈ zTB := zmem4 (List.mem_of_getElem? (i := 115) rfl) rfl
theorem mL_X2_197 : Cond.methodLink RX2 197 yX2_calculate ∈ zTB := zmem4 (List.mem_of_getElem? (i := 116) rfl) rfl
theorem mT_X2_calculate : Cond.static yX2_calculate ∈ zTB := zmem4 (List.mem_of_getElem? (i := 117) rfl) rfl
theorem mC_X2_calculate : Cond.code yX2_calculate cX2_calculate 3 (some .int) ∈ zTB := zmem4 (List.mem_of_getElem? (i := 118) rfl) rfl
theorem mL_X2_184 : Cond.methodLink RX2 184 yX6_takeFromDump ∈ zTB := zmem4 (List.mem_of_getElem? (i := 119) rfl) rfl
theorem mI_X6_takeFromDump : Cond.instanceMethod yX6_takeFromDump ∈ zTB := zmem4 (List.mem_of_getElem? (i := 120) rfl) rfl
theorem mS_X6_takeFromDump : Cond.selects RX6 yX6_takeFromDump yX6_takeFromDump ∈ zTB := zmem4 (List.mem_of_getElem? (i := 121) rfl) rfl
theorem mC_X6_takeFromDump : Cond.code yX6_takeFromDump cX6_takeFromDump 1 none ∈ zTB := zmem4 (List.mem_of_getElem? (i := 122) rfl) rfl
theorem mL_X9_126 : Cond.methodLink RX9 126 yX2_errorFound ∈ zTB := zmem4 (List.mem_of_getElem? (i := 123) rfl) rfl
theorem mI_X2_errorFound : Cond.instanceMethod yX2_errorFound ∈ zTB := zmem4 (List.mem_of_getElem? (i := 124) rfl) rfl
theorem mS_X2_errorFound : Cond.selects RX2 yX2_errorFound yX2_errorFound ∈ zTB := zmem4 (List.mem_of_getElem? (i := 125) rfl) rfl
theorem mC_X2_errorFound : Cond.code yX2_errorFound cX2_errorFound 1 (some .int) ∈ zTB := zmem4 (List.mem_of_getElem? (i := 126) rfl) rfl
theorem mL_L_41 : Cond.methodLink RL 41 yX9_state ∈ zTB := zmem4 (List.mem_of_getElem? (i := 127) rfl) rfl
theorem mI_X9_state : Cond.instanceMethod yX9_state ∈ zTB := zmem4 (List.mem_of_getElem? (i := 128) rfl) rfl
theorem mS_X9_state : Cond.selects RX9 yX9_state yX9_state ∈ zTB := zmem4 (List.mem_of_getElem? (i := 129) rfl) rfl
theorem mC_X9_state : Cond.code yX9_state cX9_state 1 (some .int) ∈ zTB := zmem4 (List.mem_of_getElem? (i := 130) rfl) rfl
theorem mL_L_45 : Cond.methodLink RL 45 yX9_error ∈ zTB := zmem4 (List.mem_of_getElem? (i := 131) rfl) rfl
theorem mI_X9_error : Cond.instanceMethod yX9_error ∈ zTB := zmem4 (List.mem_of_getElem? (i := 132) rfl) rfl
theorem mS_X9_error : Cond.selects RX9 yX9_error yX9_error ∈ zTB := zmem4 (List.mem_of_getElem? (i := 133) rfl) rfl
theorem mC_X9_error : Cond.code yX9_error cX9_error 1 (some .int) ∈ zTB := zmem4 (List.mem_of_getElem? (i := 134) rfl) rfl
theorem mL_L_49 : Cond.methodLink RL 49 yX9_next ∈ zTB := zmem4 (List.mem_of_getElem? (i := 135) rfl) rfl
theorem mI_X9_next : Cond.instanceMethod yX9_next ∈ zTB := zmem4 (List.mem_of_getElem? (i := 136) rfl) rfl
theorem mS_X9_next : Cond.selects RX9 yX9_next yX9_next ∈ zTB := zmem4 (List.mem_of_getElem? (i := 137) rfl) rfl
theorem mC_X9_next : Cond.code yX9_next cX9_next 1 (some .int) ∈ zTB := zmem4 (List.mem_of_getElem? (i := 138) rfl) rfl
theorem mL_X9_129 : Cond.methodLink RX9 129 yX2_look ∈ zTB := zmem4 (List.mem_of_getElem? (i := 139) rfl) rfl
theorem mL_L_53 : Cond.methodLink RL 53 yX9_stopAt ∈ zTB := zmem4 (List.mem_of_getElem? (i := 140) rfl) rfl
theorem mI_X9_stopAt : Cond.instanceMethod yX9_stopAt ∈ zTB := zmem4 (List.mem_of_getElem? (i := 141) rfl) rfl
theorem mS_X9_stopAt : Cond.selects RX9 yX9_stopAt yX9_stopAt ∈ zTB := zmem4 (List.mem_of_getElem? (i := 142) rfl) rfl
theorem mC_X9_stopAt : Cond.code yX9_stopAt cX9_stopAt 3 (some .int) ∈ zTB := zmem4 (List.mem_of_getElem? (i := 143) rfl) rfl
theorem mL_L_57 : Cond.methodLink RL 57 yX9_back ∈ zTB := zmem4 (List.mem_of_getElem? (i := 144) rfl) rfl
theorem mI_X9_back : Cond.instanceMethod yX9_back ∈ zTB := zmem4 (List.mem_of_getElem? (i := 145) rfl) rfl
theorem mS_X9_back : Cond.selects RX9 yX9_back yX9_back ∈ zTB := zmem4 (List.mem_of_getElem? (i := 146) rfl) rfl
theorem mC_X9_back : Cond.code yX9_back cX9_back 4 (some .int) ∈ zTB := zmem4 (List.mem_of_getElem? (i := 147) rfl) rfl
theorem mL_X9_135 : Cond.methodLink RX9 135 yX1_freeTheRest ∈ zTB := zmem4 (List.mem_of_getElem? (i := 148) rfl) rfl
theorem mI_X1_freeTheRest : Cond.instanceMethod yX1_freeTheRest ∈ zTB := zmem4 (List.mem_of_getElem? (i := 149) rfl) rfl
theorem mS_X1_freeTheRest : Cond.selects RX1 yX1_freeTheRest yX1_freeTheRest ∈ zTB := zmem4 (List.mem_of_getElem? (i := 150) rfl) rfl
theorem mC_X1_freeTheRest : Cond.code yX1_freeTheRest cX1_freeTheRest 3 (some .int) ∈ zTB := zmem4 (List.mem_of_getElem? (i := 151) rfl) rfl
theorem mL_X1_37 : Cond.methodLink RX1 37 yX1_findKept ∈ zTB := zmem4 (List.mem_of_getElem? (i := 152) rfl) rfl
theorem mI_X1_findKept : Cond.instanceMethod yX1_findKept ∈ zTB := zmem4 (List.mem_of_getElem? (i := 154) rfl) rfl
theorem mC_X1_findKept : Cond.code yX1_findKept cX1_findKept 5 none ∈ zTB := zmem4 (List.mem_of_getElem? (i := 155) rfl) rfl
theorem mL_X1_75 : Cond.methodLink RX1 75 yX1_markBeginnings ∈ zTB := zmem4 (List.mem_of_getElem? (i := 156) rfl) rfl
theorem mI_X1_markBeginnings : Cond.instanceMethod yX1_markBeginnings ∈ zTB := zmem4 (List.mem_of_getElem? (i := 158) rfl) rfl
theorem mC_X1_markBeginnings : Cond.code yX1_markBeginnings cX1_markBeginnings 3 none ∈ zTB := zmem4 (List.mem_of_getElem? (i := 159) rfl) rfl
theorem mL_X1_85 : Cond.methodLink RX1 85 yX4_size ∈ zTB := zmem4 (List.mem_of_getElem? (i := 160) rfl) rfl
theorem mL_X1_66 : Cond.methodLink RX1 66 yX6_size ∈ zTB := zmem4 (List.mem_of_getElem? (i := 161) rfl) rfl
theorem mI_X6_size : Cond.instanceMethod yX6_size ∈ zTB := zmem4 (List.mem_of_getElem? (i := 162) rfl) rfl
theorem mS_X6_size : Cond.selects RX6 yX6_size yX6_size ∈ zTB := zmem4 (List.mem_of_getElem? (i := 163) rfl) rfl
theorem mC_X6_size : Cond.code yX6_size cX6_size 1 (some .int) ∈ zTB := zmem4 (List.mem_of_getElem? (i := 164) rfl) rfl
theorem mL_X1_72 : Cond.methodLink RX1 72 yX6_at ∈ zTB := zmem4 (List.mem_of_getElem? (i := 165) rfl) rfl
theorem mL_X1_78 : Cond.methodLink RX1 78 yX1_addFound ∈ zTB := zmem4 (List.mem_of_getElem? (i := 166) rfl) rfl
theorem mI_X1_addFound : Cond.instanceMethod yX1_addFound ∈ zTB := zmem4 (List.mem_of_getElem? (i := 168) rfl) rfl
theorem mC_X1_addFound : Cond.code yX1_addFound cX1_addFound 3 none ∈ zTB := zmem4 (List.mem_of_getElem? (i := 169) rfl) rfl
theorem mL_X1_60 : Cond.methodLink RX1 60 yX0_firstOf ∈ zTB := zmem4 (List.mem_of_getElem? (i := 170) rfl) rfl
theorem mL_X1_63 : Cond.methodLink RX1 63 yX0_secondOf ∈ zTB := zmem4 (List.mem_of_getElem? (i := 171) rfl) rfl
theorem mL_X1_54 : Cond.methodLink RX1 54 yX0_hasTwo ∈ zTB := zmem4 (List.mem_of_getElem? (i := 172) rfl) rfl
theorem mI_X0_hasTwo : Cond.instanceMethod yX0_hasTwo ∈ zTB := zmem4 (List.mem_of_getElem? (i := 173) rfl) rfl
theorem mS_X0_hasTwo : Cond.selects RX0 yX0_hasTwo yX0_hasTwo ∈ zTB := zmem4 (List.mem_of_getElem? (i := 174) rfl) rfl
theorem mC_X0_hasTwo : Cond.code yX0_hasTwo cX0_hasTwo 3 (some .boolean) ∈ zTB := zmem4 (List.mem_of_getElem? (i := 175) rfl) rfl
theorem mL_X1_82 : Cond.methodLink RX1 82 yX1_comeTo ∈ zTB := zmem4 (List.mem_of_getElem? (i := 176) rfl) rfl
theorem mI_X1_comeTo : Cond.instanceMethod yX1_comeTo ∈ zTB := zmem4 (List.mem_of_getElem? (i := 178) rfl) rfl
theorem mC_X1_comeTo : Cond.code yX1_comeTo cX1_comeTo 3 none ∈ zTB := zmem4 (List.mem_of_getElem? (i := 179) rfl) rfl
theorem mL_X1_40 : Cond.methodLink RX1 40 yX1_lengthOf ∈ zTB := zmem4 (List.mem_of_getElem? (i := 180) rfl) rfl
theorem mI_X1_lengthOf : Cond.instanceMethod yX1_lengthOf ∈ zTB := zmem4 (List.mem_of_getElem? (i := 182) rfl) rfl
theorem mC_X1_lengthOf : Cond.code yX1_lengthOf cX1_lengthOf 2 (some .int) ∈ zTB := zmem4 (List.mem_of_getElem? (i := 183) rfl) rfl
theorem mL_X1_57 : Cond.methodLink RX1 57 yX0_hasOne ∈ zTB := zmem4 (List.mem_of_getElem? (i := 184) rfl) rfl
theorem mI_X0_hasOne : Cond.instanceMethod yX0_hasOne ∈ zTB := zmem4 (List.mem_of_getElem? (i := 185) rfl) rfl
theorem mS_X0_hasOne : Cond.selects RX0 yX0_hasOne yX0_hasOne ∈ zTB := zmem4 (List.mem_of_getElem? (i := 186) rfl) rfl
theorem mC_X0_hasOne : Cond.code yX0_hasOne cX0_hasOne 2 (some .boolean) ∈ zTB := zmem4 (List.mem_of_getElem? (i := 187) rfl) rfl
theorem mL_X1_44 : Cond.methodLink RX1 44 yX0_isFree ∈ zTB := zmem4 (List.mem_of_getElem? (i := 188) rfl) rfl
theorem mI_X0_isFree : Cond.instanceMethod yX0_isFree ∈ zTB := zmem4 (List.mem_of_getElem? (i := 189) rfl) rfl
theorem mS_X0_isFree : Cond.selects RX0 yX0_isFree yX0_isFree ∈ zTB := zmem4 (List.mem_of_getElem? (i := 190) rfl) rfl
theorem mC_X0_isFree : Cond.code yX0_isFree cX0_isFree 2 (some .boolean) ∈ zTB := zmem4 (List.mem_of_getElem? (i := 191) rfl) rfl
theorem mL_X1_50 : Cond.methodLink RX1 50 yX0_free ∈ zTB := zmem4 (List.mem_of_getElem? (i := 192) rfl) rfl
theorem mI_X0_free : Cond.instanceMethod yX0_free ∈ zTB := zmem4 (List.mem_of_getElem? (i := 193) rfl) rfl
theorem mS_X0_free : Cond.selects RX0 yX0_free yX0_free ∈ zTB := zmem4 (List.mem_of_getElem? (i := 194) rfl) rfl
theorem mC_X0_free : Cond.code yX0_free cX0_free 2 none ∈ zTB := zmem4 (List.mem_of_getElem? (i := 195) rfl) rfl
theorem mL_X0_40 : Cond.methodLink RX0 40 yX0_isFree ∈ zTB := zmem4 (List.mem_of_getElem? (i := 196) rfl) rfl
theorem mL_X0_44 : Cond.methodLink RX0 44 yX0_become ∈ zTB := zmem4 (List.mem_of_getElem? (i := 197) rfl) rfl
theorem mL_L_61 : Cond.methodLink RL 61 yX9_sweep ∈ zTB := zmem4 (List.mem_of_getElem? (i := 198) rfl) rfl
theorem mI_X9_sweep : Cond.instanceMethod yX9_sweep ∈ zTB := zmem4 (List.mem_of_getElem? (i := 199) rfl) rfl
theorem mS_X9_sweep : Cond.selects RX9 yX9_sweep yX9_sweep ∈ zTB := zmem4 (List.mem_of_getElem? (i := 200) rfl) rfl
theorem mC_X9_sweep : Cond.code yX9_sweep cX9_sweep 3 (some .int) ∈ zTB := zmem4 (List.mem_of_getElem? (i := 201) rfl) rfl
theorem mL_L_65 : Cond.methodLink RL 65 yX9_count ∈ zTB := zmem4 (List.mem_of_getElem? (i := 202) rfl) rfl
theorem mI_X9_count : Cond.instanceMethod yX9_count ∈ zTB := zmem4 (List.mem_of_getElem? (i := 203) rfl) rfl
theorem mS_X9_count : Cond.selects RX9 yX9_count yX9_count ∈ zTB := zmem4 (List.mem_of_getElem? (i := 204) rfl) rfl
theorem mC_X9_count : Cond.code yX9_count cX9_count 2 (some .int) ∈ zTB := zmem4 (List.mem_of_getElem? (i := 205) rfl) rfl
theorem mL_X9_138 : Cond.methodLink RX9 138 yX0_used ∈ zTB := zmem4 (List.mem_of_getElem? (i := 206) rfl) rfl
theorem mI_X0_used : Cond.instanceMethod yX0_used ∈ zTB := zmem4 (List.mem_of_getElem? (i := 207) rfl) rfl
theorem mS_X0_used : Cond.selects RX0 yX0_used yX0_used ∈ zTB := zmem4 (List.mem_of_getElem? (i := 208) rfl) rfl
theorem mC_X0_used : Cond.code yX0_used cX0_used 1 (some .int) ∈ zTB := zmem4 (List.mem_of_getElem? (i := 209) rfl) rfl
theorem mL_X9_141 : Cond.methodLink RX9 141 yX1_countKept ∈ zTB := zmem4 (List.mem_of_getElem? (i := 210) rfl) rfl
theorem mI_X1_countKept : Cond.instanceMethod yX1_countKept ∈ zTB := zmem4 (List.mem_of_getElem? (i := 211) rfl) rfl
theorem mS_X1_countKept : Cond.selects RX1 yX1_countKept yX1_countKept ∈ zTB := zmem4 (List.mem_of_getElem? (i := 212) rfl) rfl
theorem mC_X1_countKept : Cond.code yX1_countKept cX1_countKept 1 (some .int) ∈ zTB := zmem4 (List.mem_of_getElem? (i := 213) rfl) rfl
theorem mL_X9_144 : Cond.methodLink RX9 144 yX6_height ∈ zTB := zmem4 (List.mem_of_getElem? (i := 214) rfl) rfl
theorem mL_X9_147 : Cond.methodLink RX9 147 yX6_dumped ∈ zTB := zmem4 (List.mem_of_getElem? (i := 215) rfl) rfl
theorem mL_X9_150 : Cond.methodLink RX9 150 yX0_made ∈ zTB := zmem4 (List.mem_of_getElem? (i := 216) rfl) rfl
theorem mI_X0_made : Cond.instanceMethod yX0_made ∈ zTB := zmem4 (List.mem_of_getElem? (i := 217) rfl) rfl
theorem mS_X0_made : Cond.selects RX0 yX0_made yX0_made ∈ zTB := zmem4 (List.mem_of_getElem? (i := 218) rfl) rfl
theorem mC_X0_made : Cond.code yX0_made cX0_made 1 (some .int) ∈ zTB := zmem4 (List.mem_of_getElem? (i := 219) rfl) rfl
theorem mL_X9_153 : Cond.methodLink RX9 153 yX0_most ∈ zTB := zmem4 (List.mem_of_getElem? (i := 220) rfl) rfl
theorem mI_X0_most : Cond.instanceMethod yX0_most ∈ zTB := zmem4 (List.mem_of_getElem? (i := 221) rfl) rfl
theorem mS_X0_most : Cond.selects RX0 yX0_most yX0_most ∈ zTB := zmem4 (List.mem_of_getElem? (i := 222) rfl) rfl
theorem mC_X0_most : Cond.code yX0_most cX0_most 1 (some .int) ∈ zTB := zmem4 (List.mem_of_getElem? (i := 223) rfl) rfl
theorem mL_L_69 : Cond.methodLink RL 69 yX9_node ∈ zTB := zmem4 (List.mem_of_getElem? (i := 224) rfl) rfl
theorem mI_X9_node : Cond.instanceMethod yX9_node ∈ zTB := zmem4 (List.mem_of_getElem? (i := 225) rfl) rfl
theorem mS_X9_node : Cond.selects RX9 yX9_node yX9_node ∈ zTB := zmem4 (List.mem_of_getElem? (i := 226) rfl) rfl
theorem mC_X9_node : Cond.code yX9_node cX9_node 3 (some .int) ∈ zTB := zmem4 (List.mem_of_getElem? (i := 227) rfl) rfl
theorem mL_X9_156 : Cond.methodLink RX9 156 yX0_isFree ∈ zTB := zmem4 (List.mem_of_getElem? (i := 228) rfl) rfl
theorem mL_X9_159 : Cond.methodLink RX9 159 yX0_kindOf ∈ zTB := zmem4 (List.mem_of_getElem? (i := 229) rfl) rfl
theorem mL_X9_162 : Cond.methodLink RX9 162 yX0_firstOf ∈ zTB := zmem4 (List.mem_of_getElem? (i := 230) rfl) rfl
theorem mL_X9_165 : Cond.methodLink RX9 165 yX0_secondOf ∈ zTB := zmem4 (List.mem_of_getElem? (i := 231) rfl) rfl
theorem mL_X9_168 : Cond.methodLink RX9 168 yX0_makerOf ∈ zTB := zmem4 (List.mem_of_getElem? (i := 232) rfl) rfl
theorem mI_X0_makerOf : Cond.instanceMethod yX0_makerOf ∈ zTB := zmem4 (List.mem_of_getElem? (i := 233) rfl) rfl
theorem mS_X0_makerOf : Cond.selects RX0 yX0_makerOf yX0_makerOf ∈ zTB := zmem4 (List.mem_of_getElem? (i := 234) rfl) rfl
theorem mC_X0_makerOf : Cond.code yX0_makerOf cX0_makerOf 2 (some .int) ∈ zTB := zmem4 (List.mem_of_getElem? (i := 235) rfl) rfl
theorem mL_X9_171 : Cond.methodLink RX9 171 yX1_placesThatHave ∈ zTB := zmem4 (List.mem_of_getElem? (i := 236) rfl) rfl
theorem mI_X1_placesThatHave : Cond.instanceMethod yX1_placesThatHave ∈ zTB := zmem4 (List.mem_of_getElem? (i := 237) rfl) rfl
theorem mS_X1_placesThatHave : Cond.selects RX1 yX1_placesThatHave yX1_placesThatHave ∈ zTB := zmem4 (List.mem_of_getElem? (i := 238) rfl) rfl
theorem mC_X1_placesThatHave : Cond.code yX1_placesThatHave cX1_placesThatHave 5 (some .int) ∈ zTB := zmem4 (List.mem_of_getElem? (i := 239) rfl) rfl
theorem mL_X9_174 : Cond.methodLink RX9 174 yX1_keeps ∈ zTB := zmem5 (List.mem_of_getElem? (i := 0) rfl) rfl
theorem mI_X1_keeps : Cond.instanceMethod yX1_keeps ∈ zTB := zmem5 (List.mem_of_getElem? (i := 1) rfl) rfl
theorem mS_X1_keeps : Cond.selects RX1 yX1_keeps yX1_keeps ∈ zTB := zmem5 (List.mem_of_getElem? (i := 2) rfl) rfl
theorem mC_X1_keeps : Cond.code yX1_keeps cX1_keeps 2 (some .boolean) ∈ zTB := zmem5 (List.mem_of_getElem? (i := 3) rfl) rfl
theorem mL_L_74 : Cond.methodLink RL 74 yX9_top ∈ zTB := zmem5 (List.mem_of_getElem? (i := 4) rfl) rfl
theorem mI_X9_top : Cond.instanceMethod yX9_top ∈ zTB := zmem5 (List.mem_of_getElem? (i := 5) rfl) rfl
theorem mS_X9_top : Cond.selects RX9 yX9_top yX9_top ∈ zTB := zmem5 (List.mem_of_getElem? (i := 6) rfl) rfl
theorem mC_X9_top : Cond.code yX9_top cX9_top 3 (some .int) ∈ zTB := zmem5 (List.mem_of_getElem? (i := 7) rfl) rfl
theorem mL_X9_177 : Cond.methodLink RX9 177 yX6_fromTop ∈ zTB := zmem5 (List.mem_of_getElem? (i := 8) rfl) rfl
theorem mL_L_78 : Cond.methodLink RL 78 yX9_why ∈ zTB := zmem5 (List.mem_of_getElem? (i := 9) rfl) rfl
theorem mI_X9_why : Cond.instanceMethod yX9_why ∈ zTB := zmem5 (List.mem_of_getElem? (i := 10) rfl) rfl
theorem mS_X9_why : Cond.selects RX9 yX9_why yX9_why ∈ zTB := zmem5 (List.mem_of_getElem? (i := 11) rfl) rfl
theorem mC_X9_why : Cond.code yX9_why cX9_why 3 (some .int) ∈ zTB := zmem5 (List.mem_of_getElem? (i := 12) rfl) rfl
theorem mL_X9_180 : Cond.methodLink RX9 180 yX6_topOfDumped ∈ zTB := zmem5 (List.mem_of_getElem? (i := 13) rfl) rfl
theorem mI_X6_topOfDumped : Cond.instanceMethod yX6_topOfDumped ∈ zTB := zmem5 (List.mem_of_getElem? (i := 14) rfl) rfl
theorem mS_X6_topOfDumped : Cond.selects RX6 yX6_topOfDumped yX6_topOfDumped ∈ zTB := zmem5 (List.mem_of_getElem? (i := 15) rfl) rfl
theorem mC_X6_topOfDumped : Cond.code yX6_topOfDumped cX6_topOfDumped 2 (some .int) ∈ zTB := zmem5 (List.mem_of_getElem? (i := 16) rfl) rfl
theorem mL_L_82 : Cond.methodLink RL 82 yX9_way ∈ zTB := zmem5 (List.mem_of_getElem? (i := 17) rfl) rfl
theorem mI_X9_way : Cond.instanceMethod yX9_way ∈ zTB := zmem5 (List.mem_of_getElem? (i := 18) rfl) rfl
theorem mS_X9_way : Cond.selects RX9 yX9_way yX9_way ∈ zTB := zmem5 (List.mem_of_getElem? (i := 19) rfl) rfl
theorem mC_X9_way : Cond.code yX9_way cX9_way 4 (some .int) ∈ zTB := zmem5 (List.mem_of_getElem? (i := 20) rfl) rfl
theorem mL_X9_183 : Cond.methodLink RX9 183 yX1_wayTo ∈ zTB := zmem5 (List.mem_of_getElem? (i := 21) rfl) rfl
theorem mI_X1_wayTo : Cond.instanceMethod yX1_wayTo ∈ zTB := zmem5 (List.mem_of_getElem? (i := 22) rfl) rfl
theorem mS_X1_wayTo : Cond.selects RX1 yX1_wayTo yX1_wayTo ∈ zTB := zmem5 (List.mem_of_getElem? (i := 23) rfl) rfl
theorem mC_X1_wayTo : Cond.code yX1_wayTo cX1_wayTo 2 (some .int) ∈ zTB := zmem5 (List.mem_of_getElem? (i := 24) rfl) rfl
theorem mL_X9_186 : Cond.methodLink RX9 186 yX1_onWay ∈ zTB := zmem5 (List.mem_of_getElem? (i := 25) rfl) rfl
theorem mI_X1_onWay : Cond.instanceMethod yX1_onWay ∈ zTB := zmem5 (List.mem_of_getElem? (i := 26) rfl) rfl
theorem mS_X1_onWay : Cond.selects RX1 yX1_onWay yX1_onWay ∈ zTB := zmem5 (List.mem_of_getElem? (i := 27) rfl) rfl
theorem mC_X1_onWay : Cond.code yX1_onWay cX1_onWay 5 (some .int) ∈ zTB := zmem5 (List.mem_of_getElem? (i := 28) rfl) rfl
theorem mL_L_86 : Cond.methodLink RL 86 yX9_profile ∈ zTB := zmem5 (List.mem_of_getElem? (i := 29) rfl) rfl
theorem mI_X9_profile : Cond.instanceMethod yX9_profile ∈ zTB := zmem5 (List.mem_of_getElem? (i := 30) rfl) rfl
theorem mS_X9_profile : Cond.selects RX9 yX9_profile yX9_profile ∈ zTB := zmem5 (List.mem_of_getElem? (i := 31) rfl) rfl
theorem mC_X9_profile : Cond.code yX9_profile cX9_profile 3 (some .int) ∈ zTB := zmem5 (List.mem_of_getElem? (i := 32) rfl) rfl
theorem mL_X9_190 : Cond.methodLink RX9 190 yX2_timesMade ∈ zTB := zmem5 (List.mem_of_getElem? (i := 33) rfl) rfl
theorem mI_X2_timesMade : Cond.instanceMethod yX2_timesMade ∈ zTB := zmem5 (List.mem_of_getElem? (i := 34) rfl) rfl
theorem mS_X2_timesMade : Cond.selects RX2 yX2_timesMade yX2_timesMade ∈ zTB := zmem5 (List.mem_of_getElem? (i := 35) rfl) rfl
theorem mC_X2_timesMade : Cond.code yX2_timesMade cX2_timesMade 2 (some .int) ∈ zTB := zmem5 (List.mem_of_getElem? (i := 36) rfl) rfl
theorem mL_X9_193 : Cond.methodLink RX9 193 yX2_nodesMadeBy ∈ zTB := zmem5 (List.mem_of_getElem? (i := 37) rfl) rfl
theorem mI_X2_nodesMadeBy : Cond.instanceMethod yX2_nodesMadeBy ∈ zTB := zmem5 (List.mem_of_getElem? (i := 38) rfl) rfl
theorem mS_X2_nodesMadeBy : Cond.selects RX2 yX2_nodesMadeBy yX2_nodesMadeBy ∈ zTB := zmem5 (List.mem_of_getElem? (i := 39) rfl) rfl
theorem mC_X2_nodesMadeBy : Cond.code yX2_nodesMadeBy cX2_nodesMadeBy 2 (some .int) ∈ zTB := zmem5 (List.mem_of_getElem? (i := 40) rfl) rfl
theorem mL_L_90 : Cond.methodLink RL 90 yX9_rest ∈ zTB := zmem5 (List.mem_of_getElem? (i := 41) rfl) rfl
theorem mI_X9_rest : Cond.instanceMethod yX9_rest ∈ zTB := zmem5 (List.mem_of_getElem? (i := 42) rfl) rfl
theorem mS_X9_rest : Cond.selects RX9 yX9_rest yX9_rest ∈ zTB := zmem5 (List.mem_of_getElem? (i := 43) rfl) rfl
theorem mC_X9_rest : Cond.code yX9_rest cX9_rest 1 (some .int) ∈ zTB := zmem5 (List.mem_of_getElem? (i := 44) rfl) rfl
theorem mL_L_94 : Cond.methodLink RL 94 yL_share ∈ zTB := zmem5 (List.mem_of_getElem? (i := 45) rfl) rfl
theorem mT_L_share : Cond.static yL_share ∈ zTB := zmem5 (List.mem_of_getElem? (i := 46) rfl) rfl
theorem mL_L_7 : Cond.methodLink RL 7 yX9_share ∈ zTB := zmem5 (List.mem_of_getElem? (i := 49) rfl) rfl
theorem mI_X9_share : Cond.instanceMethod yX9_share ∈ zTB := zmem5 (List.mem_of_getElem? (i := 50) rfl) rfl
theorem mS_X9_share : Cond.selects RX9 yX9_share yX9_share ∈ zTB := zmem5 (List.mem_of_getElem? (i := 51) rfl) rfl
theorem mC_X9_share : Cond.code yX9_share cX9_share 2 (some .int) ∈ zTB := zmem5 (List.mem_of_getElem? (i := 52) rfl) rfl
theorem mL_X9_200 : Cond.methodLink RX9 200 ⟨"java/lang/ArithmeticException", "<init>", "(Ljava/lang/String;)V"⟩ ∈ zTB := zmem5 (List.mem_of_getElem? (i := 93) rfl) rfl
theorem mB_L_16 : Cond.classLink RL 16 RX10 ∈ zTB := zmem5 (List.mem_of_getElem? (i := 118) rfl) rfl
theorem mW_X10 : Cond.instantiable RX10 67 ∈ zTB := zmem5 (List.mem_of_getElem? (i := 119) rfl) rfl
theorem mL_L_18 : Cond.methodLink RL 18 yX10_init ∈ zTB := zmem5 (List.mem_of_getElem? (i := 120) rfl) rfl
theorem mI_X10_init : Cond.instanceMethod yX10_init ∈ zTB := zmem5 (List.mem_of_getElem? (i := 121) rfl) rfl
theorem mC_X10_init : Cond.code yX10_init cX10_init 1 none ∈ zTB := zmem5 (List.mem_of_getElem? (i := 122) rfl) rfl
theorem mL_X10_1 : Cond.methodLink RX10 1 ⟨"java/lang/Object", "<init>", "()V"⟩ ∈ zTB := zmem5 (List.mem_of_getElem? (i := 123) rfl) rfl
theorem mK_X10_13 : Cond.constantLong RX10 13 7103860 ∈ zTB := zmem5 (List.mem_of_getElem? (i := 124) rfl) rfl
theorem mK_X10_15 : Cond.constantLong RX10 15 26990 ∈ zTB := zmem5 (List.mem_of_getElem? (i := 125) rfl) rfl
theorem mK_X10_17 : Cond.constantLong RX10 17 6382692 ∈ zTB := zmem5 (List.mem_of_getElem? (i := 126) rfl) rfl
theorem mK_X10_19 : Cond.constantLong RX10 19 7566690 ∈ zTB := zmem5 (List.mem_of_getElem? (i := 127) rfl) rfl
theorem mK_X10_21 : Cond.constantLong RX10 21 7173484 ∈ zTB := zmem5 (List.mem_of_getElem? (i := 128) rfl) rfl
theorem mK_X10_23 : Cond.constantLong RX10 23 7435631 ∈ zTB := zmem5 (List.mem_of_getElem? (i := 129) rfl) rfl
theorem mK_X10_25 : Cond.constantLong RX10 25 1818588019 ∈ zTB := zmem5 (List.mem_of_getElem? (i := 130) rfl) rfl
theorem mK_X10_27 : Cond.constantLong RX10 27 1935764837 ∈ zTB := zmem5 (List.mem_of_getElem? (i := 131) rfl) rfl
theorem mK_X10_29 : Cond.constantLong RX10 29 26982 ∈ zTB := zmem5 (List.mem_of_getElem? (i := 132) rfl) rfl
theorem mK_X10_31 : Cond.constantLong RX10 31 1668247155 ∈ zTB := zmem5 (List.mem_of_getElem? (i := 133) rfl) rfl
theorem mK_X10_33 : Cond.constantLong RX10 33 7235948 ∈ zTB := zmem5 (List.mem_of_getElem? (i := 134) rfl) rfl
theorem mK_X10_35 : Cond.constantLong RX10 35 1751474532 ∈ zTB := zmem5 (List.mem_of_getElem? (i := 135) rfl) rfl
theorem mK_X10_37 : Cond.constantLong RX10 37 1952541036 ∈ zTB := zmem5 (List.mem_of_getElem? (i := 136) rfl) rfl
theorem mK_X10_39 : Cond.constantLong RX10 39 435627783289 ∈ zTB := zmem5 (List.mem_of_getElem? (i := 137) rfl) rfl
theorem mK_X10_41 : Cond.constantLong RX10 41 7562609 ∈ zTB := zmem5 (List.mem_of_getElem? (i := 138) rfl) rfl
theorem mF_X10_153 : Cond.fieldLink RX10 153 "NeedStepsModel" "thrown" "I" ∈ zTB := zmem5 (List.mem_of_getElem? (i := 139) rfl) rfl
theorem mF_X10_7 : Cond.fieldLink RX10 7 "NeedStepsModel" "tape" "[I" ∈ zTB := zmem5 (List.mem_of_getElem? (i := 140) rfl) rfl
theorem mF_X10_157 : Cond.fieldLink RX10 157 "NeedStepsModel" "taped" "I" ∈ zTB := zmem5 (List.mem_of_getElem? (i := 141) rfl) rfl
theorem mF_X10_43 : Cond.fieldLink RX10 43 "NeedStepsModel" "words" "[J" ∈ zTB := zmem5 (List.mem_of_getElem? (i := 142) rfl) rfl
theorem mF_X10_177 : Cond.fieldLink RX10 177 "NeedStepsModel" "tok" "I" ∈ zTB := zmem5 (List.mem_of_getElem? (i := 143) rfl) rfl
theorem mF_X10_174 : Cond.fieldLink RX10 174 "NeedStepsModel" "from" "I" ∈ zTB := zmem5 (List.mem_of_getElem? (i := 144) rfl) rfl
theorem mF_X10_167 : Cond.fieldLink RX10 167 "NeedStepsModel" "to" "I" ∈ zTB := zmem5 (List.mem_of_getElem? (i := 145) rfl) rfl
theorem mF_X10_190 : Cond.fieldLink RX10 190 "NeedStepsModel" "name" "J" ∈ zTB := zmem5 (List.mem_of_getElem? (i := 146) rfl) rfl
theorem mF_X10_184 : Cond.fieldLink RX10 184 "NeedStepsModel" "number" "I" ∈ zTB := zmem5 (List.mem_of_getElem? (i := 147) rfl) rfl
theorem mF_X10_164 : Cond.fieldLink RX10 164 "NeedStepsModel" "fault" "I" ∈ zTB := zmem5 (List.mem_of_getElem? (i := 148) rfl) rfl
theorem mF_X10_194 : Cond.fieldLink RX10 194 "NeedStepsModel" "faultAt" "I" ∈ zTB := zmem5 (List.mem_of_getElem? (i := 149) rfl) rfl
theorem mF_X10_246 : Cond.fieldLink RX10 246 "NeedStepsModel" "definitions" "I" ∈ zTB := zmem5 (List.mem_of_getElem? (i := 150) rfl) rfl
theorem mF_X10_47 : Cond.fieldLink RX10 47 "NeedStepsModel" "defined" "[J" ∈ zTB := zmem5 (List.mem_of_getElem? (i := 151) rfl) rfl
theorem mF_X10_50 : Cond.fieldLink RX10 50 "NeedStepsModel" "params" "[I" ∈ zTB := zmem5 (List.mem_of_getElem? (i := 152) rfl) rfl
theorem mF_X10_53 : Cond.fieldLink RX10 53 "NeedStepsModel" "param" "[J" ∈ zTB := zmem5 (List.mem_of_getElem? (i := 153) rfl) rfl
theorem mF_X10_56 : Cond.fieldLink RX10 56 "NeedStepsModel" "codeFrom" "[I" ∈ zTB := zmem5 (List.mem_of_getElem? (i := 154) rfl) rfl
theorem mF_X10_59 : Cond.fieldLink RX10 59 "NeedStepsModel" "codeTo" "[I" ∈ zTB := zmem5 (List.mem_of_getElem? (i := 155) rfl) rfl
theorem mF_X10_62 : Cond.fieldLink RX10 62 "NeedStepsModel" "makes" "[I" ∈ zTB := zmem5 (List.mem_of_getElem? (i := 156) rfl) rfl
theorem mF_X10_208 : Cond.fieldLink RX10 208 "NeedStepsModel" "codes" "I" ∈ zTB := zmem5 (List.mem_of_getElem? (i := 157) rfl) rfl
theorem mF_X10_65 : Cond.fieldLink RX10 65 "NeedStepsModel" "op" "[I" ∈ zTB := zmem5 (List.mem_of_getElem? (i := 158) rfl) rfl
theorem mF_X10_68 : Cond.fieldLink RX10 68 "NeedStepsModel" "arg" "[I" ∈ zTB := zmem5 (List.mem_of_getElem? (i := 159) rfl) rfl
theorem mF_X10_71 : Cond.fieldLink RX10 71 "NeedStepsModel" "used" "[J" ∈ zTB := zmem5 (List.mem_of_getElem? (i := 160) rfl) rfl
theorem mF_X10_74 : Cond.fieldLink RX10 74 "NeedStepsModel" "usedAt" "[I" ∈ zTB := zmem5 (List.mem_of_getElem? (i := 161) rfl) rfl
theorem mF_X10_77 : Cond.fieldLink RX10 77 "NeedStepsModel" "usedIn" "[I" ∈ zTB := zmem5 (List.mem_of_getElem? (i := 162) rfl) rfl
theorem mF_X10_240 : Cond.fieldLink RX10 240 "NeedStepsModel" "lets" "I" ∈ zTB := zmem5 (List.mem_of_getElem? (i := 163) rfl) rfl
theorem mF_X10_80 : Cond.fieldLink RX10 80 "NeedStepsModel" "letOuter" "[I" ∈ zTB := zmem5 (List.mem_of_getElem? (i := 164) rfl) rfl
theorem mF_X10_83 : Cond.fieldLink RX10 83 "NeedStepsModel" "letMany" "[I" ∈ zTB := zmem5 (List.mem_of_getElem? (i := 165) rfl) rfl
theorem mF_X10_243 : Cond.fieldLink RX10 243 "NeedStepsModel" "slots" "I" ∈ zTB := zmem5 (List.mem_of_getElem? (i := 166) rfl) rfl
theorem mF_X10_86 : Cond.fieldLink RX10 86 "NeedStepsModel" "slotName" "[J" ∈ zTB := zmem5 (List.mem_of_getElem? (i := 167) rfl) rfl
theorem mF_X10_211 : Cond.fieldLink RX10 211 "NeedStepsModel" "top" "I" ∈ zTB := zmem5 (List.mem_of_getElem? (i := 168) rfl) rfl
theorem mF_X10_89 : Cond.fieldLink RX10 89 "NeedStepsModel" "pk" "[I" ∈ zTB := zmem5 (List.mem_of_getElem? (i := 169) rfl) rfl
theorem mF_X10_92 : Cond.fieldLink RX10 92 "NeedStepsModel" "ps" "[I" ∈ zTB := zmem5 (List.mem_of_getElem? (i := 170) rfl) rfl
theorem mF_X10_95 : Cond.fieldLink RX10 95 "NeedStepsModel" "pn" "[I" ∈ zTB := zmem5 (List.mem_of_getElem? (i := 171) rfl) rfl
theorem mF_X10_98 : Cond.fieldLink RX10 98 "NeedStepsModel" "pl" "[I" ∈ zTB := zmem5 (List.mem_of_getElem? (i := 172) rfl) rfl
theorem mF_X10_230 : Cond.fieldLink RX10 230 "NeedStepsModel" "open" "I" ∈ zTB := zmem5 (List.mem_of_getElem? (i := 173) rfl) rfl
theorem mF_X10_214 : Cond.fieldLink RX10 214 "NeedStepsModel" "scope" "I" ∈ zTB := zmem5 (List.mem_of_getElem? (i := 174) rfl) rfl
theorem mF_X10_101 : Cond.fieldLink RX10 101 "NeedStepsModel" "pv" "[I" ∈ zTB := zmem5 (List.mem_of_getElem? (i := 175) rfl) rfl
theorem mF_X10_104 : Cond.fieldLink RX10 104 "NeedStepsModel" "slotLet" "[I" ∈ zTB := zmem5 (List.mem_of_getElem? (i := 176) rfl) rfl
theorem mF_X10_107 : Cond.fieldLink RX10 107 "NeedStepsModel" "slotOwner" "[I" ∈ zTB := zmem5 (List.mem_of_getElem? (i := 177) rfl) rfl
theorem mF_X10_110 : Cond.fieldLink RX10 110 "NeedStepsModel" "kind" "[I" ∈ zTB := zmem5 (List.mem_of_getElem? (i := 178) rfl) rfl
theorem mF_X10_113 : Cond.fieldLink RX10 113 "NeedStepsModel" "first" "[I" ∈ zTB := zmem5 (List.mem_of_getElem? (i := 179) rfl) rfl
theorem mF_X10_116 : Cond.fieldLink RX10 116 "NeedStepsModel" "second" "[I" ∈ zTB := zmem5 (List.mem_of_getElem? (i := 180) rfl) rfl
theorem mF_X10_119 : Cond.fieldLink RX10 119 "NeedStepsModel" "maker" "[I" ∈ zTB := zmem5 (List.mem_of_getElem? (i := 181) rfl) rfl
theorem mF_X10_256 : Cond.fieldLink RX10 256 "NeedStepsModel" "living" "I" ∈ zTB := zmem5 (List.mem_of_getElem? (i := 182) rfl) rfl
theorem mF_X10_259 : Cond.fieldLink RX10 259 "NeedStepsModel" "most" "I" ∈ zTB := zmem5 (List.mem_of_getElem? (i := 183) rfl) rfl
theorem mF_X10_262 : Cond.fieldLink RX10 262 "NeedStepsModel" "madeAll" "I" ∈ zTB := zmem5 (List.mem_of_getElem? (i := 184) rfl) rfl
theorem mF_X10_122 : Cond.fieldLink RX10 122 "NeedStepsModel" "madeTimes" "[I" ∈ zTB := zmem5 (List.mem_of_getElem? (i := 185) rfl) rfl
theorem mF_X10_125 : Cond.fieldLink RX10 125 "NeedStepsModel" "madeNodes" "[I" ∈ zTB := zmem5 (List.mem_of_getElem? (i := 186) rfl) rfl
theorem mF_X10_271 : Cond.fieldLink RX10 271 "NeedStepsModel" "places" "I" ∈ zTB := zmem5 (List.mem_of_getElem? (i := 187) rfl) rfl
theorem mF_X10_128 : Cond.fieldLink RX10 128 "NeedStepsModel" "stack" "[I" ∈ zTB := zmem5 (List.mem_of_getElem? (i := 188) rfl) rfl
theorem mF_X10_274 : Cond.fieldLink RX10 274 "NeedStepsModel" "stacks" "I" ∈ zTB := zmem5 (List.mem_of_getElem? (i := 189) rfl) rfl
theorem mF_X10_131 : Cond.fieldLink RX10 131 "NeedStepsModel" "base" "[I" ∈ zTB := zmem5 (List.mem_of_getElem? (i := 190) rfl) rfl
theorem mF_X10_277 : Cond.fieldLink RX10 277 "NeedStepsModel" "steps" "I" ∈ zTB := zmem5 (List.mem_of_getElem? (i := 191) rfl) rfl
theorem mF_X10_280 : Cond.fieldLink RX10 280 "NeedStepsModel" "state" "I" ∈ zTB := zmem5 (List.mem_of_getElem? (i := 192) rfl) rfl
theorem mF_X10_283 : Cond.fieldLink RX10 283 "NeedStepsModel" "error" "I" ∈ zTB := zmem5 (List.mem_of_getElem? (i := 193) rfl) rfl
theorem mF_X10_299 : Cond.fieldLink RX10 299 "NeedStepsModel" "stops" "I" ∈ zTB := zmem5 (List.mem_of_getElem? (i := 194) rfl) rfl
theorem mF_X10_292 : Cond.fieldLink RX10 292 "NeedStepsModel" "hasProgram" "Z" ∈ zTB := zmem5 (List.mem_of_getElem? (i := 195) rfl) rfl
theorem mF_X10_296 : Cond.fieldLink RX10 296 "NeedStepsModel" "sweeps" "I" ∈ zTB := zmem5 (List.mem_of_getElem? (i := 196) rfl) rfl
theorem mF_X10_134 : Cond.fieldLink RX10 134 "NeedStepsModel" "sweptAt" "[I" ∈ zTB := zmem5 (List.mem_of_getElem? (i := 197) rfl) rfl
theorem mF_X10_137 : Cond.fieldLink RX10 137 "NeedStepsModel" "pile" "[I" ∈ zTB := zmem5 (List.mem_of_getElem? (i := 198) rfl) rfl
theorem mF_X10_140 : Cond.fieldLink RX10 140 "NeedStepsModel" "slotNode" "[I" ∈ zTB := zmem5 (List.mem_of_getElem? (i := 199) rfl) rfl
theorem mF_X10_318 : Cond.fieldLink RX10 318 "NeedStepsModel" "needed" "I" ∈ zTB := zmem5 (List.mem_of_getElem? (i := 200) rfl) rfl
theorem mF_X10_321 : Cond.fieldLink RX10 321 "NeedStepsModel" "wrong" "I" ∈ zTB := zmem5 (List.mem_of_getElem? (i := 201) rfl) rfl
theorem mF_X10_143 : Cond.fieldLink RX10 143 "NeedStepsModel" "kept" "[Z" ∈ zTB := zmem5 (List.mem_of_getElem? (i := 202) rfl) rfl
theorem mF_X10_147 : Cond.fieldLink RX10 147 "NeedStepsModel" "queue" "[I" ∈ zTB := zmem5 (List.mem_of_getElem? (i := 203) rfl) rfl
theorem mF_X10_356 : Cond.fieldLink RX10 356 "NeedStepsModel" "queued" "I" ∈ zTB := zmem5 (List.mem_of_getElem? (i := 204) rfl) rfl
theorem mF_X10_150 : Cond.fieldLink RX10 150 "NeedStepsModel" "far" "[I" ∈ zTB := zmem5 (List.mem_of_getElem? (i := 205) rfl) rfl
theorem mL_L_100 : Cond.methodLink RL 100 yX10_thrown ∈ zTB := zmem6 (List.mem_of_getElem? (i := 101) rfl) rfl
theorem mI_X10_thrown : Cond.instanceMethod yX10_thrown ∈ zTB := zmem6 (List.mem_of_getElem? (i := 102) rfl) rfl
theorem mS_X10_thrown : Cond.selects RX10 yX10_thrown yX10_thrown ∈ zTB := zmem6 (List.mem_of_getElem? (i := 103) rfl) rfl
theorem mC_X10_thrown : Cond.code yX10_thrown cX10_thrown 1 (some .int) ∈ zTB := zmem6 (List.mem_of_getElem? (i := 104) rfl) rfl
theorem mL_L_23 : Cond.methodLink RL 23 yX10_feed ∈ zTB := zmem6 (List.mem_of_getElem? (i := 105) rfl) rfl
theorem mI_X10_feed : Cond.instanceMethod yX10_feed ∈ zTB := zmem6 (List.mem_of_getElem? (i := 106) rfl) rfl
theorem mS_X10_feed : Cond.selects RX10 yX10_feed yX10_feed ∈ zTB := zmem6 (List.mem_of_getElem? (i := 107) rfl) rfl
theorem mC_X10_feed : Cond.code yX10_feed cX10_feed 8 (some .int) ∈ zTB := zmem6 (List.mem_of_getElem? (i := 108) rfl) rfl
theorem mL_L_28 : Cond.methodLink RL 28 yX10_cut ∈ zTB := zmem6 (List.mem_of_getElem? (i := 109) rfl) rfl
theorem mI_X10_cut : Cond.instanceMethod yX10_cut ∈ zTB := zmem6 (List.mem_of_getElem? (i := 110) rfl) rfl
theorem mS_X10_cut : Cond.selects RX10 yX10_cut yX10_cut ∈ zTB := zmem6 (List.mem_of_getElem? (i := 111) rfl) rfl
theorem mC_X10_cut : Cond.code yX10_cut cX10_cut 3 (some .int) ∈ zTB := zmem6 (List.mem_of_getElem? (i := 112) rfl) rfl
theorem mL_X10_160 : Cond.methodLink RX10 160 yX10_in ∈ zTB := zmem6 (List.mem_of_getElem? (i := 113) rfl) rfl
theorem mT_X10_in : Cond.static yX10_in ∈ zTB := zmem6 (List.mem_of_getElem? (i := 114) rfl) rfl
theorem mC_X10_in : Cond.code yX10_in cX10_in 3 (some .boolean) ∈ zTB := zmem6 (List.mem_of_getElem? (i := 115) rfl) rfl
theorem mL_L_32 : Cond.methodLink RL 32 yX10_read ∈ zTB := zmem6 (List.mem_of_getElem? (i := 116) rfl) rfl
theorem mI_X10_read : Cond.instanceMethod yX10_read ∈ zTB := zmem6 (List.mem_of_getElem? (i := 117) rfl) rfl
theorem mS_X10_read : Cond.selects RX10 yX10_read yX10_read ∈ zTB := zmem6 (List.mem_of_getElem? (i := 118) rfl) rfl
theorem mC_X10_read : Cond.code yX10_read cX10_read 3 (some .int) ∈ zTB := zmem6 (List.mem_of_getElem? (i := 119) rfl) rfl
theorem mL_X10_205 : Cond.methodLink RX10 205 yX10_token ∈ zTB := zmem6 (List.mem_of_getElem? (i := 120) rfl) rfl
theorem mI_X10_token : Cond.instanceMethod yX10_token ∈ zTB := zmem6 (List.mem_of_getElem? (i := 122) rfl) rfl
theorem mC_X10_token : Cond.code yX10_token cX10_token 3 none ∈ zTB := zmem6 (List.mem_of_getElem? (i := 123) rfl) rfl
theorem mL_X10_170 : Cond.methodLink RX10 170 yX10_at ∈ zTB := zmem6 (List.mem_of_getElem? (i := 124) rfl) rfl
theorem mI_X10_at : Cond.instanceMethod yX10_at ∈ zTB := zmem6 (List.mem_of_getElem? (i := 126) rfl) rfl
theorem mC_X10_at : Cond.code yX10_at cX10_at 2 (some .int) ∈ zTB := zmem6 (List.mem_of_getElem? (i := 127) rfl) rfl
theorem mL_X10_180 : Cond.methodLink RX10 180 yX10_isDigit ∈ zTB := zmem6 (List.mem_of_getElem? (i := 128) rfl) rfl
theorem mT_X10_isDigit : Cond.static yX10_isDigit ∈ zTB := zmem6 (List.mem_of_getElem? (i := 129) rfl) rfl
theorem mC_X10_isDigit : Cond.code yX10_isDigit cX10_isDigit 1 (some .boolean) ∈ zTB := zmem6 (List.mem_of_getElem? (i := 130) rfl) rfl
theorem mL_X10_187 : Cond.methodLink RX10 187 yX10_isLetter ∈ zTB := zmem6 (List.mem_of_getElem? (i := 131) rfl) rfl
theorem mT_X10_isLetter : Cond.static yX10_isLetter ∈ zTB := zmem6 (List.mem_of_getElem? (i := 132) rfl) rfl
theorem mC_X10_isLetter : Cond.code yX10_isLetter cX10_isLetter 1 (some .boolean) ∈ zTB := zmem6 (List.mem_of_getElem? (i := 133) rfl) rfl
theorem mL_X10_286 : Cond.methodLink RX10 286 yX10_definition ∈ zTB := zmem6 (List.mem_of_getElem? (i := 134) rfl) rfl
theorem mI_X10_definition : Cond.instanceMethod yX10_definition ∈ zTB := zmem6 (List.mem_of_getElem? (i := 136) rfl) rfl
theorem mC_X10_definition : Cond.code yX10_definition cX10_definition 3 none ∈ zTB := zmem6 (List.mem_of_getElem? (i := 137) rfl) rfl
theorem mL_X10_201 : Cond.methodLink RX10 201 yX10_can ∈ zTB := zmem6 (List.mem_of_getElem? (i := 138) rfl) rfl
theorem mI_X10_can : Cond.instanceMethod yX10_can ∈ zTB := zmem6 (List.mem_of_getElem? (i := 140) rfl) rfl
theorem mC_X10_can : Cond.code yX10_can cX10_can 2 (some .boolean) ∈ zTB := zmem6 (List.mem_of_getElem? (i := 141) rfl) rfl
theorem mL_X10_197 : Cond.methodLink RX10 197 yX10_fail ∈ zTB := zmem6 (List.mem_of_getElem? (i := 142) rfl) rfl
theorem mI_X10_fail : Cond.instanceMethod yX10_fail ∈ zTB := zmem6 (List.mem_of_getElem? (i := 144) rfl) rfl
theorem mC_X10_fail : Cond.code yX10_fail cX10_fail 3 none ∈ zTB := zmem6 (List.mem_of_getElem? (i := 145) rfl) rfl
theorem mL_X10_237 : Cond.methodLink RX10 237 yX10_room ∈ zTB := zmem6 (List.mem_of_getElem? (i := 146) rfl) rfl
theorem mI_X10_room : Cond.instanceMethod yX10_room ∈ zTB := zmem6 (List.mem_of_getElem? (i := 148) rfl) rfl
theorem mC_X10_room : Cond.code yX10_room cX10_room 2 (some .boolean) ∈ zTB := zmem6 (List.mem_of_getElem? (i := 149) rfl) rfl
theorem mL_X10_227 : Cond.methodLink RX10 227 yX10_need ∈ zTB := zmem6 (List.mem_of_getElem? (i := 150) rfl) rfl
theorem mI_X10_need : Cond.instanceMethod yX10_need ∈ zTB := zmem6 (List.mem_of_getElem? (i := 152) rfl) rfl
theorem mC_X10_need : Cond.code yX10_need cX10_need 2 (some .boolean) ∈ zTB := zmem6 (List.mem_of_getElem? (i := 153) rfl) rfl
theorem mL_X10_249 : Cond.methodLink RX10 249 yX10_expression ∈ zTB := zmem6 (List.mem_of_getElem? (i := 154) rfl) rfl
theorem mI_X10_expression : Cond.instanceMethod yX10_expression ∈ zTB := zmem6 (List.mem_of_getElem? (i := 156) rfl) rfl
theorem mC_X10_expression : Cond.code yX10_expression cX10_expression 1 none ∈ zTB := zmem6 (List.mem_of_getElem? (i := 157) rfl) rfl
theorem mL_X10_217 : Cond.methodLink RX10 217 yX10_push ∈ zTB := zmem6 (List.mem_of_getElem? (i := 158) rfl) rfl
theorem mI_X10_push : Cond.instanceMethod yX10_push ∈ zTB := zmem6 (List.mem_of_getElem? (i := 160) rfl) rfl
theorem mC_X10_push : Cond.code yX10_push cX10_push 2 none ∈ zTB := zmem6 (List.mem_of_getElem? (i := 161) rfl) rfl
theorem mL_X10_221 : Cond.methodLink RX10 221 yX10_atoms ∈ zTB := zmem6 (List.mem_of_getElem? (i := 162) rfl) rfl
theorem mI_X10_atoms : Cond.instanceMethod yX10_atoms ∈ zTB := zmem6 (List.mem_of_getElem? (i := 164) rfl) rfl
theorem mC_X10_atoms : Cond.code yX10_atoms cX10_atoms 4 none ∈ zTB := zmem6 (List.mem_of_getElem? (i := 165) rfl) rfl
theorem mL_X10_233 : Cond.methodLink RX10 233 yX10_emit ∈ zTB := zmem6 (List.mem_of_getElem? (i := 166) rfl) rfl
theorem mI_X10_emit : Cond.instanceMethod yX10_emit ∈ zTB := zmem6 (List.mem_of_getElem? (i := 168) rfl) rfl
theorem mC_X10_emit : Cond.code yX10_emit cX10_emit 3 (some .int) ∈ zTB := zmem6 (List.mem_of_getElem? (i := 169) rfl) rfl
theorem mL_X10_224 : Cond.methodLink RX10 224 yX10_let ∈ zTB := zmem6 (List.mem_of_getElem? (i := 170) rfl) rfl
theorem mI_X10_let : Cond.instanceMethod yX10_let ∈ zTB := zmem6 (List.mem_of_getElem? (i := 172) rfl) rfl
theorem mC_X10_let : Cond.code yX10_let cX10_let 4 none ∈ zTB := zmem6 (List.mem_of_getElem? (i := 173) rfl) rfl
theorem mL_X10_289 : Cond.methodLink RX10 289 yX10_resolve ∈ zTB := zmem6 (List.mem_of_getElem? (i := 174) rfl) rfl
theorem mI_X10_resolve : Cond.instanceMethod yX10_resolve ∈ zTB := zmem6 (List.mem_of_getElem? (i := 176) rfl) rfl
theorem mC_X10_resolve : Cond.code yX10_resolve cX10_resolve 3 none ∈ zTB := zmem6 (List.mem_of_getElem? (i := 177) rfl) rfl
theorem mL_X10_252 : Cond.methodLink RX10 252 yX10_find ∈ zTB := zmem6 (List.mem_of_getElem? (i := 178) rfl) rfl
theorem mI_X10_find : Cond.instanceMethod yX10_find ∈ zTB := zmem6 (List.mem_of_getElem? (i := 180) rfl) rfl
theorem mC_X10_find : Cond.code yX10_find cX10_find 5 (some .boolean) ∈ zTB := zmem6 (List.mem_of_getElem? (i := 181) rfl) rfl
theorem mK_X10_269 : Cond.constantLong RX10 269 1835100526 ∈ zTB := zmem6 (List.mem_of_getElem? (i := 182) rfl) rfl
theorem mL_X10_302 : Cond.methodLink RX10 302 yX10_begin ∈ zTB := zmem6 (List.mem_of_getElem? (i := 183) rfl) rfl
theorem mI_X10_begin : Cond.instanceMethod yX10_begin ∈ zTB := zmem6 (List.mem_of_getElem? (i := 185) rfl) rfl
theorem mC_X10_begin : Cond.code yX10_begin cX10_begin 4 none ∈ zTB := zmem6 (List.mem_of_getElem? (i := 186) rfl) rfl
theorem mL_X10_265 : Cond.methodLink RX10 265 yX10_node ∈ zTB := zmem6 (List.mem_of_getElem? (i := 187) rfl) rfl
theorem mI_X10_node : Cond.instanceMethod yX10_node ∈ zTB := zmem6 (List.mem_of_getElem? (i := 189) rfl) rfl
theorem mC_X10_node : Cond.code yX10_node cX10_node 6 (some .int) ∈ zTB := zmem6 (List.mem_of_getElem? (i := 190) rfl) rfl
theorem mL_L_36 : Cond.methodLink RL 36 yX10_fault ∈ zTB := zmem6 (List.mem_of_getElem? (i := 191) rfl) rfl
theorem mI_X10_fault : Cond.instanceMethod yX10_fault ∈ zTB := zmem6 (List.mem_of_getElem? (i := 192) rfl) rfl
theorem mS_X10_fault : Cond.selects RX10 yX10_fault yX10_fault ∈ zTB := zmem6 (List.mem_of_getElem? (i := 193) rfl) rfl
theorem mC_X10_fault : Cond.code yX10_fault cX10_fault 1 (some .int) ∈ zTB := zmem6 (List.mem_of_getElem? (i := 194) rfl) rfl
theorem mL_L_40 : Cond.methodLink RL 40 yX10_step ∈ zTB := zmem6 (List.mem_of_getElem? (i := 195) rfl) rfl
theorem mI_X10_step : Cond.instanceMethod yX10_step ∈ zTB := zmem6 (List.mem_of_getElem? (i := 196) rfl) rfl
theorem mS_X10_step : Cond.selects RX10 yX10_step yX10_step ∈ zTB := zmem6 (List.mem_of_getElem? (i := 197) rfl) rfl
theorem mC_X10_step : Cond.code yX10_step cX10_step 5 (some .int) ∈ zTB := zmem6 (List.mem_of_getElem? (i := 198) rfl) rfl
theorem mL_X10_333 : Cond.methodLink RX10 333 yX10_look ∈ zTB := zmem6 (List.mem_of_getElem? (i := 199) rfl) rfl
theorem mI_X10_look : Cond.instanceMethod yX10_look ∈ zTB := zmem6 (List.mem_of_getElem? (i := 201) rfl) rfl
theorem mC_X10_look : Cond.code yX10_look cX10_look 3 (some .int) ∈ zTB := zmem6 (List.mem_of_getElem? (i := 202) rfl) rfl
theorem mL_X10_311 : Cond.methodLink RX10 311 yX10_topNode ∈ zTB := zmem6 (List.mem_of_getElem? (i := 203) rfl) rfl
theorem mI_X10_topNode : Cond.instanceMethod yX10_topNode ∈ zTB := zmem6 (List.mem_of_getElem? (i := 205) rfl) rfl
theorem mC_X10_topNode : Cond.code yX10_topNode cX10_topNode 1 (some .int) ∈ zTB := zmem6 (List.mem_of_getElem? (i := 206) rfl) rfl
theorem mL_X10_315 : Cond.methodLink RX10 315 yX10_size ∈ zTB := zmem6 (List.mem_of_getElem? (i := 207) rfl) rfl
theorem mI_X10_size : Cond.instanceMethod yX10_size ∈ zTB := zmem6 (List.mem_of_getElem? (i := 209) rfl) rfl
theorem mC_X10_size : Cond.code yX10_size cX10_size 1 (some .int) ∈ zTB := zmem6 (List.mem_of_getElem? (i := 210) rfl) rfl
theorem mL_X10_308 : Cond.methodLink RX10 308 yX10_wants ∈ zTB := zmem6 (List.mem_of_getElem? (i := 211) rfl) rfl
theorem mT_X10_wants : Cond.static yX10_wants ∈ zTB := zmem6 (List.mem_of_getElem? (i := 212) rfl) rfl
theorem mC_X10_wants : Cond.code yX10_wants cX10_wants 1 (some .int) ∈ zTB := zmem6 (List.mem_of_getElem? (i := 213) rfl) rfl
theorem mL_X10_324 : Cond.methodLink RX10 324 yX10_lookPrimitive ∈ zTB := zmem6 (List.mem_of_getElem? (i := 214) rfl) rfl
theorem mI_X10_lookPrimitive : Cond.instanceMethod yX10_lookPrimitive ∈ zTB := zmem6 (List.mem_of_getElem? (i := 216) rfl) rfl
theorem mC_X10_lookPrimitive : Cond.code yX10_lookPrimitive cX10_lookPrimitive 6 (some .int) ∈ zTB := zmem6 (List.mem_of_getElem? (i := 217) rfl) rfl
theorem mL_X10_327 : Cond.methodLink RX10 327 yX10_thing ∈ zTB := zmem6 (List.mem_of_getElem? (i := 218) rfl) rfl
theorem mI_X10_thing : Cond.instanceMethod yX10_thing ∈ zTB := zmem6 (List.mem_of_getElem? (i := 220) rfl) rfl
theorem mC_X10_thing : Cond.code yX10_thing cX10_thing 2 (some .int) ∈ zTB := zmem6 (List.mem_of_getElem? (i := 221) rfl) rfl
theorem mL_X10_305 : Cond.methodLink RX10 305 yX10_followed ∈ zTB := zmem6 (List.mem_of_getElem? (i := 222) rfl) rfl
theorem mI_X10_followed : Cond.instanceMethod yX10_followed ∈ zTB := zmem6 (List.mem_of_getElem? (i := 224) rfl) rfl
theorem mC_X10_followed : Cond.code yX10_followed cX10_followed 4 (some .int) ∈ zTB := zmem6 (List.mem_of_getElem? (i := 225) rfl) rfl
theorem mL_X10_330 : Cond.methodLink RX10 330 yX10_isValue ∈ zTB := zmem6 (List.mem_of_getElem? (i := 226) rfl) rfl
theorem mI_X10_isValue : Cond.instanceMethod yX10_isValue ∈ zTB := zmem6 (List.mem_of_getElem? (i := 228) rfl) rfl
theorem mC_X10_isValue : Cond.code yX10_isValue cX10_isValue 4 (some .boolean) ∈ zTB := zmem6 (List.mem_of_getElem? (i := 229) rfl) rfl
theorem mL_X10_349 : Cond.methodLink RX10 349 yX10_stepOne ∈ zTB := zmem6 (List.mem_of_getElem? (i := 230) rfl) rfl
theorem mI_X10_stepOne : Cond.instanceMethod yX10_stepOne ∈ zTB := zmem6 (List.mem_of_getElem? (i := 232) rfl) rfl
theorem mC_X10_stepOne : Cond.code yX10_stepOne cX10_stepOne 3 (some .boolean) ∈ zTB := zmem6 (List.mem_of_getElem? (i := 233) rfl) rfl
theorem mL_X10_336 : Cond.methodLink RX10 336 yX10_isFull ∈ zTB := zmem6 (List.mem_of_getElem? (i := 234) rfl) rfl
theorem mI_X10_isFull : Cond.instanceMethod yX10_isFull ∈ zTB := zmem6 (List.mem_of_getElem? (i := 236) rfl) rfl
theorem mC_X10_isFull : Cond.code yX10_isFull cX10_isFull 2 (some .boolean) ∈ zTB := zmem6 (List.mem_of_getElem? (i := 237) rfl) rfl
theorem mL_X10_339 : Cond.methodLink RX10 339 yX10_build ∈ zTB := zmem6 (List.mem_of_getElem? (i := 238) rfl) rfl
theorem mI_X10_build : Cond.instanceMethod yX10_build ∈ zTB := zmem7 (List.mem_of_getElem? (i := 0) rfl) rfl
theorem mC_X10_build : Cond.code yX10_build cX10_build 8 none ∈ zTB := zmem7 (List.mem_of_getElem? (i := 1) rfl) rfl
theorem mL_X10_345 : Cond.methodLink RX10 345 yX10_become ∈ zTB := zmem7 (List.mem_of_getElem? (i := 2) rfl) rfl
theorem mI_X10_become : Cond.instanceMethod yX10_become ∈ zTB := zmem7 (List.mem_of_getElem? (i := 4) rfl) rfl
theorem mC_X10_become : Cond.code yX10_become cX10_become 5 none ∈ zTB := zmem7 (List.mem_of_getElem? (i := 5) rfl) rfl
theorem mL_X10_342 : Cond.methodLink RX10 342 yX10_compute ∈ zTB := zmem7 (List.mem_of_getElem? (i := 6) rfl) rfl
theorem mI_X10_compute : Cond.instanceMethod yX10_compute ∈ zTB := zmem7 (List.mem_of_getElem? (i := 8) rfl) rfl
theorem mC_X10_compute : Cond.code yX10_compute cX10_compute 9 none ∈ zTB := zmem7 (List.mem_of_getElem? (i := 9) rfl) rfl
theorem mL_L_44 : Cond.methodLink RL 44 yX10_state ∈ zTB := zmem7 (List.mem_of_getElem? (i := 10) rfl) rfl
theorem mI_X10_state : Cond.instanceMethod yX10_state ∈ zTB := zmem7 (List.mem_of_getElem? (i := 11) rfl) rfl
theorem mS_X10_state : Cond.selects RX10 yX10_state yX10_state ∈ zTB := zmem7 (List.mem_of_getElem? (i := 12) rfl) rfl
theorem mC_X10_state : Cond.code yX10_state cX10_state 1 (some .int) ∈ zTB := zmem7 (List.mem_of_getElem? (i := 13) rfl) rfl
theorem mL_L_48 : Cond.methodLink RL 48 yX10_error ∈ zTB := zmem7 (List.mem_of_getElem? (i := 14) rfl) rfl
theorem mI_X10_error : Cond.instanceMethod yX10_error ∈ zTB := zmem7 (List.mem_of_getElem? (i := 15) rfl) rfl
theorem mS_X10_error : Cond.selects RX10 yX10_error yX10_error ∈ zTB := zmem7 (List.mem_of_getElem? (i := 16) rfl) rfl
theorem mC_X10_error : Cond.code yX10_error cX10_error 1 (some .int) ∈ zTB := zmem7 (List.mem_of_getElem? (i := 17) rfl) rfl
theorem mL_L_52 : Cond.methodLink RL 52 yX10_next ∈ zTB := zmem7 (List.mem_of_getElem? (i := 18) rfl) rfl
theorem mI_X10_next : Cond.instanceMethod yX10_next ∈ zTB := zmem7 (List.mem_of_getElem? (i := 19) rfl) rfl
theorem mS_X10_next : Cond.selects RX10 yX10_next yX10_next ∈ zTB := zmem7 (List.mem_of_getElem? (i := 20) rfl) rfl
theorem mC_X10_next : Cond.code yX10_next cX10_next 1 (some .int) ∈ zTB := zmem7 (List.mem_of_getElem? (i := 21) rfl) rfl
theorem mL_L_56 : Cond.methodLink RL 56 yX10_stopAt ∈ zTB := zmem7 (List.mem_of_getElem? (i := 22) rfl) rfl
theorem mI_X10_stopAt : Cond.instanceMethod yX10_stopAt ∈ zTB := zmem7 (List.mem_of_getElem? (i := 23) rfl) rfl
theorem mS_X10_stopAt : Cond.selects RX10 yX10_stopAt yX10_stopAt ∈ zTB := zmem7 (List.mem_of_getElem? (i := 24) rfl) rfl
theorem mC_X10_stopAt : Cond.code yX10_stopAt cX10_stopAt 3 (some .int) ∈ zTB := zmem7 (List.mem_of_getElem? (i := 25) rfl) rfl
theorem mL_L_60 : Cond.methodLink RL 60 yX10_back ∈ zTB := zmem7 (List.mem_of_getElem? (i := 26) rfl) rfl
theorem mI_X10_back : Cond.instanceMethod yX10_back ∈ zTB := zmem7 (List.mem_of_getElem? (i := 27) rfl) rfl
theorem mS_X10_back : Cond.selects RX10 yX10_back yX10_back ∈ zTB := zmem7 (List.mem_of_getElem? (i := 28) rfl) rfl
theorem mC_X10_back : Cond.code yX10_back cX10_back 7 (some .int) ∈ zTB := zmem7 (List.mem_of_getElem? (i := 29) rfl) rfl
theorem mL_X10_353 : Cond.methodLink RX10 353 yX10_sweepAll ∈ zTB := zmem7 (List.mem_of_getElem? (i := 30) rfl) rfl
theorem mI_X10_sweepAll : Cond.instanceMethod yX10_sweepAll ∈ zTB := zmem7 (List.mem_of_getElem? (i := 32) rfl) rfl
theorem mC_X10_sweepAll : Cond.code yX10_sweepAll cX10_sweepAll 4 (some .int) ∈ zTB := zmem7 (List.mem_of_getElem? (i := 33) rfl) rfl
theorem mL_X10_365 : Cond.methodLink RX10 365 yX10_findKept ∈ zTB := zmem7 (List.mem_of_getElem? (i := 34) rfl) rfl
theorem mI_X10_findKept : Cond.instanceMethod yX10_findKept ∈ zTB := zmem7 (List.mem_of_getElem? (i := 36) rfl) rfl
theorem mC_X10_findKept : Cond.code yX10_findKept cX10_findKept 3 (some .int) ∈ zTB := zmem7 (List.mem_of_getElem? (i := 37) rfl) rfl
theorem mL_X10_359 : Cond.methodLink RX10 359 yX10_keep ∈ zTB := zmem7 (List.mem_of_getElem? (i := 38) rfl) rfl
theorem mI_X10_keep : Cond.instanceMethod yX10_keep ∈ zTB := zmem7 (List.mem_of_getElem? (i := 40) rfl) rfl
theorem mC_X10_keep : Cond.code yX10_keep cX10_keep 2 none ∈ zTB := zmem7 (List.mem_of_getElem? (i := 41) rfl) rfl
theorem mL_X10_362 : Cond.methodLink RX10 362 yX10_fields ∈ zTB := zmem7 (List.mem_of_getElem? (i := 42) rfl) rfl
theorem mT_X10_fields : Cond.static yX10_fields ∈ zTB := zmem7 (List.mem_of_getElem? (i := 43) rfl) rfl
theorem mC_X10_fields : Cond.code yX10_fields cX10_fields 1 (some .int) ∈ zTB := zmem7 (List.mem_of_getElem? (i := 44) rfl) rfl
theorem mL_L_64 : Cond.methodLink RL 64 yX10_sweep ∈ zTB := zmem7 (List.mem_of_getElem? (i := 45) rfl) rfl
theorem mI_X10_sweep : Cond.instanceMethod yX10_sweep ∈ zTB := zmem7 (List.mem_of_getElem? (i := 46) rfl) rfl
theorem mS_X10_sweep : Cond.selects RX10 yX10_sweep yX10_sweep ∈ zTB := zmem7 (List.mem_of_getElem? (i := 47) rfl) rfl
theorem mC_X10_sweep : Cond.code yX10_sweep cX10_sweep 2 (some .int) ∈ zTB := zmem7 (List.mem_of_getElem? (i := 48) rfl) rfl
theorem mL_L_68 : Cond.methodLink RL 68 yX10_count ∈ zTB := zmem7 (List.mem_of_getElem? (i := 49) rfl) rfl
theorem mI_X10_count : Cond.instanceMethod yX10_count ∈ zTB := zmem7 (List.mem_of_getElem? (i := 50) rfl) rfl
theorem mS_X10_count : Cond.selects RX10 yX10_count yX10_count ∈ zTB := zmem7 (List.mem_of_getElem? (i := 51) rfl) rfl
theorem mC_X10_count : Cond.code yX10_count cX10_count 2 (some .int) ∈ zTB := zmem7 (List.mem_of_getElem? (i := 52) rfl) rfl
theorem mL_L_73 : Cond.methodLink RL 73 yX10_node_ ∈ zTB := zmem7 (List.mem_of_getElem? (i := 53) rfl) rfl
theorem mI_X10_node_ : Cond.instanceMethod yX10_node_ ∈ zTB := zmem7 (List.mem_of_getElem? (i := 54) rfl) rfl
theorem mS_X10_node_ : Cond.selects RX10 yX10_node_ yX10_node_ ∈ zTB := zmem7 (List.mem_of_getElem? (i := 55) rfl) rfl
theorem mC_X10_node_ : Cond.code yX10_node_ cX10_node_ 4 (some .int) ∈ zTB := zmem7 (List.mem_of_getElem? (i := 56) rfl) rfl
theorem mL_X10_368 : Cond.methodLink RX10 368 yX10_isNode ∈ zTB := zmem7 (List.mem_of_getElem? (i := 57) rfl) rfl
theorem mI_X10_isNode : Cond.instanceMethod yX10_isNode ∈ zTB := zmem7 (List.mem_of_getElem? (i := 59) rfl) rfl
theorem mC_X10_isNode : Cond.code yX10_isNode cX10_isNode 2 (some .boolean) ∈ zTB := zmem7 (List.mem_of_getElem? (i := 60) rfl) rfl
theorem mL_X10_371 : Cond.methodLink RX10 371 yX10_holders ∈ zTB := zmem7 (List.mem_of_getElem? (i := 61) rfl) rfl
theorem mI_X10_holders : Cond.instanceMethod yX10_holders ∈ zTB := zmem7 (List.mem_of_getElem? (i := 63) rfl) rfl
theorem mC_X10_holders : Cond.code yX10_holders cX10_holders 6 (some .int) ∈ zTB := zmem7 (List.mem_of_getElem? (i := 64) rfl) rfl
theorem mL_L_77 : Cond.methodLink RL 77 yX10_top ∈ zTB := zmem7 (List.mem_of_getElem? (i := 65) rfl) rfl
theorem mI_X10_top : Cond.instanceMethod yX10_top ∈ zTB := zmem7 (List.mem_of_getElem? (i := 66) rfl) rfl
theorem mS_X10_top : Cond.selects RX10 yX10_top yX10_top ∈ zTB := zmem7 (List.mem_of_getElem? (i := 67) rfl) rfl
theorem mC_X10_top : Cond.code yX10_top cX10_top 2 (some .int) ∈ zTB := zmem7 (List.mem_of_getElem? (i := 68) rfl) rfl
theorem mL_L_81 : Cond.methodLink RL 81 yX10_why ∈ zTB := zmem7 (List.mem_of_getElem? (i := 69) rfl) rfl
theorem mI_X10_why : Cond.instanceMethod yX10_why ∈ zTB := zmem7 (List.mem_of_getElem? (i := 70) rfl) rfl
theorem mS_X10_why : Cond.selects RX10 yX10_why yX10_why ∈ zTB := zmem7 (List.mem_of_getElem? (i := 71) rfl) rfl
theorem mC_X10_why : Cond.code yX10_why cX10_why 2 (some .int) ∈ zTB := zmem7 (List.mem_of_getElem? (i := 72) rfl) rfl
theorem mL_L_85 : Cond.methodLink RL 85 yX10_way ∈ zTB := zmem7 (List.mem_of_getElem? (i := 73) rfl) rfl
theorem mI_X10_way : Cond.instanceMethod yX10_way ∈ zTB := zmem7 (List.mem_of_getElem? (i := 74) rfl) rfl
theorem mS_X10_way : Cond.selects RX10 yX10_way yX10_way ∈ zTB := zmem7 (List.mem_of_getElem? (i := 75) rfl) rfl
theorem mC_X10_way : Cond.code yX10_way cX10_way 11 (some .int) ∈ zTB := zmem7 (List.mem_of_getElem? (i := 76) rfl) rfl
theorem mL_X10_374 : Cond.methodLink RX10 374 yX10_isRoot ∈ zTB := zmem7 (List.mem_of_getElem? (i := 77) rfl) rfl
theorem mI_X10_isRoot : Cond.instanceMethod yX10_isRoot ∈ zTB := zmem7 (List.mem_of_getElem? (i := 79) rfl) rfl
theorem mC_X10_isRoot : Cond.code yX10_isRoot cX10_isRoot 3 (some .boolean) ∈ zTB := zmem7 (List.mem_of_getElem? (i := 80) rfl) rfl
theorem mL_L_89 : Cond.methodLink RL 89 yX10_profile ∈ zTB := zmem7 (List.mem_of_getElem? (i := 81) rfl) rfl
theorem mI_X10_profile : Cond.instanceMethod yX10_profile ∈ zTB := zmem7 (List.mem_of_getElem? (i := 82) rfl) rfl
theorem mS_X10_profile : Cond.selects RX10 yX10_profile yX10_profile ∈ zTB := zmem7 (List.mem_of_getElem? (i := 83) rfl) rfl
theorem mC_X10_profile : Cond.code yX10_profile cX10_profile 3 (some .int) ∈ zTB := zmem7 (List.mem_of_getElem? (i := 84) rfl) rfl
theorem mL_L_93 : Cond.methodLink RL 93 yX10_rest ∈ zTB := zmem7 (List.mem_of_getElem? (i := 85) rfl) rfl
theorem mI_X10_rest : Cond.instanceMethod yX10_rest ∈ zTB := zmem7 (List.mem_of_getElem? (i := 86) rfl) rfl
theorem mS_X10_rest : Cond.selects RX10 yX10_rest yX10_rest ∈ zTB := zmem7 (List.mem_of_getElem? (i := 87) rfl) rfl
theorem mC_X10_rest : Cond.code yX10_rest cX10_rest 2 (some .int) ∈ zTB := zmem7 (List.mem_of_getElem? (i := 88) rfl) rfl
theorem mL_L_99 : Cond.methodLink RL 99 yX10_share ∈ zTB := zmem7 (List.mem_of_getElem? (i := 89) rfl) rfl
theorem mI_X10_share : Cond.instanceMethod yX10_share ∈ zTB := zmem7 (List.mem_of_getElem? (i := 90) rfl) rfl
theorem mS_X10_share : Cond.selects RX10 yX10_share yX10_share ∈ zTB := zmem7 (List.mem_of_getElem? (i := 91) rfl) rfl
theorem mC_X10_share : Cond.code yX10_share cX10_share 1 (some .int) ∈ zTB := zmem7 (List.mem_of_getElem? (i := 92) rfl) rfl
theorem mU_X7 : ∀ w ∈ u_ws RX7 TX7 2, w ∈ zTB := zmemU (u_ws RX7 TX7 2) [114, 116] (by decide +kernel) (by decide +kernel)
theorem mU_X4 : ∀ w ∈ u_ws RX4 TX4 12, w ∈ zTB := zmemU (u_ws RX4 TX4 12) [138, 140, 142, 144, 146, 148, 150, 152, 154, 156, 158, 160] (by decide +kernel) (by decide +kernel)
theorem mU_X8 : ∀ w ∈ u_ws RX8 TX8 7, w ∈ zTB := zmemU (u_ws RX8 TX8 7) [229, 231, 233, 235, 237, 239, 241] (by decide +kernel) (by decide +kernel)
theorem mU_X5 : ∀ w ∈ u_ws RX5 TX5 6, w ∈ zTB := zmemU (u_ws RX5 TX5 6) [254, 256, 258, 260, 262, 264] (by decide +kernel) (by decide +kernel)
theorem mU_X0 : ∀ w ∈ u_ws RX0 TX0 9, w ∈ zTB := zmemU (u_ws RX0 TX0 9) [282, 284, 286, 288, 290, 292, 294, 296, 298] (by decide +kernel) (by decide +kernel)
theorem mU_X6 : ∀ w ∈ u_ws RX6 TX6 4, w ∈ zTB := zmemU (u_ws RX6 TX6 4) [311, 313, 315, 317] (by decide +kernel) (by decide +kernel)
theorem mU_X3 : ∀ w ∈ u_ws RX3 TX3 6, w ∈ zTB := zmemU (u_ws RX3 TX3 6) [338, 340, 342, 344, 346, 348] (by decide +kernel) (by decide +kernel)
theorem mU_X2 : ∀ w ∈ u_ws RX2 TX2 11, w ∈ zTB := zmemU (u_ws RX2 TX2 11) [362, 364, 366, 368, 370, 372, 374, 376, 378, 380, 382] (by decide +kernel) (by decide +kernel)
theorem mU_X1 : ∀ w ∈ u_ws RX1 TX1 7, w ∈ zTB := zmemU (u_ws RX1 TX1 7) [398, 400, 402, 404, 406, 408, 410] (by decide +kernel) (by decide +kernel)
theorem mU_X9 : ∀ w ∈ u_ws RX9 TX9 13, w ∈ zTB := zmemU (u_ws RX9 TX9 13) [426, 428, 430, 432, 434, 436, 438, 440, 442, 444, 446, 448, 450] (by decide +kernel) (by decide +kernel)
theorem mU_X10 : ∀ w ∈ u_ws RX10 TX10 67, w ∈ zTB := zmemU (u_ws RX10 TX10 67) [1244, 1246, 1248, 1250, 1252, 1254, 1256, 1258, 1260, 1262, 1264, 1266, 1268, 1270, 1272, 1274, 1276, 1278, 1280, 1282, 1284, 1286, 1288, 1290, 1292, 1294, 1296, 1298, 1300, 1302, 1304, 1306, 1308, 1310, 1312, 1314, 1316, 1318, 1320, 1322, 1324, 1326, 1328, 1330, 1332, 1334, 1336, 1338, 1340, 1342, 1344, 1346, 1348, 1350, 1352, 1354, 1356, 1358, 1360, 1362, 1364, 1366, 1368, 1370, 1372, 1374, 1376] (by decide +kernel) (by decide +kernel)
