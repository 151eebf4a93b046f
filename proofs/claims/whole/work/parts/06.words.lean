abbrev vX7_put : List Cond := Cond.code yX7_put cX7_put 3 none :: zTB
theorem hdnX7_put : yX7_put.cls = RX7 ∧ yX7_put.cls ≠ "java/lang/invoke/MethodHandle" ∧ yX7_put.cls ≠ "java/lang/invoke/VarHandle" ∧ (parseMethodDescriptor yX7_put.desc).map (fun d => d.parameters.length) = some 1 := by decide +kernel
abbrev vX7_size : List Cond := Cond.code yX7_size cX7_size 1 (some .int) :: zTB
theorem hdnX7_size : yX7_size.cls = RX7 ∧ yX7_size.cls ≠ "java/lang/invoke/MethodHandle" ∧ yX7_size.cls ≠ "java/lang/invoke/VarHandle" ∧ (parseMethodDescriptor yX7_size.desc).map (fun d => d.parameters.length) = some 0 := by decide +kernel
abbrev vX9_feed : List Cond := Cond.code yX9_feed cX9_feed 6 (some .int) :: zTB
theorem hdnX9_feed : yX9_feed.cls = RX9 ∧ yX9_feed.cls ≠ "java/lang/invoke/MethodHandle" ∧ yX9_feed.cls ≠ "java/lang/invoke/VarHandle" ∧ (parseMethodDescriptor yX9_feed.desc).map (fun d => d.parameters.length) = some 5 := by decide +kernel
abbrev vX7_keepFirst : List Cond := Cond.code yX7_keepFirst cX7_keepFirst 3 (some .int) :: zTB
theorem hdnX7_keepFirst : yX7_keepFirst.cls = RX7 ∧ yX7_keepFirst.cls ≠ "java/lang/invoke/MethodHandle" ∧ yX7_keepFirst.cls ≠ "java/lang/invoke/VarHandle" ∧ (parseMethodDescriptor yX7_keepFirst.desc).map (fun d => d.parameters.length) = some 1 := by decide +kernel
abbrev vX9_cut : List Cond := Cond.code yX9_cut cX9_cut 2 (some .int) :: zTB
theorem hdnX9_cut : yX9_cut.cls = RX9 ∧ yX9_cut.cls ≠ "java/lang/invoke/MethodHandle" ∧ yX9_cut.cls ≠ "java/lang/invoke/VarHandle" ∧ (parseMethodDescriptor yX9_cut.desc).map (fun d => d.parameters.length) = some 1 := by decide +kernel
abbrev vX0_add : List Cond := Cond.code yX0_add cX0_add 5 (some .int) :: zTB
theorem hdnX0_add : yX0_add.cls = RX0 ∧ yX0_add.cls ≠ "java/lang/invoke/MethodHandle" ∧ yX0_add.cls ≠ "java/lang/invoke/VarHandle" ∧ (parseMethodDescriptor yX0_add.desc).map (fun d => d.parameters.length) = some 3 := by decide +kernel
abbrev vX0_clear : List Cond := Cond.code yX0_clear cX0_clear 2 none :: zTB
theorem hdnX0_clear : yX0_clear.cls = RX0 ∧ yX0_clear.cls ≠ "java/lang/invoke/MethodHandle" ∧ yX0_clear.cls ≠ "java/lang/invoke/VarHandle" ∧ (parseMethodDescriptor yX0_clear.desc).map (fun d => d.parameters.length) = some 0 := by decide +kernel
abbrev vX4_definitionOf : List Cond := Cond.code yX4_definitionOf cX4_definitionOf 4 (some .int) :: zTB
theorem hdnX4_definitionOf : yX4_definitionOf.cls = RX4 ∧ yX4_definitionOf.cls ≠ "java/lang/invoke/MethodHandle" ∧ yX4_definitionOf.cls ≠ "java/lang/invoke/VarHandle" ∧ (parseMethodDescriptor yX4_definitionOf.desc).map (fun d => d.parameters.length) = some 1 := by decide +kernel
abbrev vX4_size : List Cond := Cond.code yX4_size cX4_size 1 (some .int) :: zTB
theorem hdnX4_size : yX4_size.cls = RX4 ∧ yX4_size.cls ≠ "java/lang/invoke/MethodHandle" ∧ yX4_size.cls ≠ "java/lang/invoke/VarHandle" ∧ (parseMethodDescriptor yX4_size.desc).map (fun d => d.parameters.length) = some 0 := by decide +kernel
abbrev vX6_push : List Cond := Cond.code yX6_push cX6_push 2 none :: zTB
theorem hdnX6_push : yX6_push.cls = RX6 ∧ yX6_push.cls ≠ "java/lang/invoke/MethodHandle" ∧ yX6_push.cls ≠ "java/lang/invoke/VarHandle" ∧ (parseMethodDescriptor yX6_push.desc).map (fun d => d.parameters.length) = some 1 := by decide +kernel
abbrev vX6_begin : List Cond := Cond.code yX6_begin cX6_begin 2 none :: zTB
theorem hdnX6_begin : yX6_begin.cls = RX6 ∧ yX6_begin.cls ≠ "java/lang/invoke/MethodHandle" ∧ yX6_begin.cls ≠ "java/lang/invoke/VarHandle" ∧ (parseMethodDescriptor yX6_begin.desc).map (fun d => d.parameters.length) = some 1 := by decide +kernel
abbrev vX2_begin : List Cond := Cond.code yX2_begin cX2_begin 2 none :: zTB
theorem hdnX2_begin : yX2_begin.cls = RX2 ∧ yX2_begin.cls ≠ "java/lang/invoke/MethodHandle" ∧ yX2_begin.cls ≠ "java/lang/invoke/VarHandle" ∧ (parseMethodDescriptor yX2_begin.desc).map (fun d => d.parameters.length) = some 0 := by decide +kernel
abbrev vX5_faultFound : List Cond := Cond.code yX5_faultFound cX5_faultFound 1 (some .int) :: zTB
theorem hdnX5_faultFound : yX5_faultFound.cls = RX5 ∧ yX5_faultFound.cls ≠ "java/lang/invoke/MethodHandle" ∧ yX5_faultFound.cls ≠ "java/lang/invoke/VarHandle" ∧ (parseMethodDescriptor yX5_faultFound.desc).map (fun d => d.parameters.length) = some 0 := by decide +kernel
abbrev vX5_faultPlace : List Cond := Cond.code yX5_faultPlace cX5_faultPlace 1 (some .int) :: zTB
theorem hdnX5_faultPlace : yX5_faultPlace.cls = RX5 ∧ yX5_faultPlace.cls ≠ "java/lang/invoke/MethodHandle" ∧ yX5_faultPlace.cls ≠ "java/lang/invoke/VarHandle" ∧ (parseMethodDescriptor yX5_faultPlace.desc).map (fun d => d.parameters.length) = some 0 := by decide +kernel
abbrev vX4_clear : List Cond := Cond.code yX4_clear cX4_clear 1 none :: zTB
theorem hdnX4_clear : yX4_clear.cls = RX4 ∧ yX4_clear.cls ≠ "java/lang/invoke/MethodHandle" ∧ yX4_clear.cls ≠ "java/lang/invoke/VarHandle" ∧ (parseMethodDescriptor yX4_clear.desc).map (fun d => d.parameters.length) = some 0 := by decide +kernel
abbrev vX4_firstUntold : List Cond := Cond.code yX4_firstUntold cX4_firstUntold 2 (some .int) :: zTB
theorem hdnX4_firstUntold : yX4_firstUntold.cls = RX4 ∧ yX4_firstUntold.cls ≠ "java/lang/invoke/MethodHandle" ∧ yX4_firstUntold.cls ≠ "java/lang/invoke/VarHandle" ∧ (parseMethodDescriptor yX4_firstUntold.desc).map (fun d => d.parameters.length) = some 0 := by decide +kernel
abbrev vX4_isDefinition : List Cond := Cond.code yX4_isDefinition cX4_isDefinition 1 (some .boolean) :: zTB
theorem hdnX4_isDefinition : yX4_isDefinition.cls ≠ "java/lang/invoke/MethodHandle" ∧ yX4_isDefinition.cls ≠ "java/lang/invoke/VarHandle" ∧ (parseMethodDescriptor yX4_isDefinition.desc).map (fun d => d.parameters.length) = some 1 := by decide +kernel
abbrev vX4_parametersOf : List Cond := Cond.code yX4_parametersOf cX4_parametersOf 2 (some .int) :: zTB
theorem hdnX4_parametersOf : yX4_parametersOf.cls = RX4 ∧ yX4_parametersOf.cls ≠ "java/lang/invoke/MethodHandle" ∧ yX4_parametersOf.cls ≠ "java/lang/invoke/VarHandle" ∧ (parseMethodDescriptor yX4_parametersOf.desc).map (fun d => d.parameters.length) = some 1 := by decide +kernel
abbrev vX4_tell : List Cond := Cond.code yX4_tell cX4_tell 7 none :: zTB
theorem hdnX4_tell : yX4_tell.cls = RX4 ∧ yX4_tell.cls ≠ "java/lang/invoke/MethodHandle" ∧ yX4_tell.cls ≠ "java/lang/invoke/VarHandle" ∧ (parseMethodDescriptor yX4_tell.desc).map (fun d => d.parameters.length) = some 4 := by decide +kernel
abbrev vX4_tellDefinitions : List Cond := Cond.code yX4_tellDefinitions cX4_tellDefinitions 2 none :: zTB
theorem hdnX4_tellDefinitions : yX4_tellDefinitions.cls = RX4 ∧ yX4_tellDefinitions.cls ≠ "java/lang/invoke/MethodHandle" ∧ yX4_tellDefinitions.cls ≠ "java/lang/invoke/VarHandle" ∧ (parseMethodDescriptor yX4_tellDefinitions.desc).map (fun d => d.parameters.length) = some 0 := by decide +kernel
abbrev vX5_fail : List Cond := Cond.code yX5_fail cX5_fail 3 (some .boolean) :: zTB
theorem hdnX5_fail : yX5_fail.cls = RX5 ∧ yX5_fail.cls ≠ "java/lang/invoke/MethodHandle" ∧ yX5_fail.cls ≠ "java/lang/invoke/VarHandle" ∧ (parseMethodDescriptor yX5_fail.desc).map (fun d => d.parameters.length) = some 2 := by decide +kernel
abbrev vX8_end : List Cond := Cond.code yX8_end cX8_end 1 (some .int) :: zTB
theorem hdnX8_end : yX8_end.cls = RX8 ∧ yX8_end.cls ≠ "java/lang/invoke/MethodHandle" ∧ yX8_end.cls ≠ "java/lang/invoke/VarHandle" ∧ (parseMethodDescriptor yX8_end.desc).map (fun d => d.parameters.length) = some 0 := by decide +kernel
abbrev vX5_checkNames : List Cond := Cond.code yX5_checkNames cX5_checkNames 3 none :: zTB
theorem hdnX5_checkNames : yX5_checkNames.cls = RX5 ∧ yX5_checkNames.cls ≠ "java/lang/invoke/MethodHandle" ∧ yX5_checkNames.cls ≠ "java/lang/invoke/VarHandle" ∧ (parseMethodDescriptor yX5_checkNames.desc).map (fun d => d.parameters.length) = some 0 := by decide +kernel
abbrev vX4_isDeed : List Cond := Cond.code yX4_isDeed cX4_isDeed 1 (some .boolean) :: zTB
theorem hdnX4_isDeed : yX4_isDeed.cls ≠ "java/lang/invoke/MethodHandle" ∧ yX4_isDeed.cls ≠ "java/lang/invoke/VarHandle" ∧ (parseMethodDescriptor yX4_isDeed.desc).map (fun d => d.parameters.length) = some 1 := by decide +kernel
abbrev vX4_aboutAt : List Cond := Cond.code yX4_aboutAt cX4_aboutAt 2 (some .int) :: zTB
theorem hdnX4_aboutAt : yX4_aboutAt.cls = RX4 ∧ yX4_aboutAt.cls ≠ "java/lang/invoke/MethodHandle" ∧ yX4_aboutAt.cls ≠ "java/lang/invoke/VarHandle" ∧ (parseMethodDescriptor yX4_aboutAt.desc).map (fun d => d.parameters.length) = some 1 := by decide +kernel
abbrev vX4_deedAt : List Cond := Cond.code yX4_deedAt cX4_deedAt 2 (some .int) :: zTB
theorem hdnX4_deedAt : yX4_deedAt.cls = RX4 ∧ yX4_deedAt.cls ≠ "java/lang/invoke/MethodHandle" ∧ yX4_deedAt.cls ≠ "java/lang/invoke/VarHandle" ∧ (parseMethodDescriptor yX4_deedAt.desc).map (fun d => d.parameters.length) = some 1 := by decide +kernel
abbrev vX4_countNodes : List Cond := Cond.code yX4_countNodes cX4_countNodes 4 (some .int) :: zTB
theorem hdnX4_countNodes : yX4_countNodes.cls = RX4 ∧ yX4_countNodes.cls ≠ "java/lang/invoke/MethodHandle" ∧ yX4_countNodes.cls ≠ "java/lang/invoke/VarHandle" ∧ (parseMethodDescriptor yX4_countNodes.desc).map (fun d => d.parameters.length) = some 1 := by decide +kernel
abbrev vX4_closeDefinition : List Cond := Cond.code yX4_closeDefinition cX4_closeDefinition 3 none :: zTB
theorem hdnX4_closeDefinition : yX4_closeDefinition.cls = RX4 ∧ yX4_closeDefinition.cls ≠ "java/lang/invoke/MethodHandle" ∧ yX4_closeDefinition.cls ≠ "java/lang/invoke/VarHandle" ∧ (parseMethodDescriptor yX4_closeDefinition.desc).map (fun d => d.parameters.length) = some 1 := by decide +kernel
abbrev vX4_deedCount : List Cond := Cond.code yX4_deedCount cX4_deedCount 1 (some .int) :: zTB
theorem hdnX4_deedCount : yX4_deedCount.cls = RX4 ∧ yX4_deedCount.cls ≠ "java/lang/invoke/MethodHandle" ∧ yX4_deedCount.cls ≠ "java/lang/invoke/VarHandle" ∧ (parseMethodDescriptor yX4_deedCount.desc).map (fun d => d.parameters.length) = some 0 := by decide +kernel
abbrev vX4_openDefinition : List Cond := Cond.code yX4_openDefinition cX4_openDefinition 3 none :: zTB
theorem hdnX4_openDefinition : yX4_openDefinition.cls = RX4 ∧ yX4_openDefinition.cls ≠ "java/lang/invoke/MethodHandle" ∧ yX4_openDefinition.cls ≠ "java/lang/invoke/VarHandle" ∧ (parseMethodDescriptor yX4_openDefinition.desc).map (fun d => d.parameters.length) = some 1 := by decide +kernel
abbrev vX8_kind : List Cond := Cond.code yX8_kind cX8_kind 1 (some .int) :: zTB
theorem hdnX8_kind : yX8_kind.cls = RX8 ∧ yX8_kind.cls ≠ "java/lang/invoke/MethodHandle" ∧ yX8_kind.cls ≠ "java/lang/invoke/VarHandle" ∧ (parseMethodDescriptor yX8_kind.desc).map (fun d => d.parameters.length) = some 0 := by decide +kernel
abbrev vX8_place : List Cond := Cond.code yX8_place cX8_place 1 (some .int) :: zTB
theorem hdnX8_place : yX8_place.cls = RX8 ∧ yX8_place.cls ≠ "java/lang/invoke/MethodHandle" ∧ yX8_place.cls ≠ "java/lang/invoke/VarHandle" ∧ (parseMethodDescriptor yX8_place.desc).map (fun d => d.parameters.length) = some 0 := by decide +kernel
abbrev vX5_cannotStand : List Cond := Cond.code yX5_cannotStand cX5_cannotStand 2 (some .boolean) :: zTB
theorem hdnX5_cannotStand : yX5_cannotStand.cls = RX5 ∧ yX5_cannotStand.cls ≠ "java/lang/invoke/MethodHandle" ∧ yX5_cannotStand.cls ≠ "java/lang/invoke/VarHandle" ∧ (parseMethodDescriptor yX5_cannotStand.desc).map (fun d => d.parameters.length) = some 0 := by decide +kernel
abbrev vX4_addDeed_ : List Cond := Cond.code yX4_addDeed_ cX4_addDeed_ 6 none :: zTB
theorem hdnX4_addDeed_ : yX4_addDeed_.cls = RX4 ∧ yX4_addDeed_.cls ≠ "java/lang/invoke/MethodHandle" ∧ yX4_addDeed_.cls ≠ "java/lang/invoke/VarHandle" ∧ (parseMethodDescriptor yX4_addDeed_.desc).map (fun d => d.parameters.length) = some 4 := by decide +kernel
abbrev vX4_addDeed : List Cond := Cond.code yX4_addDeed cX4_addDeed 3 none :: zTB
theorem hdnX4_addDeed : yX4_addDeed.cls = RX4 ∧ yX4_addDeed.cls ≠ "java/lang/invoke/MethodHandle" ∧ yX4_addDeed.cls ≠ "java/lang/invoke/VarHandle" ∧ (parseMethodDescriptor yX4_addDeed.desc).map (fun d => d.parameters.length) = some 2 := by decide +kernel
abbrev vX5_beginsAtom : List Cond := Cond.code yX5_beginsAtom cX5_beginsAtom 2 (some .boolean) :: zTB
theorem hdnX5_beginsAtom : yX5_beginsAtom.cls = RX5 ∧ yX5_beginsAtom.cls ≠ "java/lang/invoke/MethodHandle" ∧ yX5_beginsAtom.cls ≠ "java/lang/invoke/VarHandle" ∧ (parseMethodDescriptor yX5_beginsAtom.desc).map (fun d => d.parameters.length) = some 0 := by decide +kernel
abbrev vX4_addName : List Cond := Cond.code yX4_addName cX4_addName 4 none :: zTB
theorem hdnX4_addName : yX4_addName.cls = RX4 ∧ yX4_addName.cls ≠ "java/lang/invoke/MethodHandle" ∧ yX4_addName.cls ≠ "java/lang/invoke/VarHandle" ∧ (parseMethodDescriptor yX4_addName.desc).map (fun d => d.parameters.length) = some 2 := by decide +kernel
abbrev vX7_byteAt : List Cond := Cond.code yX7_byteAt cX7_byteAt 2 (some .int) :: zTB
theorem hdnX7_byteAt : yX7_byteAt.cls = RX7 ∧ yX7_byteAt.cls ≠ "java/lang/invoke/MethodHandle" ∧ yX7_byteAt.cls ≠ "java/lang/invoke/VarHandle" ∧ (parseMethodDescriptor yX7_byteAt.desc).map (fun d => d.parameters.length) = some 1 := by decide +kernel
abbrev vX8_isDigit : List Cond := Cond.code yX8_isDigit cX8_isDigit 1 (some .boolean) :: zTB
theorem hdnX8_isDigit : yX8_isDigit.cls ≠ "java/lang/invoke/MethodHandle" ∧ yX8_isDigit.cls ≠ "java/lang/invoke/VarHandle" ∧ (parseMethodDescriptor yX8_isDigit.desc).map (fun d => d.parameters.length) = some 1 := by decide +kernel
abbrev vX8_isLetter : List Cond := Cond.code yX8_isLetter cX8_isLetter 1 (some .boolean) :: zTB
theorem hdnX8_isLetter : yX8_isLetter.cls ≠ "java/lang/invoke/MethodHandle" ∧ yX8_isLetter.cls ≠ "java/lang/invoke/VarHandle" ∧ (parseMethodDescriptor yX8_isLetter.desc).map (fun d => d.parameters.length) = some 1 := by decide +kernel
abbrev vX8_signOf : List Cond := Cond.code yX8_signOf cX8_signOf 1 (some .int) :: zTB
theorem hdnX8_signOf : yX8_signOf.cls ≠ "java/lang/invoke/MethodHandle" ∧ yX8_signOf.cls ≠ "java/lang/invoke/VarHandle" ∧ (parseMethodDescriptor yX8_signOf.desc).map (fun d => d.parameters.length) = some 1 := by decide +kernel
abbrev vX8_takeNumber : List Cond := Cond.code yX8_takeNumber cX8_takeNumber 1 none :: zTB
theorem hdnX8_takeNumber : yX8_takeNumber.cls = RX8 ∧ yX8_takeNumber.cls ≠ "java/lang/invoke/MethodHandle" ∧ yX8_takeNumber.cls ≠ "java/lang/invoke/VarHandle" ∧ (parseMethodDescriptor yX8_takeNumber.desc).map (fun d => d.parameters.length) = some 0 := by decide +kernel
abbrev vX8_isLetterOrDigit : List Cond := Cond.code yX8_isLetterOrDigit cX8_isLetterOrDigit 1 (some .boolean) :: zTB
theorem hdnX8_isLetterOrDigit : yX8_isLetterOrDigit.cls ≠ "java/lang/invoke/MethodHandle" ∧ yX8_isLetterOrDigit.cls ≠ "java/lang/invoke/VarHandle" ∧ (parseMethodDescriptor yX8_isLetterOrDigit.desc).map (fun d => d.parameters.length) = some 1 := by decide +kernel
abbrev vX8_kindOfWord : List Cond := Cond.code yX8_kindOfWord cX8_kindOfWord 2 (some .int) :: zTB
theorem hdnX8_kindOfWord : yX8_kindOfWord.cls = RX8 ∧ yX8_kindOfWord.cls ≠ "java/lang/invoke/MethodHandle" ∧ yX8_kindOfWord.cls ≠ "java/lang/invoke/VarHandle" ∧ (parseMethodDescriptor yX8_kindOfWord.desc).map (fun d => d.parameters.length) = some 0 := by decide +kernel
abbrev vX8_takeWord : List Cond := Cond.code yX8_takeWord cX8_takeWord 1 none :: zTB
theorem hdnX8_takeWord : yX8_takeWord.cls = RX8 ∧ yX8_takeWord.cls ≠ "java/lang/invoke/MethodHandle" ∧ yX8_takeWord.cls ≠ "java/lang/invoke/VarHandle" ∧ (parseMethodDescriptor yX8_takeWord.desc).map (fun d => d.parameters.length) = some 0 := by decide +kernel
abbrev vX8_advance : List Cond := Cond.code yX8_advance cX8_advance 2 none :: zTB
theorem hdnX8_advance : yX8_advance.cls = RX8 ∧ yX8_advance.cls ≠ "java/lang/invoke/MethodHandle" ∧ yX8_advance.cls ≠ "java/lang/invoke/VarHandle" ∧ (parseMethodDescriptor yX8_advance.desc).map (fun d => d.parameters.length) = some 0 := by decide +kernel
abbrev vX5_take : List Cond := Cond.code yX5_take cX5_take 2 (some .boolean) :: zTB
theorem hdnX5_take : yX5_take.cls = RX5 ∧ yX5_take.cls ≠ "java/lang/invoke/MethodHandle" ∧ yX5_take.cls ≠ "java/lang/invoke/VarHandle" ∧ (parseMethodDescriptor yX5_take.desc).map (fun d => d.parameters.length) = some 1 := by decide +kernel
abbrev vX5_readWithin : List Cond := Cond.code yX5_readWithin cX5_readWithin 2 (some .boolean) :: zTB
theorem hdnX5_readWithin : yX5_readWithin.cls = RX5 ∧ yX5_readWithin.cls ≠ "java/lang/invoke/MethodHandle" ∧ yX5_readWithin.cls ≠ "java/lang/invoke/VarHandle" ∧ (parseMethodDescriptor yX5_readWithin.desc).map (fun d => d.parameters.length) = some 1 := by decide +kernel
abbrev vX8_name : List Cond := Cond.code yX8_name cX8_name 1 (some .long) :: zTB
theorem hdnX8_name : yX8_name.cls = RX8 ∧ yX8_name.cls ≠ "java/lang/invoke/MethodHandle" ∧ yX8_name.cls ≠ "java/lang/invoke/VarHandle" ∧ (parseMethodDescriptor yX8_name.desc).map (fun d => d.parameters.length) = some 0 := by decide +kernel
abbrev vX8_value : List Cond := Cond.code yX8_value cX8_value 1 (some .int) :: zTB
theorem hdnX8_value : yX8_value.cls = RX8 ∧ yX8_value.cls ≠ "java/lang/invoke/MethodHandle" ∧ yX8_value.cls ≠ "java/lang/invoke/VarHandle" ∧ (parseMethodDescriptor yX8_value.desc).map (fun d => d.parameters.length) = some 0 := by decide +kernel
abbrev vX5_readAtom : List Cond := Cond.code yX5_readAtom cX5_readAtom 2 (some .boolean) :: zTB
theorem hdnX5_readAtom : yX5_readAtom.cls = RX5 ∧ yX5_readAtom.cls ≠ "java/lang/invoke/MethodHandle" ∧ yX5_readAtom.cls ≠ "java/lang/invoke/VarHandle" ∧ (parseMethodDescriptor yX5_readAtom.desc).map (fun d => d.parameters.length) = some 1 := by decide +kernel
abbrev vX5_readAtoms : List Cond := Cond.code yX5_readAtoms cX5_readAtoms 3 (some .boolean) :: zTB
theorem hdnX5_readAtoms : yX5_readAtoms.cls = RX5 ∧ yX5_readAtoms.cls ≠ "java/lang/invoke/MethodHandle" ∧ yX5_readAtoms.cls ≠ "java/lang/invoke/VarHandle" ∧ (parseMethodDescriptor yX5_readAtoms.desc).map (fun d => d.parameters.length) = some 1 := by decide +kernel
abbrev vX4_settlePointers : List Cond := Cond.code yX4_settlePointers cX4_settlePointers 4 none :: zTB
theorem hdnX4_settlePointers : yX4_settlePointers.cls = RX4 ∧ yX4_settlePointers.cls ≠ "java/lang/invoke/MethodHandle" ∧ yX4_settlePointers.cls ≠ "java/lang/invoke/VarHandle" ∧ (parseMethodDescriptor yX4_settlePointers.desc).map (fun d => d.parameters.length) = some 3 := by decide +kernel
abbrev vX5_has : List Cond := Cond.code yX5_has cX5_has 6 (some .boolean) :: zTB
theorem hdnX5_has : yX5_has.cls ≠ "java/lang/invoke/MethodHandle" ∧ yX5_has.cls ≠ "java/lang/invoke/VarHandle" ∧ (parseMethodDescriptor yX5_has.desc).map (fun d => d.parameters.length) = some 4 := by decide +kernel
abbrev vX5_readBinding : List Cond := Cond.code yX5_readBinding cX5_readBinding 5 (some .boolean) :: zTB
theorem hdnX5_readBinding : yX5_readBinding.cls = RX5 ∧ yX5_readBinding.cls ≠ "java/lang/invoke/MethodHandle" ∧ yX5_readBinding.cls ≠ "java/lang/invoke/VarHandle" ∧ (parseMethodDescriptor yX5_readBinding.desc).map (fun d => d.parameters.length) = some 2 := by decide +kernel
abbrev vX5_readLet : List Cond := Cond.code yX5_readLet cX5_readLet 7 (some .boolean) :: zTB
theorem hdnX5_readLet : yX5_readLet.cls = RX5 ∧ yX5_readLet.cls ≠ "java/lang/invoke/MethodHandle" ∧ yX5_readLet.cls ≠ "java/lang/invoke/VarHandle" ∧ (parseMethodDescriptor yX5_readLet.desc).map (fun d => d.parameters.length) = some 1 := by decide +kernel
abbrev vX5_readExpr : List Cond := Cond.code yX5_readExpr cX5_readExpr 2 (some .boolean) :: zTB
theorem hdnX5_readExpr : yX5_readExpr.cls = RX5 ∧ yX5_readExpr.cls ≠ "java/lang/invoke/MethodHandle" ∧ yX5_readExpr.cls ≠ "java/lang/invoke/VarHandle" ∧ (parseMethodDescriptor yX5_readExpr.desc).map (fun d => d.parameters.length) = some 1 := by decide +kernel
abbrev vX5_readParameters : List Cond := Cond.code yX5_readParameters cX5_readParameters 2 (some .int) :: zTB
theorem hdnX5_readParameters : yX5_readParameters.cls = RX5 ∧ yX5_readParameters.cls ≠ "java/lang/invoke/MethodHandle" ∧ yX5_readParameters.cls ≠ "java/lang/invoke/VarHandle" ∧ (parseMethodDescriptor yX5_readParameters.desc).map (fun d => d.parameters.length) = some 0 := by decide +kernel
abbrev vX5_readDefinition : List Cond := Cond.code yX5_readDefinition cX5_readDefinition 4 (some .boolean) :: zTB
theorem hdnX5_readDefinition : yX5_readDefinition.cls = RX5 ∧ yX5_readDefinition.cls ≠ "java/lang/invoke/MethodHandle" ∧ yX5_readDefinition.cls ≠ "java/lang/invoke/VarHandle" ∧ (parseMethodDescriptor yX5_readDefinition.desc).map (fun d => d.parameters.length) = some 0 := by decide +kernel
abbrev vX8_begin : List Cond := Cond.code yX8_begin cX8_begin 1 none :: zTB
theorem hdnX8_begin : yX8_begin.cls = RX8 ∧ yX8_begin.cls ≠ "java/lang/invoke/MethodHandle" ∧ yX8_begin.cls ≠ "java/lang/invoke/VarHandle" ∧ (parseMethodDescriptor yX8_begin.desc).map (fun d => d.parameters.length) = some 0 := by decide +kernel
abbrev vX5_readProgram : List Cond := Cond.code yX5_readProgram cX5_readProgram 3 none :: zTB
theorem hdnX5_readProgram : yX5_readProgram.cls = RX5 ∧ yX5_readProgram.cls ≠ "java/lang/invoke/MethodHandle" ∧ yX5_readProgram.cls ≠ "java/lang/invoke/VarHandle" ∧ (parseMethodDescriptor yX5_readProgram.desc).map (fun d => d.parameters.length) = some 0 := by decide +kernel
abbrev vX2_stepsDone : List Cond := Cond.code yX2_stepsDone cX2_stepsDone 1 (some .int) :: zTB
theorem hdnX2_stepsDone : yX2_stepsDone.cls = RX2 ∧ yX2_stepsDone.cls ≠ "java/lang/invoke/MethodHandle" ∧ yX2_stepsDone.cls ≠ "java/lang/invoke/VarHandle" ∧ (parseMethodDescriptor yX2_stepsDone.desc).map (fun d => d.parameters.length) = some 0 := by decide +kernel
abbrev vX9_forgetSweeps : List Cond := Cond.code yX9_forgetSweeps cX9_forgetSweeps 3 none :: zTB
theorem hdnX9_forgetSweeps : yX9_forgetSweeps.cls = RX9 ∧ yX9_forgetSweeps.cls ≠ "java/lang/invoke/MethodHandle" ∧ yX9_forgetSweeps.cls ≠ "java/lang/invoke/VarHandle" ∧ (parseMethodDescriptor yX9_forgetSweeps.desc).map (fun d => d.parameters.length) = some 1 := by decide +kernel
abbrev vX9_goOn : List Cond := Cond.code yX9_goOn cX9_goOn 1 none :: zTB
theorem hdnX9_goOn : yX9_goOn.cls = RX9 ∧ yX9_goOn.cls ≠ "java/lang/invoke/MethodHandle" ∧ yX9_goOn.cls ≠ "java/lang/invoke/VarHandle" ∧ (parseMethodDescriptor yX9_goOn.desc).map (fun d => d.parameters.length) = some 0 := by decide +kernel
abbrev vX9_read : List Cond := Cond.code yX9_read cX9_read 1 (some .int) :: zTB
theorem hdnX9_read : yX9_read.cls = RX9 ∧ yX9_read.cls ≠ "java/lang/invoke/MethodHandle" ∧ yX9_read.cls ≠ "java/lang/invoke/VarHandle" ∧ (parseMethodDescriptor yX9_read.desc).map (fun d => d.parameters.length) = some 0 := by decide +kernel
abbrev vX9_fault : List Cond := Cond.code yX9_fault cX9_fault 1 (some .int) :: zTB
theorem hdnX9_fault : yX9_fault.cls = RX9 ∧ yX9_fault.cls ≠ "java/lang/invoke/MethodHandle" ∧ yX9_fault.cls ≠ "java/lang/invoke/VarHandle" ∧ (parseMethodDescriptor yX9_fault.desc).map (fun d => d.parameters.length) = some 0 := by decide +kernel
abbrev vX0_firstOf : List Cond := Cond.code yX0_firstOf cX0_firstOf 2 (some .int) :: zTB
theorem hdnX0_firstOf : yX0_firstOf.cls = RX0 ∧ yX0_firstOf.cls ≠ "java/lang/invoke/MethodHandle" ∧ yX0_firstOf.cls ≠ "java/lang/invoke/VarHandle" ∧ (parseMethodDescriptor yX0_firstOf.desc).map (fun d => d.parameters.length) = some 1 := by decide +kernel
abbrev vX0_hasRoom : List Cond := Cond.code yX0_hasRoom cX0_hasRoom 2 (some .boolean) :: zTB
theorem hdnX0_hasRoom : yX0_hasRoom.cls = RX0 ∧ yX0_hasRoom.cls ≠ "java/lang/invoke/MethodHandle" ∧ yX0_hasRoom.cls ≠ "java/lang/invoke/VarHandle" ∧ (parseMethodDescriptor yX0_hasRoom.desc).map (fun d => d.parameters.length) = some 1 := by decide +kernel
abbrev vX4_nodesOf : List Cond := Cond.code yX4_nodesOf cX4_nodesOf 2 (some .int) :: zTB
theorem hdnX4_nodesOf : yX4_nodesOf.cls = RX4 ∧ yX4_nodesOf.cls ≠ "java/lang/invoke/MethodHandle" ∧ yX4_nodesOf.cls ≠ "java/lang/invoke/VarHandle" ∧ (parseMethodDescriptor yX4_nodesOf.desc).map (fun d => d.parameters.length) = some 1 := by decide +kernel
abbrev vX6_at : List Cond := Cond.code yX6_at cX6_at 2 (some .int) :: zTB
theorem hdnX6_at : yX6_at.cls = RX6 ∧ yX6_at.cls ≠ "java/lang/invoke/MethodHandle" ∧ yX6_at.cls ≠ "java/lang/invoke/VarHandle" ∧ (parseMethodDescriptor yX6_at.desc).map (fun d => d.parameters.length) = some 1 := by decide +kernel
abbrev vX6_beginOf : List Cond := Cond.code yX6_beginOf cX6_beginOf 2 (some .int) :: zTB
theorem hdnX6_beginOf : yX6_beginOf.cls = RX6 ∧ yX6_beginOf.cls ≠ "java/lang/invoke/MethodHandle" ∧ yX6_beginOf.cls ≠ "java/lang/invoke/VarHandle" ∧ (parseMethodDescriptor yX6_beginOf.desc).map (fun d => d.parameters.length) = some 1 := by decide +kernel
abbrev vX6_height : List Cond := Cond.code yX6_height cX6_height 1 (some .int) :: zTB
theorem hdnX6_height : yX6_height.cls = RX6 ∧ yX6_height.cls ≠ "java/lang/invoke/MethodHandle" ∧ yX6_height.cls ≠ "java/lang/invoke/VarHandle" ∧ (parseMethodDescriptor yX6_height.desc).map (fun d => d.parameters.length) = some 0 := by decide +kernel
abbrev vX6_fromTop : List Cond := Cond.code yX6_fromTop cX6_fromTop 2 (some .int) :: zTB
theorem hdnX6_fromTop : yX6_fromTop.cls = RX6 ∧ yX6_fromTop.cls ≠ "java/lang/invoke/MethodHandle" ∧ yX6_fromTop.cls ≠ "java/lang/invoke/VarHandle" ∧ (parseMethodDescriptor yX6_fromTop.desc).map (fun d => d.parameters.length) = some 1 := by decide +kernel
abbrev vX6_hasRoom : List Cond := Cond.code yX6_hasRoom cX6_hasRoom 1 (some .boolean) :: zTB
theorem hdnX6_hasRoom : yX6_hasRoom.cls = RX6 ∧ yX6_hasRoom.cls ≠ "java/lang/invoke/MethodHandle" ∧ yX6_hasRoom.cls ≠ "java/lang/invoke/VarHandle" ∧ (parseMethodDescriptor yX6_hasRoom.desc).map (fun d => d.parameters.length) = some 0 := by decide +kernel
abbrev vX2_hasRoomFor : List Cond := Cond.code yX2_hasRoomFor cX2_hasRoomFor 2 (some .boolean) :: zTB
theorem hdnX2_hasRoomFor : yX2_hasRoomFor.cls = RX2 ∧ yX2_hasRoomFor.cls ≠ "java/lang/invoke/MethodHandle" ∧ yX2_hasRoomFor.cls ≠ "java/lang/invoke/VarHandle" ∧ (parseMethodDescriptor yX2_hasRoomFor.desc).map (fun d => d.parameters.length) = some 1 := by decide +kernel
abbrev vX0_kindOf : List Cond := Cond.code yX0_kindOf cX0_kindOf 2 (some .int) :: zTB
theorem hdnX0_kindOf : yX0_kindOf.cls = RX0 ∧ yX0_kindOf.cls ≠ "java/lang/invoke/MethodHandle" ∧ yX0_kindOf.cls ≠ "java/lang/invoke/VarHandle" ∧ (parseMethodDescriptor yX0_kindOf.desc).map (fun d => d.parameters.length) = some 1 := by decide +kernel
abbrev vX2_failing : List Cond := Cond.code yX2_failing cX2_failing 2 (some .int) :: zTB
theorem hdnX2_failing : yX2_failing.cls = RX2 ∧ yX2_failing.cls ≠ "java/lang/invoke/MethodHandle" ∧ yX2_failing.cls ≠ "java/lang/invoke/VarHandle" ∧ (parseMethodDescriptor yX2_failing.desc).map (fun d => d.parameters.length) = some 1 := by decide +kernel
abbrev vX0_followed : List Cond := Cond.code yX0_followed cX0_followed 4 (some .int) :: zTB
theorem hdnX0_followed : yX0_followed.cls = RX0 ∧ yX0_followed.cls ≠ "java/lang/invoke/MethodHandle" ∧ yX0_followed.cls ≠ "java/lang/invoke/VarHandle" ∧ (parseMethodDescriptor yX0_followed.desc).map (fun d => d.parameters.length) = some 1 := by decide +kernel
abbrev vX2_isOfSort : List Cond := Cond.code yX2_isOfSort cX2_isOfSort 2 (some .boolean) :: zTB
theorem hdnX2_isOfSort : yX2_isOfSort.cls ≠ "java/lang/invoke/MethodHandle" ∧ yX2_isOfSort.cls ≠ "java/lang/invoke/VarHandle" ∧ (parseMethodDescriptor yX2_isOfSort.desc).map (fun d => d.parameters.length) = some 2 := by decide +kernel
abbrev vX2_needsOf : List Cond := Cond.code yX2_needsOf cX2_needsOf 1 (some .int) :: zTB
theorem hdnX2_needsOf : yX2_needsOf.cls ≠ "java/lang/invoke/MethodHandle" ∧ yX2_needsOf.cls ≠ "java/lang/invoke/VarHandle" ∧ (parseMethodDescriptor yX2_needsOf.desc).map (fun d => d.parameters.length) = some 1 := by decide +kernel
abbrev vX2_isValue : List Cond := Cond.code yX2_isValue cX2_isValue 4 (some .boolean) :: zTB
theorem hdnX2_isValue : yX2_isValue.cls = RX2 ∧ yX2_isValue.cls ≠ "java/lang/invoke/MethodHandle" ∧ yX2_isValue.cls ≠ "java/lang/invoke/VarHandle" ∧ (parseMethodDescriptor yX2_isValue.desc).map (fun d => d.parameters.length) = some 1 := by decide +kernel
abbrev vX2_isNil : List Cond := Cond.code yX2_isNil cX2_isNil 2 (some .boolean) :: zTB
theorem hdnX2_isNil : yX2_isNil.cls = RX2 ∧ yX2_isNil.cls ≠ "java/lang/invoke/MethodHandle" ∧ yX2_isNil.cls ≠ "java/lang/invoke/VarHandle" ∧ (parseMethodDescriptor yX2_isNil.desc).map (fun d => d.parameters.length) = some 1 := by decide +kernel
abbrev vX2_lookAtValues : List Cond := Cond.code yX2_lookAtValues cX2_lookAtValues 3 (some .int) :: zTB
theorem hdnX2_lookAtValues : yX2_lookAtValues.cls = RX2 ∧ yX2_lookAtValues.cls ≠ "java/lang/invoke/MethodHandle" ∧ yX2_lookAtValues.cls ≠ "java/lang/invoke/VarHandle" ∧ (parseMethodDescriptor yX2_lookAtValues.desc).map (fun d => d.parameters.length) = some 1 := by decide +kernel
abbrev vX0_secondOf : List Cond := Cond.code yX0_secondOf cX0_secondOf 2 (some .int) :: zTB
theorem hdnX0_secondOf : yX0_secondOf.cls = RX0 ∧ yX0_secondOf.cls ≠ "java/lang/invoke/MethodHandle" ∧ yX0_secondOf.cls ≠ "java/lang/invoke/VarHandle" ∧ (parseMethodDescriptor yX0_secondOf.desc).map (fun d => d.parameters.length) = some 1 := by decide +kernel
abbrev vX2_secondBelow : List Cond := Cond.code yX2_secondBelow cX2_secondBelow 2 (some .int) :: zTB
theorem hdnX2_secondBelow : yX2_secondBelow.cls = RX2 ∧ yX2_secondBelow.cls ≠ "java/lang/invoke/MethodHandle" ∧ yX2_secondBelow.cls ≠ "java/lang/invoke/VarHandle" ∧ (parseMethodDescriptor yX2_secondBelow.desc).map (fun d => d.parameters.length) = some 1 := by decide +kernel
abbrev vX2_wantsOf : List Cond := Cond.code yX2_wantsOf cX2_wantsOf 1 (some .int) :: zTB
theorem hdnX2_wantsOf : yX2_wantsOf.cls ≠ "java/lang/invoke/MethodHandle" ∧ yX2_wantsOf.cls ≠ "java/lang/invoke/VarHandle" ∧ (parseMethodDescriptor yX2_wantsOf.desc).map (fun d => d.parameters.length) = some 1 := by decide +kernel
abbrev vX6_hasAsLowest : List Cond := Cond.code yX6_hasAsLowest cX6_hasAsLowest 3 (some .boolean) :: zTB
theorem hdnX6_hasAsLowest : yX6_hasAsLowest.cls = RX6 ∧ yX6_hasAsLowest.cls ≠ "java/lang/invoke/MethodHandle" ∧ yX6_hasAsLowest.cls ≠ "java/lang/invoke/VarHandle" ∧ (parseMethodDescriptor yX6_hasAsLowest.desc).map (fun d => d.parameters.length) = some 1 := by decide +kernel
abbrev vX2_lookAtThings : List Cond := Cond.code yX2_lookAtThings cX2_lookAtThings 5 (some .int) :: zTB
theorem hdnX2_lookAtThings : yX2_lookAtThings.cls = RX2 ∧ yX2_lookAtThings.cls ≠ "java/lang/invoke/MethodHandle" ∧ yX2_lookAtThings.cls ≠ "java/lang/invoke/VarHandle" ∧ (parseMethodDescriptor yX2_lookAtThings.desc).map (fun d => d.parameters.length) = some 1 := by decide +kernel
abbrev vX6_dumped : List Cond := Cond.code yX6_dumped cX6_dumped 1 (some .int) :: zTB
theorem hdnX6_dumped : yX6_dumped.cls = RX6 ∧ yX6_dumped.cls ≠ "java/lang/invoke/MethodHandle" ∧ yX6_dumped.cls ≠ "java/lang/invoke/VarHandle" ∧ (parseMethodDescriptor yX6_dumped.desc).map (fun d => d.parameters.length) = some 0 := by decide +kernel
abbrev vX2_valueOnTop : List Cond := Cond.code yX2_valueOnTop cX2_valueOnTop 1 (some .int) :: zTB
theorem hdnX2_valueOnTop : yX2_valueOnTop.cls = RX2 ∧ yX2_valueOnTop.cls ≠ "java/lang/invoke/MethodHandle" ∧ yX2_valueOnTop.cls ≠ "java/lang/invoke/VarHandle" ∧ (parseMethodDescriptor yX2_valueOnTop.desc).map (fun d => d.parameters.length) = some 0 := by decide +kernel
abbrev vX2_look : List Cond := Cond.code yX2_look cX2_look 4 (some .int) :: zTB
theorem hdnX2_look : yX2_look.cls = RX2 ∧ yX2_look.cls ≠ "java/lang/invoke/MethodHandle" ∧ yX2_look.cls ≠ "java/lang/invoke/VarHandle" ∧ (parseMethodDescriptor yX2_look.desc).map (fun d => d.parameters.length) = some 0 := by decide +kernel
abbrev vX0_become : List Cond := Cond.code yX0_become cX0_become 5 none :: zTB
theorem hdnX0_become : yX0_become.cls = RX0 ∧ yX0_become.cls ≠ "java/lang/invoke/MethodHandle" ∧ yX0_become.cls ≠ "java/lang/invoke/VarHandle" ∧ (parseMethodDescriptor yX0_become.desc).map (fun d => d.parameters.length) = some 4 := by decide +kernel
abbrev vX3_give : List Cond := Cond.code yX3_give cX3_give 3 none :: zTB
theorem hdnX3_give : yX3_give.cls = RX3 ∧ yX3_give.cls ≠ "java/lang/invoke/MethodHandle" ∧ yX3_give.cls ≠ "java/lang/invoke/VarHandle" ∧ (parseMethodDescriptor yX3_give.desc).map (fun d => d.parameters.length) = some 2 := by decide +kernel
abbrev vX0_workFor : List Cond := Cond.code yX0_workFor cX0_workFor 2 none :: zTB
theorem hdnX0_workFor : yX0_workFor.cls = RX0 ∧ yX0_workFor.cls ≠ "java/lang/invoke/MethodHandle" ∧ yX0_workFor.cls ≠ "java/lang/invoke/VarHandle" ∧ (parseMethodDescriptor yX0_workFor.desc).map (fun d => d.parameters.length) = some 1 := by decide +kernel
abbrev vX3_addPointers : List Cond := Cond.code yX3_addPointers cX3_addPointers 6 none :: zTB
theorem hdnX3_addPointers : yX3_addPointers.cls = RX3 ∧ yX3_addPointers.cls ≠ "java/lang/invoke/MethodHandle" ∧ yX3_addPointers.cls ≠ "java/lang/invoke/VarHandle" ∧ (parseMethodDescriptor yX3_addPointers.desc).map (fun d => d.parameters.length) = some 2 := by decide +kernel
abbrev vX3_letWait : List Cond := Cond.code yX3_letWait cX3_letWait 2 none :: zTB
theorem hdnX3_letWait : yX3_letWait.cls = RX3 ∧ yX3_letWait.cls ≠ "java/lang/invoke/MethodHandle" ∧ yX3_letWait.cls ≠ "java/lang/invoke/VarHandle" ∧ (parseMethodDescriptor yX3_letWait.desc).map (fun d => d.parameters.length) = some 1 := by decide +kernel
abbrev vX3_applyWaiting : List Cond := Cond.code yX3_applyWaiting cX3_applyWaiting 5 none :: zTB
theorem hdnX3_applyWaiting : yX3_applyWaiting.cls = RX3 ∧ yX3_applyWaiting.cls ≠ "java/lang/invoke/MethodHandle" ∧ yX3_applyWaiting.cls ≠ "java/lang/invoke/VarHandle" ∧ (parseMethodDescriptor yX3_applyWaiting.desc).map (fun d => d.parameters.length) = some 1 := by decide +kernel
abbrev vX3_bind : List Cond := Cond.code yX3_bind cX3_bind 3 none :: zTB
theorem hdnX3_bind : yX3_bind.cls = RX3 ∧ yX3_bind.cls ≠ "java/lang/invoke/MethodHandle" ∧ yX3_bind.cls ≠ "java/lang/invoke/VarHandle" ∧ (parseMethodDescriptor yX3_bind.desc).map (fun d => d.parameters.length) = some 2 := by decide +kernel
abbrev vX3_takeWaiting : List Cond := Cond.code yX3_takeWaiting cX3_takeWaiting 1 (some .int) :: zTB
theorem hdnX3_takeWaiting : yX3_takeWaiting.cls = RX3 ∧ yX3_takeWaiting.cls ≠ "java/lang/invoke/MethodHandle" ∧ yX3_takeWaiting.cls ≠ "java/lang/invoke/VarHandle" ∧ (parseMethodDescriptor yX3_takeWaiting.desc).map (fun d => d.parameters.length) = some 0 := by decide +kernel
abbrev vX4_firstSlotAt : List Cond := Cond.code yX4_firstSlotAt cX4_firstSlotAt 2 (some .int) :: zTB
theorem hdnX4_firstSlotAt : yX4_firstSlotAt.cls = RX4 ∧ yX4_firstSlotAt.cls ≠ "java/lang/invoke/MethodHandle" ∧ yX4_firstSlotAt.cls ≠ "java/lang/invoke/VarHandle" ∧ (parseMethodDescriptor yX4_firstSlotAt.desc).map (fun d => d.parameters.length) = some 1 := by decide +kernel
abbrev vX3_doDeed : List Cond := Cond.code yX3_doDeed cX3_doDeed 3 none :: zTB
theorem hdnX3_doDeed : yX3_doDeed.cls = RX3 ∧ yX3_doDeed.cls ≠ "java/lang/invoke/MethodHandle" ∧ yX3_doDeed.cls ≠ "java/lang/invoke/VarHandle" ∧ (parseMethodDescriptor yX3_doDeed.desc).map (fun d => d.parameters.length) = some 2 := by decide +kernel
abbrev vX4_beginOf : List Cond := Cond.code yX4_beginOf cX4_beginOf 2 (some .int) :: zTB
theorem hdnX4_beginOf : yX4_beginOf.cls = RX4 ∧ yX4_beginOf.cls ≠ "java/lang/invoke/MethodHandle" ∧ yX4_beginOf.cls ≠ "java/lang/invoke/VarHandle" ∧ (parseMethodDescriptor yX4_beginOf.desc).map (fun d => d.parameters.length) = some 1 := by decide +kernel
abbrev vX4_endOf : List Cond := Cond.code yX4_endOf cX4_endOf 2 (some .int) :: zTB
theorem hdnX4_endOf : yX4_endOf.cls = RX4 ∧ yX4_endOf.cls ≠ "java/lang/invoke/MethodHandle" ∧ yX4_endOf.cls ≠ "java/lang/invoke/VarHandle" ∧ (parseMethodDescriptor yX4_endOf.desc).map (fun d => d.parameters.length) = some 1 := by decide +kernel
abbrev vX3_make : List Cond := Cond.code yX3_make cX3_make 4 (some .int) :: zTB
theorem hdnX3_make : yX3_make.cls = RX3 ∧ yX3_make.cls ≠ "java/lang/invoke/MethodHandle" ∧ yX3_make.cls ≠ "java/lang/invoke/VarHandle" ∧ (parseMethodDescriptor yX3_make.desc).map (fun d => d.parameters.length) = some 1 := by decide +kernel
abbrev vX6_pop : List Cond := Cond.code yX6_pop cX6_pop 2 none :: zTB
theorem hdnX6_pop : yX6_pop.cls = RX6 ∧ yX6_pop.cls ≠ "java/lang/invoke/MethodHandle" ∧ yX6_pop.cls ≠ "java/lang/invoke/VarHandle" ∧ (parseMethodDescriptor yX6_pop.desc).map (fun d => d.parameters.length) = some 1 := by decide +kernel
abbrev vX2_makeFunction : List Cond := Cond.code yX2_makeFunction cX2_makeFunction 5 none :: zTB
theorem hdnX2_makeFunction : yX2_makeFunction.cls = RX2 ∧ yX2_makeFunction.cls ≠ "java/lang/invoke/MethodHandle" ∧ yX2_makeFunction.cls ≠ "java/lang/invoke/VarHandle" ∧ (parseMethodDescriptor yX2_makeFunction.desc).map (fun d => d.parameters.length) = some 1 := by decide +kernel
abbrev vX2_calculate : List Cond := Cond.code yX2_calculate cX2_calculate 3 (some .int) :: zTB
theorem hdnX2_calculate : yX2_calculate.cls ≠ "java/lang/invoke/MethodHandle" ∧ yX2_calculate.cls ≠ "java/lang/invoke/VarHandle" ∧ (parseMethodDescriptor yX2_calculate.desc).map (fun d => d.parameters.length) = some 3 := by decide +kernel
abbrev vX2_workOut : List Cond := Cond.code yX2_workOut cX2_workOut 4 none :: zTB
theorem hdnX2_workOut : yX2_workOut.cls = RX2 ∧ yX2_workOut.cls ≠ "java/lang/invoke/MethodHandle" ∧ yX2_workOut.cls ≠ "java/lang/invoke/VarHandle" ∧ (parseMethodDescriptor yX2_workOut.desc).map (fun d => d.parameters.length) = some 2 := by decide +kernel
abbrev vX6_putOnDump : List Cond := Cond.code yX6_putOnDump cX6_putOnDump 2 none :: zTB
theorem hdnX6_putOnDump : yX6_putOnDump.cls = RX6 ∧ yX6_putOnDump.cls ≠ "java/lang/invoke/MethodHandle" ∧ yX6_putOnDump.cls ≠ "java/lang/invoke/VarHandle" ∧ (parseMethodDescriptor yX6_putOnDump.desc).map (fun d => d.parameters.length) = some 1 := by decide +kernel
abbrev vX6_takeFromDump : List Cond := Cond.code yX6_takeFromDump cX6_takeFromDump 1 none :: zTB
theorem hdnX6_takeFromDump : yX6_takeFromDump.cls = RX6 ∧ yX6_takeFromDump.cls ≠ "java/lang/invoke/MethodHandle" ∧ yX6_takeFromDump.cls ≠ "java/lang/invoke/VarHandle" ∧ (parseMethodDescriptor yX6_takeFromDump.desc).map (fun d => d.parameters.length) = some 0 := by decide +kernel
abbrev vX2_perform : List Cond := Cond.code yX2_perform cX2_perform 4 none :: zTB
theorem hdnX2_perform : yX2_perform.cls = RX2 ∧ yX2_perform.cls ≠ "java/lang/invoke/MethodHandle" ∧ yX2_perform.cls ≠ "java/lang/invoke/VarHandle" ∧ (parseMethodDescriptor yX2_perform.desc).map (fun d => d.parameters.length) = some 1 := by decide +kernel
abbrev vX2_attempt : List Cond := Cond.code yX2_attempt cX2_attempt 2 (some .int) :: zTB
theorem hdnX2_attempt : yX2_attempt.cls = RX2 ∧ yX2_attempt.cls ≠ "java/lang/invoke/MethodHandle" ∧ yX2_attempt.cls ≠ "java/lang/invoke/VarHandle" ∧ (parseMethodDescriptor yX2_attempt.desc).map (fun d => d.parameters.length) = some 0 := by decide +kernel
abbrev vX2_errorFound : List Cond := Cond.code yX2_errorFound cX2_errorFound 1 (some .int) :: zTB
theorem hdnX2_errorFound : yX2_errorFound.cls = RX2 ∧ yX2_errorFound.cls ≠ "java/lang/invoke/MethodHandle" ∧ yX2_errorFound.cls ≠ "java/lang/invoke/VarHandle" ∧ (parseMethodDescriptor yX2_errorFound.desc).map (fun d => d.parameters.length) = some 0 := by decide +kernel
abbrev vX2_wouldMake : List Cond := Cond.code yX2_wouldMake cX2_wouldMake 3 (some .boolean) :: zTB
theorem hdnX2_wouldMake : yX2_wouldMake.cls = RX2 ∧ yX2_wouldMake.cls ≠ "java/lang/invoke/MethodHandle" ∧ yX2_wouldMake.cls ≠ "java/lang/invoke/VarHandle" ∧ (parseMethodDescriptor yX2_wouldMake.desc).map (fun d => d.parameters.length) = some 1 := by decide +kernel
abbrev vX9_step : List Cond := Cond.code yX9_step cX9_step 3 (some .int) :: zTB
theorem hdnX9_step : yX9_step.cls = RX9 ∧ yX9_step.cls ≠ "java/lang/invoke/MethodHandle" ∧ yX9_step.cls ≠ "java/lang/invoke/VarHandle" ∧ (parseMethodDescriptor yX9_step.desc).map (fun d => d.parameters.length) = some 1 := by decide +kernel
abbrev vX9_state : List Cond := Cond.code yX9_state cX9_state 1 (some .int) :: zTB
theorem hdnX9_state : yX9_state.cls = RX9 ∧ yX9_state.cls ≠ "java/lang/invoke/MethodHandle" ∧ yX9_state.cls ≠ "java/lang/invoke/VarHandle" ∧ (parseMethodDescriptor yX9_state.desc).map (fun d => d.parameters.length) = some 0 := by decide +kernel
abbrev vX9_error : List Cond := Cond.code yX9_error cX9_error 1 (some .int) :: zTB
theorem hdnX9_error : yX9_error.cls = RX9 ∧ yX9_error.cls ≠ "java/lang/invoke/MethodHandle" ∧ yX9_error.cls ≠ "java/lang/invoke/VarHandle" ∧ (parseMethodDescriptor yX9_error.desc).map (fun d => d.parameters.length) = some 0 := by decide +kernel
abbrev vX9_next : List Cond := Cond.code yX9_next cX9_next 1 (some .int) :: zTB
theorem hdnX9_next : yX9_next.cls = RX9 ∧ yX9_next.cls ≠ "java/lang/invoke/MethodHandle" ∧ yX9_next.cls ≠ "java/lang/invoke/VarHandle" ∧ (parseMethodDescriptor yX9_next.desc).map (fun d => d.parameters.length) = some 0 := by decide +kernel
abbrev vX9_stopAt : List Cond := Cond.code yX9_stopAt cX9_stopAt 3 (some .int) :: zTB
theorem hdnX9_stopAt : yX9_stopAt.cls = RX9 ∧ yX9_stopAt.cls ≠ "java/lang/invoke/MethodHandle" ∧ yX9_stopAt.cls ≠ "java/lang/invoke/VarHandle" ∧ (parseMethodDescriptor yX9_stopAt.desc).map (fun d => d.parameters.length) = some 1 := by decide +kernel
abbrev vX0_isFree : List Cond := Cond.code yX0_isFree cX0_isFree 2 (some .boolean) :: zTB
theorem hdnX0_isFree : yX0_isFree.cls = RX0 ∧ yX0_isFree.cls ≠ "java/lang/invoke/MethodHandle" ∧ yX0_isFree.cls ≠ "java/lang/invoke/VarHandle" ∧ (parseMethodDescriptor yX0_isFree.desc).map (fun d => d.parameters.length) = some 1 := by decide +kernel
abbrev vX0_free : List Cond := Cond.code yX0_free cX0_free 2 none :: zTB
theorem hdnX0_free : yX0_free.cls = RX0 ∧ yX0_free.cls ≠ "java/lang/invoke/MethodHandle" ∧ yX0_free.cls ≠ "java/lang/invoke/VarHandle" ∧ (parseMethodDescriptor yX0_free.desc).map (fun d => d.parameters.length) = some 1 := by decide +kernel
abbrev vX0_hasOne : List Cond := Cond.code yX0_hasOne cX0_hasOne 2 (some .boolean) :: zTB
theorem hdnX0_hasOne : yX0_hasOne.cls = RX0 ∧ yX0_hasOne.cls ≠ "java/lang/invoke/MethodHandle" ∧ yX0_hasOne.cls ≠ "java/lang/invoke/VarHandle" ∧ (parseMethodDescriptor yX0_hasOne.desc).map (fun d => d.parameters.length) = some 1 := by decide +kernel
abbrev vX0_hasTwo : List Cond := Cond.code yX0_hasTwo cX0_hasTwo 3 (some .boolean) :: zTB
theorem hdnX0_hasTwo : yX0_hasTwo.cls = RX0 ∧ yX0_hasTwo.cls ≠ "java/lang/invoke/MethodHandle" ∧ yX0_hasTwo.cls ≠ "java/lang/invoke/VarHandle" ∧ (parseMethodDescriptor yX0_hasTwo.desc).map (fun d => d.parameters.length) = some 1 := by decide +kernel
abbrev vX1_addFound : List Cond := Cond.code yX1_addFound cX1_addFound 3 none :: zTB
theorem hdnX1_addFound : yX1_addFound.cls = RX1 ∧ yX1_addFound.cls ≠ "java/lang/invoke/MethodHandle" ∧ yX1_addFound.cls ≠ "java/lang/invoke/VarHandle" ∧ (parseMethodDescriptor yX1_addFound.desc).map (fun d => d.parameters.length) = some 2 := by decide +kernel
abbrev vX1_lengthOf : List Cond := Cond.code yX1_lengthOf cX1_lengthOf 2 (some .int) :: zTB
theorem hdnX1_lengthOf : yX1_lengthOf.cls = RX1 ∧ yX1_lengthOf.cls ≠ "java/lang/invoke/MethodHandle" ∧ yX1_lengthOf.cls ≠ "java/lang/invoke/VarHandle" ∧ (parseMethodDescriptor yX1_lengthOf.desc).map (fun d => d.parameters.length) = some 1 := by decide +kernel
abbrev vX1_comeTo : List Cond := Cond.code yX1_comeTo cX1_comeTo 3 none :: zTB
theorem hdnX1_comeTo : yX1_comeTo.cls = RX1 ∧ yX1_comeTo.cls ≠ "java/lang/invoke/MethodHandle" ∧ yX1_comeTo.cls ≠ "java/lang/invoke/VarHandle" ∧ (parseMethodDescriptor yX1_comeTo.desc).map (fun d => d.parameters.length) = some 2 := by decide +kernel
abbrev vX6_size : List Cond := Cond.code yX6_size cX6_size 1 (some .int) :: zTB
theorem hdnX6_size : yX6_size.cls = RX6 ∧ yX6_size.cls ≠ "java/lang/invoke/MethodHandle" ∧ yX6_size.cls ≠ "java/lang/invoke/VarHandle" ∧ (parseMethodDescriptor yX6_size.desc).map (fun d => d.parameters.length) = some 0 := by decide +kernel
abbrev vX1_markBeginnings : List Cond := Cond.code yX1_markBeginnings cX1_markBeginnings 3 none :: zTB
theorem hdnX1_markBeginnings : yX1_markBeginnings.cls = RX1 ∧ yX1_markBeginnings.cls ≠ "java/lang/invoke/MethodHandle" ∧ yX1_markBeginnings.cls ≠ "java/lang/invoke/VarHandle" ∧ (parseMethodDescriptor yX1_markBeginnings.desc).map (fun d => d.parameters.length) = some 0 := by decide +kernel
abbrev vX1_findKept : List Cond := Cond.code yX1_findKept cX1_findKept 5 none :: zTB
theorem hdnX1_findKept : yX1_findKept.cls = RX1 ∧ yX1_findKept.cls ≠ "java/lang/invoke/MethodHandle" ∧ yX1_findKept.cls ≠ "java/lang/invoke/VarHandle" ∧ (parseMethodDescriptor yX1_findKept.desc).map (fun d => d.parameters.length) = some 0 := by decide +kernel
abbrev vX1_freeTheRest : List Cond := Cond.code yX1_freeTheRest cX1_freeTheRest 3 (some .int) :: zTB
theorem hdnX1_freeTheRest : yX1_freeTheRest.cls = RX1 ∧ yX1_freeTheRest.cls ≠ "java/lang/invoke/MethodHandle" ∧ yX1_freeTheRest.cls ≠ "java/lang/invoke/VarHandle" ∧ (parseMethodDescriptor yX1_freeTheRest.desc).map (fun d => d.parameters.length) = some 0 := by decide +kernel
abbrev vX9_back : List Cond := Cond.code yX9_back cX9_back 4 (some .int) :: zTB
theorem hdnX9_back : yX9_back.cls = RX9 ∧ yX9_back.cls ≠ "java/lang/invoke/MethodHandle" ∧ yX9_back.cls ≠ "java/lang/invoke/VarHandle" ∧ (parseMethodDescriptor yX9_back.desc).map (fun d => d.parameters.length) = some 1 := by decide +kernel
abbrev vX9_sweep : List Cond := Cond.code yX9_sweep cX9_sweep 3 (some .int) :: zTB
theorem hdnX9_sweep : yX9_sweep.cls = RX9 ∧ yX9_sweep.cls ≠ "java/lang/invoke/MethodHandle" ∧ yX9_sweep.cls ≠ "java/lang/invoke/VarHandle" ∧ (parseMethodDescriptor yX9_sweep.desc).map (fun d => d.parameters.length) = some 0 := by decide +kernel
abbrev vX0_made : List Cond := Cond.code yX0_made cX0_made 1 (some .int) :: zTB
theorem hdnX0_made : yX0_made.cls = RX0 ∧ yX0_made.cls ≠ "java/lang/invoke/MethodHandle" ∧ yX0_made.cls ≠ "java/lang/invoke/VarHandle" ∧ (parseMethodDescriptor yX0_made.desc).map (fun d => d.parameters.length) = some 0 := by decide +kernel
abbrev vX0_most : List Cond := Cond.code yX0_most cX0_most 1 (some .int) :: zTB
theorem hdnX0_most : yX0_most.cls = RX0 ∧ yX0_most.cls ≠ "java/lang/invoke/MethodHandle" ∧ yX0_most.cls ≠ "java/lang/invoke/VarHandle" ∧ (parseMethodDescriptor yX0_most.desc).map (fun d => d.parameters.length) = some 0 := by decide +kernel
abbrev vX0_used : List Cond := Cond.code yX0_used cX0_used 1 (some .int) :: zTB
theorem hdnX0_used : yX0_used.cls = RX0 ∧ yX0_used.cls ≠ "java/lang/invoke/MethodHandle" ∧ yX0_used.cls ≠ "java/lang/invoke/VarHandle" ∧ (parseMethodDescriptor yX0_used.desc).map (fun d => d.parameters.length) = some 0 := by decide +kernel
abbrev vX1_countKept : List Cond := Cond.code yX1_countKept cX1_countKept 1 (some .int) :: zTB
theorem hdnX1_countKept : yX1_countKept.cls = RX1 ∧ yX1_countKept.cls ≠ "java/lang/invoke/MethodHandle" ∧ yX1_countKept.cls ≠ "java/lang/invoke/VarHandle" ∧ (parseMethodDescriptor yX1_countKept.desc).map (fun d => d.parameters.length) = some 0 := by decide +kernel
abbrev vX9_count : List Cond := Cond.code yX9_count cX9_count 2 (some .int) :: zTB
theorem hdnX9_count : yX9_count.cls = RX9 ∧ yX9_count.cls ≠ "java/lang/invoke/MethodHandle" ∧ yX9_count.cls ≠ "java/lang/invoke/VarHandle" ∧ (parseMethodDescriptor yX9_count.desc).map (fun d => d.parameters.length) = some 1 := by decide +kernel
abbrev vX0_makerOf : List Cond := Cond.code yX0_makerOf cX0_makerOf 2 (some .int) :: zTB
theorem hdnX0_makerOf : yX0_makerOf.cls = RX0 ∧ yX0_makerOf.cls ≠ "java/lang/invoke/MethodHandle" ∧ yX0_makerOf.cls ≠ "java/lang/invoke/VarHandle" ∧ (parseMethodDescriptor yX0_makerOf.desc).map (fun d => d.parameters.length) = some 1 := by decide +kernel
abbrev vX1_keeps : List Cond := Cond.code yX1_keeps cX1_keeps 2 (some .boolean) :: zTB
theorem hdnX1_keeps : yX1_keeps.cls = RX1 ∧ yX1_keeps.cls ≠ "java/lang/invoke/MethodHandle" ∧ yX1_keeps.cls ≠ "java/lang/invoke/VarHandle" ∧ (parseMethodDescriptor yX1_keeps.desc).map (fun d => d.parameters.length) = some 1 := by decide +kernel
abbrev vX1_placesThatHave : List Cond := Cond.code yX1_placesThatHave cX1_placesThatHave 5 (some .int) :: zTB
theorem hdnX1_placesThatHave : yX1_placesThatHave.cls = RX1 ∧ yX1_placesThatHave.cls ≠ "java/lang/invoke/MethodHandle" ∧ yX1_placesThatHave.cls ≠ "java/lang/invoke/VarHandle" ∧ (parseMethodDescriptor yX1_placesThatHave.desc).map (fun d => d.parameters.length) = some 1 := by decide +kernel
abbrev vX9_node : List Cond := Cond.code yX9_node cX9_node 3 (some .int) :: zTB
theorem hdnX9_node : yX9_node.cls = RX9 ∧ yX9_node.cls ≠ "java/lang/invoke/MethodHandle" ∧ yX9_node.cls ≠ "java/lang/invoke/VarHandle" ∧ (parseMethodDescriptor yX9_node.desc).map (fun d => d.parameters.length) = some 2 := by decide +kernel
abbrev vX9_top : List Cond := Cond.code yX9_top cX9_top 3 (some .int) :: zTB
theorem hdnX9_top : yX9_top.cls = RX9 ∧ yX9_top.cls ≠ "java/lang/invoke/MethodHandle" ∧ yX9_top.cls ≠ "java/lang/invoke/VarHandle" ∧ (parseMethodDescriptor yX9_top.desc).map (fun d => d.parameters.length) = some 1 := by decide +kernel
abbrev vX6_topOfDumped : List Cond := Cond.code yX6_topOfDumped cX6_topOfDumped 2 (some .int) :: zTB
theorem hdnX6_topOfDumped : yX6_topOfDumped.cls = RX6 ∧ yX6_topOfDumped.cls ≠ "java/lang/invoke/MethodHandle" ∧ yX6_topOfDumped.cls ≠ "java/lang/invoke/VarHandle" ∧ (parseMethodDescriptor yX6_topOfDumped.desc).map (fun d => d.parameters.length) = some 1 := by decide +kernel
abbrev vX9_why : List Cond := Cond.code yX9_why cX9_why 3 (some .int) :: zTB
theorem hdnX9_why : yX9_why.cls = RX9 ∧ yX9_why.cls ≠ "java/lang/invoke/MethodHandle" ∧ yX9_why.cls ≠ "java/lang/invoke/VarHandle" ∧ (parseMethodDescriptor yX9_why.desc).map (fun d => d.parameters.length) = some 1 := by decide +kernel
abbrev vX1_onWay : List Cond := Cond.code yX1_onWay cX1_onWay 5 (some .int) :: zTB
theorem hdnX1_onWay : yX1_onWay.cls = RX1 ∧ yX1_onWay.cls ≠ "java/lang/invoke/MethodHandle" ∧ yX1_onWay.cls ≠ "java/lang/invoke/VarHandle" ∧ (parseMethodDescriptor yX1_onWay.desc).map (fun d => d.parameters.length) = some 2 := by decide +kernel
abbrev vX1_wayTo : List Cond := Cond.code yX1_wayTo cX1_wayTo 2 (some .int) :: zTB
theorem hdnX1_wayTo : yX1_wayTo.cls = RX1 ∧ yX1_wayTo.cls ≠ "java/lang/invoke/MethodHandle" ∧ yX1_wayTo.cls ≠ "java/lang/invoke/VarHandle" ∧ (parseMethodDescriptor yX1_wayTo.desc).map (fun d => d.parameters.length) = some 1 := by decide +kernel
abbrev vX9_way : List Cond := Cond.code yX9_way cX9_way 4 (some .int) :: zTB
theorem hdnX9_way : yX9_way.cls = RX9 ∧ yX9_way.cls ≠ "java/lang/invoke/MethodHandle" ∧ yX9_way.cls ≠ "java/lang/invoke/VarHandle" ∧ (parseMethodDescriptor yX9_way.desc).map (fun d => d.parameters.length) = some 2 := by decide +kernel
abbrev vX2_nodesMadeBy : List Cond := Cond.code yX2_nodesMadeBy cX2_nodesMadeBy 2 (some .int) :: zTB
theorem hdnX2_nodesMadeBy : yX2_nodesMadeBy.cls = RX2 ∧ yX2_nodesMadeBy.cls ≠ "java/lang/invoke/MethodHandle" ∧ yX2_nodesMadeBy.cls ≠ "java/lang/invoke/VarHandle" ∧ (parseMethodDescriptor yX2_nodesMadeBy.desc).map (fun d => d.parameters.length) = some 1 := by decide +kernel
abbrev vX2_timesMade : List Cond := Cond.code yX2_timesMade cX2_timesMade 2 (some .int) :: zTB
theorem hdnX2_timesMade : yX2_timesMade.cls = RX2 ∧ yX2_timesMade.cls ≠ "java/lang/invoke/MethodHandle" ∧ yX2_timesMade.cls ≠ "java/lang/invoke/VarHandle" ∧ (parseMethodDescriptor yX2_timesMade.desc).map (fun d => d.parameters.length) = some 1 := by decide +kernel
abbrev vX9_profile : List Cond := Cond.code yX9_profile cX9_profile 3 (some .int) :: zTB
theorem hdnX9_profile : yX9_profile.cls = RX9 ∧ yX9_profile.cls ≠ "java/lang/invoke/MethodHandle" ∧ yX9_profile.cls ≠ "java/lang/invoke/VarHandle" ∧ (parseMethodDescriptor yX9_profile.desc).map (fun d => d.parameters.length) = some 2 := by decide +kernel
abbrev vX9_rest : List Cond := Cond.code yX9_rest cX9_rest 1 (some .int) :: zTB
theorem hdnX9_rest : yX9_rest.cls = RX9 ∧ yX9_rest.cls ≠ "java/lang/invoke/MethodHandle" ∧ yX9_rest.cls ≠ "java/lang/invoke/VarHandle" ∧ (parseMethodDescriptor yX9_rest.desc).map (fun d => d.parameters.length) = some 0 := by decide +kernel
abbrev vX10_thrown : List Cond := Cond.code yX10_thrown cX10_thrown 1 (some .int) :: zTB
theorem hdnX10_thrown : yX10_thrown.cls = RX10 ∧ yX10_thrown.cls ≠ "java/lang/invoke/MethodHandle" ∧ yX10_thrown.cls ≠ "java/lang/invoke/VarHandle" ∧ (parseMethodDescriptor yX10_thrown.desc).map (fun d => d.parameters.length) = some 0 := by decide +kernel
abbrev vX10_in : List Cond := Cond.code yX10_in cX10_in 3 (some .boolean) :: zTB
theorem hdnX10_in : yX10_in.cls ≠ "java/lang/invoke/MethodHandle" ∧ yX10_in.cls ≠ "java/lang/invoke/VarHandle" ∧ (parseMethodDescriptor yX10_in.desc).map (fun d => d.parameters.length) = some 3 := by decide +kernel
abbrev vX10_feed : List Cond := Cond.code yX10_feed cX10_feed 8 (some .int) :: zTB
theorem hdnX10_feed : yX10_feed.cls = RX10 ∧ yX10_feed.cls ≠ "java/lang/invoke/MethodHandle" ∧ yX10_feed.cls ≠ "java/lang/invoke/VarHandle" ∧ (parseMethodDescriptor yX10_feed.desc).map (fun d => d.parameters.length) = some 5 := by decide +kernel
abbrev vX10_cut : List Cond := Cond.code yX10_cut cX10_cut 3 (some .int) :: zTB
theorem hdnX10_cut : yX10_cut.cls = RX10 ∧ yX10_cut.cls ≠ "java/lang/invoke/MethodHandle" ∧ yX10_cut.cls ≠ "java/lang/invoke/VarHandle" ∧ (parseMethodDescriptor yX10_cut.desc).map (fun d => d.parameters.length) = some 1 := by decide +kernel
abbrev vX10_at : List Cond := Cond.code yX10_at cX10_at 2 (some .int) :: zTB
theorem hdnX10_at : yX10_at.cls = RX10 ∧ yX10_at.cls ≠ "java/lang/invoke/MethodHandle" ∧ yX10_at.cls ≠ "java/lang/invoke/VarHandle" ∧ (parseMethodDescriptor yX10_at.desc).map (fun d => d.parameters.length) = some 1 := by decide +kernel
abbrev vX10_isLetter : List Cond := Cond.code yX10_isLetter cX10_isLetter 1 (some .boolean) :: zTB
theorem hdnX10_isLetter : yX10_isLetter.cls ≠ "java/lang/invoke/MethodHandle" ∧ yX10_isLetter.cls ≠ "java/lang/invoke/VarHandle" ∧ (parseMethodDescriptor yX10_isLetter.desc).map (fun d => d.parameters.length) = some 1 := by decide +kernel
abbrev vX10_isDigit : List Cond := Cond.code yX10_isDigit cX10_isDigit 1 (some .boolean) :: zTB
theorem hdnX10_isDigit : yX10_isDigit.cls ≠ "java/lang/invoke/MethodHandle" ∧ yX10_isDigit.cls ≠ "java/lang/invoke/VarHandle" ∧ (parseMethodDescriptor yX10_isDigit.desc).map (fun d => d.parameters.length) = some 1 := by decide +kernel
abbrev vX10_token : List Cond := Cond.code yX10_token cX10_token 3 none :: zTB
theorem hdnX10_token : yX10_token.cls = RX10 ∧ yX10_token.cls ≠ "java/lang/invoke/MethodHandle" ∧ yX10_token.cls ≠ "java/lang/invoke/VarHandle" ∧ (parseMethodDescriptor yX10_token.desc).map (fun d => d.parameters.length) = some 0 := by decide +kernel
abbrev vX10_fail : List Cond := Cond.code yX10_fail cX10_fail 3 none :: zTB
theorem hdnX10_fail : yX10_fail.cls = RX10 ∧ yX10_fail.cls ≠ "java/lang/invoke/MethodHandle" ∧ yX10_fail.cls ≠ "java/lang/invoke/VarHandle" ∧ (parseMethodDescriptor yX10_fail.desc).map (fun d => d.parameters.length) = some 2 := by decide +kernel
abbrev vX10_can : List Cond := Cond.code yX10_can cX10_can 2 (some .boolean) :: zTB
theorem hdnX10_can : yX10_can.cls = RX10 ∧ yX10_can.cls ≠ "java/lang/invoke/MethodHandle" ∧ yX10_can.cls ≠ "java/lang/invoke/VarHandle" ∧ (parseMethodDescriptor yX10_can.desc).map (fun d => d.parameters.length) = some 1 := by decide +kernel
abbrev vX10_need : List Cond := Cond.code yX10_need cX10_need 2 (some .boolean) :: zTB
theorem hdnX10_need : yX10_need.cls = RX10 ∧ yX10_need.cls ≠ "java/lang/invoke/MethodHandle" ∧ yX10_need.cls ≠ "java/lang/invoke/VarHandle" ∧ (parseMethodDescriptor yX10_need.desc).map (fun d => d.parameters.length) = some 1 := by decide +kernel
abbrev vX10_room : List Cond := Cond.code yX10_room cX10_room 2 (some .boolean) :: zTB
theorem hdnX10_room : yX10_room.cls = RX10 ∧ yX10_room.cls ≠ "java/lang/invoke/MethodHandle" ∧ yX10_room.cls ≠ "java/lang/invoke/VarHandle" ∧ (parseMethodDescriptor yX10_room.desc).map (fun d => d.parameters.length) = some 1 := by decide +kernel
abbrev vX10_emit : List Cond := Cond.code yX10_emit cX10_emit 3 (some .int) :: zTB
theorem hdnX10_emit : yX10_emit.cls = RX10 ∧ yX10_emit.cls ≠ "java/lang/invoke/MethodHandle" ∧ yX10_emit.cls ≠ "java/lang/invoke/VarHandle" ∧ (parseMethodDescriptor yX10_emit.desc).map (fun d => d.parameters.length) = some 2 := by decide +kernel
abbrev vX10_push : List Cond := Cond.code yX10_push cX10_push 2 none :: zTB
theorem hdnX10_push : yX10_push.cls = RX10 ∧ yX10_push.cls ≠ "java/lang/invoke/MethodHandle" ∧ yX10_push.cls ≠ "java/lang/invoke/VarHandle" ∧ (parseMethodDescriptor yX10_push.desc).map (fun d => d.parameters.length) = some 1 := by decide +kernel
abbrev vX10_atoms : List Cond := Cond.code yX10_atoms cX10_atoms 4 none :: zTB
theorem hdnX10_atoms : yX10_atoms.cls = RX10 ∧ yX10_atoms.cls ≠ "java/lang/invoke/MethodHandle" ∧ yX10_atoms.cls ≠ "java/lang/invoke/VarHandle" ∧ (parseMethodDescriptor yX10_atoms.desc).map (fun d => d.parameters.length) = some 1 := by decide +kernel
abbrev vX10_let : List Cond := Cond.code yX10_let cX10_let 4 none :: zTB
theorem hdnX10_let : yX10_let.cls = RX10 ∧ yX10_let.cls ≠ "java/lang/invoke/MethodHandle" ∧ yX10_let.cls ≠ "java/lang/invoke/VarHandle" ∧ (parseMethodDescriptor yX10_let.desc).map (fun d => d.parameters.length) = some 1 := by decide +kernel
abbrev vX10_expression : List Cond := Cond.code yX10_expression cX10_expression 1 none :: zTB
theorem hdnX10_expression : yX10_expression.cls = RX10 ∧ yX10_expression.cls ≠ "java/lang/invoke/MethodHandle" ∧ yX10_expression.cls ≠ "java/lang/invoke/VarHandle" ∧ (parseMethodDescriptor yX10_expression.desc).map (fun d => d.parameters.length) = some 0 := by decide +kernel
abbrev vX10_definition : List Cond := Cond.code yX10_definition cX10_definition 3 none :: zTB
theorem hdnX10_definition : yX10_definition.cls = RX10 ∧ yX10_definition.cls ≠ "java/lang/invoke/MethodHandle" ∧ yX10_definition.cls ≠ "java/lang/invoke/VarHandle" ∧ (parseMethodDescriptor yX10_definition.desc).map (fun d => d.parameters.length) = some 0 := by decide +kernel
abbrev vX10_find : List Cond := Cond.code yX10_find cX10_find 5 (some .boolean) :: zTB
theorem hdnX10_find : yX10_find.cls = RX10 ∧ yX10_find.cls ≠ "java/lang/invoke/MethodHandle" ∧ yX10_find.cls ≠ "java/lang/invoke/VarHandle" ∧ (parseMethodDescriptor yX10_find.desc).map (fun d => d.parameters.length) = some 2 := by decide +kernel
abbrev vX10_resolve : List Cond := Cond.code yX10_resolve cX10_resolve 3 none :: zTB
theorem hdnX10_resolve : yX10_resolve.cls = RX10 ∧ yX10_resolve.cls ≠ "java/lang/invoke/MethodHandle" ∧ yX10_resolve.cls ≠ "java/lang/invoke/VarHandle" ∧ (parseMethodDescriptor yX10_resolve.desc).map (fun d => d.parameters.length) = some 0 := by decide +kernel
abbrev vX10_node : List Cond := Cond.code yX10_node cX10_node 6 (some .int) :: zTB
theorem hdnX10_node : yX10_node.cls = RX10 ∧ yX10_node.cls ≠ "java/lang/invoke/MethodHandle" ∧ yX10_node.cls ≠ "java/lang/invoke/VarHandle" ∧ (parseMethodDescriptor yX10_node.desc).map (fun d => d.parameters.length) = some 4 := by decide +kernel
abbrev vX10_begin : List Cond := Cond.code yX10_begin cX10_begin 4 none :: zTB
theorem hdnX10_begin : yX10_begin.cls = RX10 ∧ yX10_begin.cls ≠ "java/lang/invoke/MethodHandle" ∧ yX10_begin.cls ≠ "java/lang/invoke/VarHandle" ∧ (parseMethodDescriptor yX10_begin.desc).map (fun d => d.parameters.length) = some 0 := by decide +kernel
abbrev vX10_read : List Cond := Cond.code yX10_read cX10_read 3 (some .int) :: zTB
theorem hdnX10_read : yX10_read.cls = RX10 ∧ yX10_read.cls ≠ "java/lang/invoke/MethodHandle" ∧ yX10_read.cls ≠ "java/lang/invoke/VarHandle" ∧ (parseMethodDescriptor yX10_read.desc).map (fun d => d.parameters.length) = some 0 := by decide +kernel
abbrev vX10_fault : List Cond := Cond.code yX10_fault cX10_fault 1 (some .int) :: zTB
theorem hdnX10_fault : yX10_fault.cls = RX10 ∧ yX10_fault.cls ≠ "java/lang/invoke/MethodHandle" ∧ yX10_fault.cls ≠ "java/lang/invoke/VarHandle" ∧ (parseMethodDescriptor yX10_fault.desc).map (fun d => d.parameters.length) = some 0 := by decide +kernel
abbrev vX10_followed : List Cond := Cond.code yX10_followed cX10_followed 4 (some .int) :: zTB
theorem hdnX10_followed : yX10_followed.cls = RX10 ∧ yX10_followed.cls ≠ "java/lang/invoke/MethodHandle" ∧ yX10_followed.cls ≠ "java/lang/invoke/VarHandle" ∧ (parseMethodDescriptor yX10_followed.desc).map (fun d => d.parameters.length) = some 1 := by decide +kernel
abbrev vX10_wants : List Cond := Cond.code yX10_wants cX10_wants 1 (some .int) :: zTB
theorem hdnX10_wants : yX10_wants.cls ≠ "java/lang/invoke/MethodHandle" ∧ yX10_wants.cls ≠ "java/lang/invoke/VarHandle" ∧ (parseMethodDescriptor yX10_wants.desc).map (fun d => d.parameters.length) = some 1 := by decide +kernel
abbrev vX10_isValue : List Cond := Cond.code yX10_isValue cX10_isValue 4 (some .boolean) :: zTB
theorem hdnX10_isValue : yX10_isValue.cls = RX10 ∧ yX10_isValue.cls ≠ "java/lang/invoke/MethodHandle" ∧ yX10_isValue.cls ≠ "java/lang/invoke/VarHandle" ∧ (parseMethodDescriptor yX10_isValue.desc).map (fun d => d.parameters.length) = some 1 := by decide +kernel
abbrev vX10_size : List Cond := Cond.code yX10_size cX10_size 1 (some .int) :: zTB
theorem hdnX10_size : yX10_size.cls = RX10 ∧ yX10_size.cls ≠ "java/lang/invoke/MethodHandle" ∧ yX10_size.cls ≠ "java/lang/invoke/VarHandle" ∧ (parseMethodDescriptor yX10_size.desc).map (fun d => d.parameters.length) = some 0 := by decide +kernel
abbrev vX10_topNode : List Cond := Cond.code yX10_topNode cX10_topNode 1 (some .int) :: zTB
theorem hdnX10_topNode : yX10_topNode.cls = RX10 ∧ yX10_topNode.cls ≠ "java/lang/invoke/MethodHandle" ∧ yX10_topNode.cls ≠ "java/lang/invoke/VarHandle" ∧ (parseMethodDescriptor yX10_topNode.desc).map (fun d => d.parameters.length) = some 0 := by decide +kernel
abbrev vX10_thing : List Cond := Cond.code yX10_thing cX10_thing 2 (some .int) :: zTB
theorem hdnX10_thing : yX10_thing.cls = RX10 ∧ yX10_thing.cls ≠ "java/lang/invoke/MethodHandle" ∧ yX10_thing.cls ≠ "java/lang/invoke/VarHandle" ∧ (parseMethodDescriptor yX10_thing.desc).map (fun d => d.parameters.length) = some 1 := by decide +kernel
abbrev vX10_lookPrimitive : List Cond := Cond.code yX10_lookPrimitive cX10_lookPrimitive 6 (some .int) :: zTB
theorem hdnX10_lookPrimitive : yX10_lookPrimitive.cls = RX10 ∧ yX10_lookPrimitive.cls ≠ "java/lang/invoke/MethodHandle" ∧ yX10_lookPrimitive.cls ≠ "java/lang/invoke/VarHandle" ∧ (parseMethodDescriptor yX10_lookPrimitive.desc).map (fun d => d.parameters.length) = some 1 := by decide +kernel
abbrev vX10_look : List Cond := Cond.code yX10_look cX10_look 3 (some .int) :: zTB
theorem hdnX10_look : yX10_look.cls = RX10 ∧ yX10_look.cls ≠ "java/lang/invoke/MethodHandle" ∧ yX10_look.cls ≠ "java/lang/invoke/VarHandle" ∧ (parseMethodDescriptor yX10_look.desc).map (fun d => d.parameters.length) = some 0 := by decide +kernel
abbrev vX10_isFull : List Cond := Cond.code yX10_isFull cX10_isFull 2 (some .boolean) :: zTB
theorem hdnX10_isFull : yX10_isFull.cls = RX10 ∧ yX10_isFull.cls ≠ "java/lang/invoke/MethodHandle" ∧ yX10_isFull.cls ≠ "java/lang/invoke/VarHandle" ∧ (parseMethodDescriptor yX10_isFull.desc).map (fun d => d.parameters.length) = some 1 := by decide +kernel
abbrev vX10_become : List Cond := Cond.code yX10_become cX10_become 5 none :: zTB
theorem hdnX10_become : yX10_become.cls = RX10 ∧ yX10_become.cls ≠ "java/lang/invoke/MethodHandle" ∧ yX10_become.cls ≠ "java/lang/invoke/VarHandle" ∧ (parseMethodDescriptor yX10_become.desc).map (fun d => d.parameters.length) = some 4 := by decide +kernel
abbrev vX10_build : List Cond := Cond.code yX10_build cX10_build 8 none :: zTB
theorem hdnX10_build : yX10_build.cls = RX10 ∧ yX10_build.cls ≠ "java/lang/invoke/MethodHandle" ∧ yX10_build.cls ≠ "java/lang/invoke/VarHandle" ∧ (parseMethodDescriptor yX10_build.desc).map (fun d => d.parameters.length) = some 1 := by decide +kernel
abbrev vX10_compute : List Cond := Cond.code yX10_compute cX10_compute 9 none :: zTB
theorem hdnX10_compute : yX10_compute.cls = RX10 ∧ yX10_compute.cls ≠ "java/lang/invoke/MethodHandle" ∧ yX10_compute.cls ≠ "java/lang/invoke/VarHandle" ∧ (parseMethodDescriptor yX10_compute.desc).map (fun d => d.parameters.length) = some 1 := by decide +kernel
abbrev vX10_stepOne : List Cond := Cond.code yX10_stepOne cX10_stepOne 3 (some .boolean) :: zTB
theorem hdnX10_stepOne : yX10_stepOne.cls = RX10 ∧ yX10_stepOne.cls ≠ "java/lang/invoke/MethodHandle" ∧ yX10_stepOne.cls ≠ "java/lang/invoke/VarHandle" ∧ (parseMethodDescriptor yX10_stepOne.desc).map (fun d => d.parameters.length) = some 0 := by decide +kernel
abbrev vX10_step : List Cond := Cond.code yX10_step cX10_step 5 (some .int) :: zTB
theorem hdnX10_step : yX10_step.cls = RX10 ∧ yX10_step.cls ≠ "java/lang/invoke/MethodHandle" ∧ yX10_step.cls ≠ "java/lang/invoke/VarHandle" ∧ (parseMethodDescriptor yX10_step.desc).map (fun d => d.parameters.length) = some 1 := by decide +kernel
abbrev vX10_state : List Cond := Cond.code yX10_state cX10_state 1 (some .int) :: zTB
theorem hdnX10_state : yX10_state.cls = RX10 ∧ yX10_state.cls ≠ "java/lang/invoke/MethodHandle" ∧ yX10_state.cls ≠ "java/lang/invoke/VarHandle" ∧ (parseMethodDescriptor yX10_state.desc).map (fun d => d.parameters.length) = some 0 := by decide +kernel
abbrev vX10_error : List Cond := Cond.code yX10_error cX10_error 1 (some .int) :: zTB
theorem hdnX10_error : yX10_error.cls = RX10 ∧ yX10_error.cls ≠ "java/lang/invoke/MethodHandle" ∧ yX10_error.cls ≠ "java/lang/invoke/VarHandle" ∧ (parseMethodDescriptor yX10_error.desc).map (fun d => d.parameters.length) = some 0 := by decide +kernel
abbrev vX10_next : List Cond := Cond.code yX10_next cX10_next 1 (some .int) :: zTB
theorem hdnX10_next : yX10_next.cls = RX10 ∧ yX10_next.cls ≠ "java/lang/invoke/MethodHandle" ∧ yX10_next.cls ≠ "java/lang/invoke/VarHandle" ∧ (parseMethodDescriptor yX10_next.desc).map (fun d => d.parameters.length) = some 0 := by decide +kernel
abbrev vX10_stopAt : List Cond := Cond.code yX10_stopAt cX10_stopAt 3 (some .int) :: zTB
theorem hdnX10_stopAt : yX10_stopAt.cls = RX10 ∧ yX10_stopAt.cls ≠ "java/lang/invoke/MethodHandle" ∧ yX10_stopAt.cls ≠ "java/lang/invoke/VarHandle" ∧ (parseMethodDescriptor yX10_stopAt.desc).map (fun d => d.parameters.length) = some 1 := by decide +kernel
abbrev vX10_fields : List Cond := Cond.code yX10_fields cX10_fields 1 (some .int) :: zTB
theorem hdnX10_fields : yX10_fields.cls ≠ "java/lang/invoke/MethodHandle" ∧ yX10_fields.cls ≠ "java/lang/invoke/VarHandle" ∧ (parseMethodDescriptor yX10_fields.desc).map (fun d => d.parameters.length) = some 1 := by decide +kernel
abbrev vX10_keep : List Cond := Cond.code yX10_keep cX10_keep 2 none :: zTB
theorem hdnX10_keep : yX10_keep.cls = RX10 ∧ yX10_keep.cls ≠ "java/lang/invoke/MethodHandle" ∧ yX10_keep.cls ≠ "java/lang/invoke/VarHandle" ∧ (parseMethodDescriptor yX10_keep.desc).map (fun d => d.parameters.length) = some 1 := by decide +kernel
abbrev vX10_findKept : List Cond := Cond.code yX10_findKept cX10_findKept 3 (some .int) :: zTB
theorem hdnX10_findKept : yX10_findKept.cls = RX10 ∧ yX10_findKept.cls ≠ "java/lang/invoke/MethodHandle" ∧ yX10_findKept.cls ≠ "java/lang/invoke/VarHandle" ∧ (parseMethodDescriptor yX10_findKept.desc).map (fun d => d.parameters.length) = some 0 := by decide +kernel
abbrev vX10_sweepAll : List Cond := Cond.code yX10_sweepAll cX10_sweepAll 4 (some .int) :: zTB
theorem hdnX10_sweepAll : yX10_sweepAll.cls = RX10 ∧ yX10_sweepAll.cls ≠ "java/lang/invoke/MethodHandle" ∧ yX10_sweepAll.cls ≠ "java/lang/invoke/VarHandle" ∧ (parseMethodDescriptor yX10_sweepAll.desc).map (fun d => d.parameters.length) = some 0 := by decide +kernel
abbrev vX10_back : List Cond := Cond.code yX10_back cX10_back 7 (some .int) :: zTB
theorem hdnX10_back : yX10_back.cls = RX10 ∧ yX10_back.cls ≠ "java/lang/invoke/MethodHandle" ∧ yX10_back.cls ≠ "java/lang/invoke/VarHandle" ∧ (parseMethodDescriptor yX10_back.desc).map (fun d => d.parameters.length) = some 1 := by decide +kernel
abbrev vX10_sweep : List Cond := Cond.code yX10_sweep cX10_sweep 2 (some .int) :: zTB
theorem hdnX10_sweep : yX10_sweep.cls = RX10 ∧ yX10_sweep.cls ≠ "java/lang/invoke/MethodHandle" ∧ yX10_sweep.cls ≠ "java/lang/invoke/VarHandle" ∧ (parseMethodDescriptor yX10_sweep.desc).map (fun d => d.parameters.length) = some 0 := by decide +kernel
abbrev vX10_count : List Cond := Cond.code yX10_count cX10_count 2 (some .int) :: zTB
theorem hdnX10_count : yX10_count.cls = RX10 ∧ yX10_count.cls ≠ "java/lang/invoke/MethodHandle" ∧ yX10_count.cls ≠ "java/lang/invoke/VarHandle" ∧ (parseMethodDescriptor yX10_count.desc).map (fun d => d.parameters.length) = some 1 := by decide +kernel
abbrev vX10_isNode : List Cond := Cond.code yX10_isNode cX10_isNode 2 (some .boolean) :: zTB
theorem hdnX10_isNode : yX10_isNode.cls = RX10 ∧ yX10_isNode.cls ≠ "java/lang/invoke/MethodHandle" ∧ yX10_isNode.cls ≠ "java/lang/invoke/VarHandle" ∧ (parseMethodDescriptor yX10_isNode.desc).map (fun d => d.parameters.length) = some 1 := by decide +kernel
abbrev vX10_holders : List Cond := Cond.code yX10_holders cX10_holders 6 (some .int) :: zTB
theorem hdnX10_holders : yX10_holders.cls = RX10 ∧ yX10_holders.cls ≠ "java/lang/invoke/MethodHandle" ∧ yX10_holders.cls ≠ "java/lang/invoke/VarHandle" ∧ (parseMethodDescriptor yX10_holders.desc).map (fun d => d.parameters.length) = some 1 := by decide +kernel
abbrev vX10_node_ : List Cond := Cond.code yX10_node_ cX10_node_ 4 (some .int) :: zTB
theorem hdnX10_node_ : yX10_node_.cls = RX10 ∧ yX10_node_.cls ≠ "java/lang/invoke/MethodHandle" ∧ yX10_node_.cls ≠ "java/lang/invoke/VarHandle" ∧ (parseMethodDescriptor yX10_node_.desc).map (fun d => d.parameters.length) = some 2 := by decide +kernel
abbrev vX10_top : List Cond := Cond.code yX10_top cX10_top 2 (some .int) :: zTB
theorem hdnX10_top : yX10_top.cls = RX10 ∧ yX10_top.cls ≠ "java/lang/invoke/MethodHandle" ∧ yX10_top.cls ≠ "java/lang/invoke/VarHandle" ∧ (parseMethodDescriptor yX10_top.desc).map (fun d => d.parameters.length) = some 1 := by decide +kernel
abbrev vX10_why : List Cond := Cond.code yX10_why cX10_why 2 (some .int) :: zTB
theorem hdnX10_why : yX10_why.cls = RX10 ∧ yX10_why.cls ≠ "java/lang/invoke/MethodHandle" ∧ yX10_why.cls ≠ "java/lang/invoke/VarHandle" ∧ (parseMethodDescriptor yX10_why.desc).map (fun d => d.parameters.length) = some 1 := by decide +kernel
abbrev vX10_isRoot : List Cond := Cond.code yX10_isRoot cX10_isRoot 3 (some .boolean) :: zTB
theorem hdnX10_isRoot : yX10_isRoot.cls = RX10 ∧ yX10_isRoot.cls ≠ "java/lang/invoke/MethodHandle" ∧ yX10_isRoot.cls ≠ "java/lang/invoke/VarHandle" ∧ (parseMethodDescriptor yX10_isRoot.desc).map (fun d => d.parameters.length) = some 1 := by decide +kernel
abbrev vX10_way : List Cond := Cond.code yX10_way cX10_way 11 (some .int) :: zTB
theorem hdnX10_way : yX10_way.cls = RX10 ∧ yX10_way.cls ≠ "java/lang/invoke/MethodHandle" ∧ yX10_way.cls ≠ "java/lang/invoke/VarHandle" ∧ (parseMethodDescriptor yX10_way.desc).map (fun d => d.parameters.length) = some 2 := by decide +kernel
abbrev vX10_profile : List Cond := Cond.code yX10_profile cX10_profile 3 (some .int) :: zTB
theorem hdnX10_profile : yX10_profile.cls = RX10 ∧ yX10_profile.cls ≠ "java/lang/invoke/MethodHandle" ∧ yX10_profile.cls ≠ "java/lang/invoke/VarHandle" ∧ (parseMethodDescriptor yX10_profile.desc).map (fun d => d.parameters.length) = some 2 := by decide +kernel
abbrev vX10_rest : List Cond := Cond.code yX10_rest cX10_rest 2 (some .int) :: zTB
theorem hdnX10_rest : yX10_rest.cls = RX10 ∧ yX10_rest.cls ≠ "java/lang/invoke/MethodHandle" ∧ yX10_rest.cls ≠ "java/lang/invoke/VarHandle" ∧ (parseMethodDescriptor yX10_rest.desc).map (fun d => d.parameters.length) = some 0 := by decide +kernel
abbrev vX10_share : List Cond := Cond.code yX10_share cX10_share 1 (some .int) :: zTB
theorem hdnX10_share : yX10_share.cls = RX10 ∧ yX10_share.cls ≠ "java/lang/invoke/MethodHandle" ∧ yX10_share.cls ≠ "java/lang/invoke/VarHandle" ∧ (parseMethodDescriptor yX10_share.desc).map (fun d => d.parameters.length) = some 0 := by decide +kernel
