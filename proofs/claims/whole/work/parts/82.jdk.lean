/-! text constants: length() and charAt(k) -/
def yS_len : MethodName := ⟨"java/lang/String", "length", "()I"⟩
def yS_cod : MethodName := ⟨"java/lang/String", "coder", "()B"⟩
def yS_chr : MethodName := ⟨"java/lang/String", "charAt", "(I)C"⟩
def yS_lat : MethodName := ⟨"java/lang/String", "isLatin1", "()Z"⟩
def yS_chk : MethodName := ⟨"java/lang/String", "checkIndex", "(II)V"⟩
def yT_chr : MethodName := ⟨"java/lang/StringLatin1", "charAt", "([BI)C"⟩
def yP_chk : MethodName := ⟨"jdk/internal/util/Preconditions", "checkIndex", "(IILjava/util/function/BiFunction;)I"⟩
abbrev vS_len : List Cond := Cond.code yS_len prog_16_method_54_code 1 (some .int) :: zTB
abbrev vS_cod : List Cond := Cond.code yS_cod prog_16_method_152_code 1 (some .byte) :: zTB
abbrev vS_chr : List Cond := Cond.code yS_chr prog_16_method_56_code 2 (some .char) :: zTB
abbrev vS_lat : List Cond := Cond.code yS_lat prog_16_method_154_code 1 (some .boolean) :: zTB
abbrev vS_chk : List Cond := Cond.code yS_chk prog_16_method_155_code 2 none :: zTB
abbrev vT_chr : List Cond := Cond.code yT_chr prog_17_method_2_code 2 (some .char) :: zTB
abbrev vP_chk : List Cond := Cond.code yP_chk prog_20_method_11_code 3 (some .int) :: zTB
theorem mN_S : Cond.initialized "java/lang/String" ∈ zTB := zmem1 (List.mem_of_getElem? (i := 6) rfl) rfl
theorem mN_T : Cond.initialized "java/lang/StringLatin1" ∈ zTB := zmem1 (List.mem_of_getElem? (i := 7) rfl) rfl
theorem mN_P : Cond.initialized "jdk/internal/util/Preconditions" ∈ zTB := zmem1 (List.mem_of_getElem? (i := 8) rfl) rfl
theorem mI_S_len : Cond.instanceMethod yS_len ∈ zTB := zmem1 (List.mem_of_getElem? (i := 97) rfl) rfl
theorem mS_S_len : Cond.selects "java/lang/String" yS_len yS_len ∈ zTB := zmem1 (List.mem_of_getElem? (i := 98) rfl) rfl
theorem mC_S_len : Cond.code yS_len prog_16_method_54_code 1 (some .int) ∈ zTB := zmem1 (List.mem_of_getElem? (i := 99) rfl) rfl
theorem mL_S_335 : Cond.methodLink "java/lang/String" 335 yS_cod ∈ zTB := zmem1 (List.mem_of_getElem? (i := 100) rfl) rfl
theorem mI_S_cod : Cond.instanceMethod yS_cod ∈ zTB := zmem1 (List.mem_of_getElem? (i := 101) rfl) rfl
theorem mS_S_cod : Cond.selects "java/lang/String" yS_cod yS_cod ∈ zTB := zmem1 (List.mem_of_getElem? (i := 102) rfl) rfl
theorem mC_S_cod : Cond.code yS_cod prog_16_method_152_code 1 (some .byte) ∈ zTB := zmem1 (List.mem_of_getElem? (i := 103) rfl) rfl
theorem mF_S_38 : Cond.fieldLink "java/lang/String" 38 "java/lang/String" "COMPACT_STRINGS" "Z" ∈ zTB := zmem1 (List.mem_of_getElem? (i := 104) rfl) rfl
theorem mI_S_chr : Cond.instanceMethod yS_chr ∈ zTB := zmem1 (List.mem_of_getElem? (i := 107) rfl) rfl
theorem mS_S_chr : Cond.selects "java/lang/String" yS_chr yS_chr ∈ zTB := zmem1 (List.mem_of_getElem? (i := 108) rfl) rfl
theorem mC_S_chr : Cond.code yS_chr prog_16_method_56_code 2 (some .char) ∈ zTB := zmem1 (List.mem_of_getElem? (i := 109) rfl) rfl
theorem mL_S_492 : Cond.methodLink "java/lang/String" 492 yS_lat ∈ zTB := zmem1 (List.mem_of_getElem? (i := 110) rfl) rfl
theorem mI_S_lat : Cond.instanceMethod yS_lat ∈ zTB := zmem1 (List.mem_of_getElem? (i := 111) rfl) rfl
theorem mS_S_lat : Cond.selects "java/lang/String" yS_lat yS_lat ∈ zTB := zmem1 (List.mem_of_getElem? (i := 112) rfl) rfl
theorem mC_S_lat : Cond.code yS_lat prog_16_method_154_code 1 (some .boolean) ∈ zTB := zmem1 (List.mem_of_getElem? (i := 113) rfl) rfl
theorem mL_S_495 : Cond.methodLink "java/lang/String" 495 yT_chr ∈ zTB := zmem1 (List.mem_of_getElem? (i := 114) rfl) rfl
theorem mT_T_chr : Cond.static yT_chr ∈ zTB := zmem1 (List.mem_of_getElem? (i := 115) rfl) rfl
theorem mC_T_chr : Cond.code yT_chr prog_17_method_2_code 2 (some .char) ∈ zTB := zmem1 (List.mem_of_getElem? (i := 116) rfl) rfl
theorem mL_T_9 : Cond.methodLink "java/lang/StringLatin1" 9 yS_chk ∈ zTB := zmem1 (List.mem_of_getElem? (i := 117) rfl) rfl
theorem mT_S_chk : Cond.static yS_chk ∈ zTB := zmem1 (List.mem_of_getElem? (i := 118) rfl) rfl
theorem mC_S_chk : Cond.code yS_chk prog_16_method_155_code 2 none ∈ zTB := zmem1 (List.mem_of_getElem? (i := 119) rfl) rfl
theorem mF_S_1053 : Cond.fieldLink "java/lang/String" 1053 "jdk/internal/util/Preconditions" "SIOOBE_FORMATTER" "Ljava/util/function/BiFunction;" ∈ zTB := zmem1 (List.mem_of_getElem? (i := 120) rfl) rfl
theorem mL_S_1059 : Cond.methodLink "java/lang/String" 1059 yP_chk ∈ zTB := zmem1 (List.mem_of_getElem? (i := 122) rfl) rfl
theorem mT_P_chk : Cond.static yP_chk ∈ zTB := zmem1 (List.mem_of_getElem? (i := 123) rfl) rfl
theorem mC_P_chk : Cond.code yP_chk prog_20_method_11_code 3 (some .int) ∈ zTB := zmem1 (List.mem_of_getElem? (i := 124) rfl) rfl
theorem mF_S_9 : Cond.fieldLink "java/lang/String" 9 "java/lang/String" "value" "[B" ∈ zTB := zmem7 (List.mem_of_getElem? (i := 94) rfl) rfl
theorem mF_S_15 : Cond.fieldLink "java/lang/String" 15 "java/lang/String" "coder" "B" ∈ zTB := zmem7 (List.mem_of_getElem? (i := 95) rfl) rfl
theorem hdS_len : yS_len.cls = "java/lang/String" ∧ yS_len.cls ≠ "java/lang/invoke/MethodHandle" ∧ yS_len.cls ≠ "java/lang/invoke/VarHandle" ∧ (parseMethodDescriptor yS_len.desc).map (fun d => d.parameters.length) = some 0 := by decide +kernel
theorem hdS_cod : yS_cod.cls = "java/lang/String" ∧ yS_cod.cls ≠ "java/lang/invoke/MethodHandle" ∧ yS_cod.cls ≠ "java/lang/invoke/VarHandle" ∧ (parseMethodDescriptor yS_cod.desc).map (fun d => d.parameters.length) = some 0 := by decide +kernel
theorem hdS_chr : yS_chr.cls = "java/lang/String" ∧ yS_chr.cls ≠ "java/lang/invoke/MethodHandle" ∧ yS_chr.cls ≠ "java/lang/invoke/VarHandle" ∧ (parseMethodDescriptor yS_chr.desc).map (fun d => d.parameters.length) = some 1 := by decide +kernel
theorem hdS_lat : yS_lat.cls = "java/lang/String" ∧ yS_lat.cls ≠ "java/lang/invoke/MethodHandle" ∧ yS_lat.cls ≠ "java/lang/invoke/VarHandle" ∧ (parseMethodDescriptor yS_lat.desc).map (fun d => d.parameters.length) = some 0 := by decide +kernel
theorem hdS_chk : yS_chk.cls ≠ "java/lang/invoke/MethodHandle" ∧ yS_chk.cls ≠ "java/lang/invoke/VarHandle" ∧ (parseMethodDescriptor yS_chk.desc).map (fun d => d.parameters.length) = some 2 := by decide +kernel
theorem hdT_chr : yT_chr.cls ≠ "java/lang/invoke/MethodHandle" ∧ yT_chr.cls ≠ "java/lang/invoke/VarHandle" ∧ (parseMethodDescriptor yT_chr.desc).map (fun d => d.parameters.length) = some 2 := by decide +kernel
theorem hdP_chk : yP_chk.cls ≠ "java/lang/invoke/MethodHandle" ∧ yP_chk.cls ≠ "java/lang/invoke/VarHandle" ∧ (parseMethodDescriptor yP_chk.desc).map (fun d => d.parameters.length) = some 3 := by decide +kernel
/-- a text constant of n bytes, and the two statics that its methods read -/
def zSP (ad av n : Nat) (f : Nat → Int32) (A : Nat → Prop) (U : State) (H : Heap) : Prop := va_O "java/lang/String" ad A U H ∧ va_OF "java/lang/String" "coder" "B" (.int 0) ad A U H ∧ va_OF "java/lang/String" "value" "[B" (.ref av) ad A U H ∧ va_T .byte av n (fun j => .int (f j)) A U H ∧ va_Z "java/lang/String" "COMPACT_STRINGS" "Z" (.int 1) A U H ∧ va_Zq "jdk/internal/util/Preconditions" "SIOOBE_FORMATTER" "Ljava/util/function/BiFunction;" A U H
theorem zSP.moved {ad av n : Nat} {f : Nat → Int32} {A : Nat → Prop} {u U : State} {H : Heap} (hvm : u.vm.Alike U.vm) (h : zSP ad av n f A u H) : zSP ad av n f A U H := ⟨va_O.moved hvm h.1, va_OF.moved hvm h.2.1, va_OF.moved hvm h.2.2.1, va_T.moved hvm h.2.2.2.1, va_Z.moved hvm h.2.2.2.2.1, va_Zq.moved hvm h.2.2.2.2.2⟩
theorem zSP.kept {ad av n : Nat} {f : Nat → Int32} {A : Nat → Prop} {U : State} {H H1 : Heap} (h : zSP ad av n f A U H) (hq : ∀ a : Nat, a < H.size → ¬ A a → H1[a]? = H[a]?) : zSP ad av n f A U H1 := ⟨h.1.kept hq, h.2.1.kept hq, h.2.2.1.kept hq, h.2.2.2.1.kept hq, h.2.2.2.2.1.kept hq, h.2.2.2.2.2.kept hq⟩
theorem zSP.narrow {ad av n : Nat} {f : Nat → Int32} {A B : Nat → Prop} {U : State} {H : Heap} (h : zSP ad av n f A U H) (hAB : ∀ q, B q → A q) : zSP ad av n f B U H := ⟨h.1.narrow hAB, h.2.1.narrow hAB, h.2.2.1.narrow hAB, h.2.2.2.1.narrow hAB, h.2.2.2.2.1.narrow hAB, h.2.2.2.2.2.narrow hAB⟩
theorem zSP.put {ad av n : Nat} {f : Nat → Int32} {A : Nat → Prop} {u U : State} {H : Heap} (hU : U.heap = H) (hvm : u.vm.Alike U.vm) (h : zSP ad av n f A u H) : zSP ad av n f A U U.heap := by
  rw [hU]; exact zSP.moved hvm h
def zNo : Nat → Prop := fun _ => False
theorem zblS {ad av n : Nat} {f : Nat → Int32} {as : List Value} : FrameBlind (va_Pc as (fun U => zSP ad av n f zNo U U.heap)) := fun a U g mk q => ⟨q.1, zSP.moved (u := U) (U := U.calling g mk a) (Vm.Alike.refl U.vm) q.2⟩
set_option maxHeartbeats 4000000 in
theorem jPre (l : Launch) {i n : Nat} (hi : i < n) (hn : n ≤ 2000) (v : Value) (hv : v = .null ∨ ∃ t, v = .ref t) : Met l yP_chk vP_chk { frames := 0, cells := 0, slots := 0, locals := 0 } (va_Pc [.int (nI i), .int (nI n), v] (fun _ => True)) (va_Qi (fun (r : Int32) (_ : Unit) => r = nI i) (fun _ _ => True) zNo) 0 0 zNo := by
  refine Met.ofW (cc := prog_20_method_11_code) (maxL := 3) (ret := some .int) (by decide) rfl ?_
  intro p e s m args below meth c s₁ B hml hv2
  obtain ⟨rfl, -⟩ := hv2
  have hx := B.exec
  have hb := B.bytes
  have hr := B.returns
  have hlocks := B.notSynchronized
  have hS : va_S zNo s.heap s.heap [] := va_S.rf
  rw [lg_entry_eq]
  have hl : ∃ ls : Array Slot, (lg_sl ([.int (nI i), .int (nI n), v] : List Value) ++ List.replicate (3 - (lg_sl ([.int (nI i), .int (nI n), v] : List Value)).length) Slot.unset).toArray = ls ∧ lv_has ls 3 [(0, .int (nI i)), (1, .int (nI n))] := by
    rcases hv with rfl | ⟨t, rfl⟩
    · exact ⟨_, rfl, lv_sub (lv_entry ([.int (nI i), .int (nI n), .null] : List Value) (n := 3) (Nat.le_of_ble_eq_true rfl)) [0, 1] rfl⟩
    · exact ⟨_, rfl, lv_sub (lv_entry ([.int (nI i), .int (nI n), .ref t] : List Value) (n := 3) (Nat.le_of_ble_eq_true rfl)) [0, 1] rfl⟩
  obtain ⟨ls, els, hl⟩ := hl
  rw [els]
  refine lv_iload_n hx hb (show decode prog_20_method_11_code 0 = .ok (.iload_n 0, 1) by decide +kernel) rfl (lv_at hl 0 rfl) ?_
  refine lv_if_lt (tgt := 9) hx hb (show decode prog_20_method_11_code 1 = .ok (.ifCond .lt 8, 3) by decide +kernel) (by decide) (fun q => absurd q (nneg (by omega))) (fun _ => ?_)
  refine lv_iload_n hx hb (show decode prog_20_method_11_code 4 = .ok (.iload_n 0, 1) by decide +kernel) rfl (lv_at hl 0 rfl) ?_
  refine lv_iload_n hx hb (show decode prog_20_method_11_code 5 = .ok (.iload_n 1, 1) by decide +kernel) rfl (lv_at hl 1 rfl) ?_
  refine lv_icmp_lt (tgt := 16) hx hb (show decode prog_20_method_11_code 6 = .ok (.if_icmp .lt 10, 3) by decide +kernel) (by decide) (fun _ => ?_) (fun q => absurd (pt hi) q)
  refine lv_iload_n hx hb (show decode prog_20_method_11_code 16 = .ok (.iload_n 0, 1) by decide +kernel) rfl (lv_at hl 0 rfl) ?_
  exact W.iret hx hb hr (fun t ht hW => ⟨⟨nI i, (), rfl, rfl, trivial⟩, hS.F ht⟩) hS.2.2 (show decode prog_20_method_11_code 17 = .ok (.ireturn, 1) by decide +kernel) hlocks
set_option maxHeartbeats 4000000 in
theorem jChk (l : Launch) {ad av n : Nat} {f : Nat → Int32} {i : Nat} (hi : i < n) (hn : n ≤ 2000) : Met l yS_chk vS_chk { frames := 1, cells := 0, slots := 0, locals := 22 } (va_Pc [.int (nI i), .int (nI n)] (fun U => zSP ad av n f zNo U U.heap)) (va_Qv (fun _ : Unit => True) (fun _ _ => True) zNo) 0 0 zNo := by
  refine Met.ofW (cc := prog_16_method_155_code) (maxL := 2) (ret := none) (by decide) rfl ?_
  intro p e s m args below meth c s₁ B hml hv2
  obtain ⟨rfl, hZ⟩ := hv2
  have hx := B.exec
  have hb := B.bytes
  have hr := B.returns
  have hlocks := B.notSynchronized
  have hts := atoms_spec (ws := vS_chk) B.pre
  have hT : ∀ w ∈ zTB, w.before ([.int (nI i), .int (nI n)] : List Value).toArray s = true := fun w h => hts w (List.mem_cons_of_mem _ h)
  have hown : s.vm.findClass "java/lang/String" = some m.cls := findClass_of_methodNamed B.named
  have hS : va_S zNo s.heap s.heap [] := va_S.rf
  have hl := lv_entry ([.int (nI i), .int (nI n)] : List Value) (n := 2) (Nat.le_of_ble_eq_true rfl)
  rw [lg_entry_eq]
  generalize (lg_sl ([.int (nI i), .int (nI n)] : List Value) ++ List.replicate (2 - (lg_sl ([.int (nI i), .int (nI n)] : List Value)).length) Slot.unset).toArray = ls at hl ⊢
  have hl : lv_has ls 2 [(0, .int (nI i)), (1, .int (nI n))] := hl
  refine lv_iload_n hx hb (show decode prog_16_method_155_code 0 = .ok (.iload_n 0, 1) by decide +kernel) rfl (lv_at hl 0 rfl) ?_
  refine lv_iload_n hx hb (show decode prog_16_method_155_code 1 = .ok (.iload_n 1, 1) by decide +kernel) rfl (lv_at hl 1 rfl) ?_
  have go : ∀ v : Value, (v = .null ∨ ∃ t, v = .ref t) → va_Z "jdk/internal/util/Preconditions" "SIOOBE_FORMATTER" "Ljava/util/function/BiFunction;" v zNo s s.heap → W p l e { frames := 1, cells := 0, slots := 0, locals := 22 } s m ([.int (nI i), .int (nI n)] : List Value).toArray below meth c s.heap [] 0 0 (MQ below (va_Qv (fun _ : Unit => True) (fun _ _ => True) zNo) ([.int (nI i), .int (nI n)] : List Value).toArray s 0 0 zNo) (F0 m 2 ls [.int (nI n), .int (nI i)]) := fun v hv hz => by
    refine va_gets hx hb hz hS hown (hT _ mF_S_1053) (fun _ h9 => h9) (show decode prog_16_method_155_code 2 = .ok (.getstatic 1053, 3) by decide +kernel) ?_
    refine va_calli (va_runS (As := [.int (nI i), .int (nI n), v]) (rest := []) ⟨hx, hb, hml, hown, hT⟩ (jPre l hi hn v hv) (va_cwS 3 hT (zgS mL_S_1059 mT_P_chk mN_P mC_P_chk) rfl rfl rfl hdP_chk ⟨Nat.le_of_ble_eq_true rfl, Nat.le_of_ble_eq_true rfl⟩) ⟨fun a U g mk q => q, fun U hU hW => ⟨rfl, trivial⟩⟩ rfl rfl hl.1 rfl (lv_room (Nat.le_of_ble_eq_true rfl)) (show decode prog_16_method_155_code 5 = .ok (.invokestatic 1059, 3) by decide +kernel) ⟨Nat.zero_le _, Nat.zero_le _⟩) hS (fun q _ h => h) (fun q h => h) (fun r u t H1 locs ht hvm h5 hB hz1 hk1 hS => ?_)
    refine lv_pop hx hb (show decode prog_16_method_155_code 8 = .ok (.pop, 1) by decide +kernel) rfl ?_
    exact W.vret hx hb hr (fun t ht hW => ⟨⟨(), rfl, trivial, trivial⟩, hS.F ht⟩) hS.2.2 (show decode prog_16_method_155_code 9 = .ok (.return_, 1) by decide +kernel) hlocks
  rcases hZ.2.2.2.2.2 with hz | ⟨t, hz⟩
  · exact go _ (Or.inl rfl) hz
  · exact go _ (Or.inr ⟨t, rfl⟩) hz
set_option maxHeartbeats 4000000 in
theorem jLat (l : Launch) {ad av n : Nat} {f : Nat → Int32} {i : Nat} (hi : i < n) (hn : n ≤ 2000) : Met l yT_chr vT_chr { frames := 2, cells := 0, slots := 0, locals := 43 } (va_Pc [.ref av, .int (nI i)] (fun U => zSP ad av n f zNo U U.heap)) (va_Qi (fun (r : Int32) (_ : Unit) => r = f i &&& 255) (fun _ _ => True) zNo) 0 0 zNo := by
  refine Met.ofW (cc := prog_17_method_2_code) (maxL := 2) (ret := some .char) (by decide) rfl ?_
  intro p e s m args below meth c s₁ B hml hv2
  obtain ⟨rfl, hZ⟩ := hv2
  have hx := B.exec
  have hb := B.bytes
  have hr := B.returns
  have hlocks := B.notSynchronized
  have hts := atoms_spec (ws := vT_chr) B.pre
  have hT : ∀ w ∈ zTB, w.before ([.ref av, .int (nI i)] : List Value).toArray s = true := fun w h => hts w (List.mem_cons_of_mem _ h)
  have hown : s.vm.findClass "java/lang/StringLatin1" = some m.cls := findClass_of_methodNamed B.named
  have hS : va_S zNo s.heap s.heap [] := va_S.rf
  have hl := lv_entry ([.ref av, .int (nI i)] : List Value) (n := 2) (Nat.le_of_ble_eq_true rfl)
  rw [lg_entry_eq]
  generalize (lg_sl ([.ref av, .int (nI i)] : List Value) ++ List.replicate (2 - (lg_sl ([.ref av, .int (nI i)] : List Value)).length) Slot.unset).toArray = ls at hl ⊢
  have hl : lv_has ls 2 [(0, .ref av), (1, .int (nI i))] := hl
  refine lv_iload_n hx hb (show decode prog_17_method_2_code 0 = .ok (.iload_n 1, 1) by decide +kernel) rfl (lv_at hl 1 rfl) ?_
  refine lv_aload_n hx hb (show decode prog_17_method_2_code 1 = .ok (.aload_n 0, 1) by decide +kernel) rfl (lv_at hl 0 rfl) ?_
  refine va_tlen hx hb hZ.2.2.2.1 hS (v := nI n) rfl (show decode prog_17_method_2_code 2 = .ok (.arraylength, 1) by decide +kernel) ?_
  refine va_callv (va_runS (As := [.int (nI i), .int (nI n)]) (rest := []) ⟨hx, hb, hml, hown, hT⟩ (jChk l (ad := ad) (av := av) (f := f) hi hn) (va_cwS 2 hT (zgS mL_T_9 mT_S_chk mN_S mC_S_chk) rfl rfl rfl hdS_chk ⟨Nat.le_of_ble_eq_true rfl, Nat.le_of_ble_eq_true rfl⟩) ⟨zblS, fun U hU hW => ⟨rfl, zSP.put hU hW.alike hZ⟩⟩ rfl rfl hl.1 rfl (lv_room (Nat.le_of_ble_eq_true rfl)) (show decode prog_17_method_2_code 3 = .ok (.invokestatic 9, 3) by decide +kernel) ⟨Nat.zero_le _, Nat.zero_le _⟩) hS (fun q _ h => h) (fun q h => h) (fun u t H1 locs ht hvm h5 hB hz1 hk1 hS => ?_)
  refine lv_aload_n hx hb (show decode prog_17_method_2_code 6 = .ok (.aload_n 0, 1) by decide +kernel) rfl (lv_at hl 0 rfl) ?_
  refine lv_iload_n hx hb (show decode prog_17_method_2_code 7 = .ok (.iload_n 1, 1) by decide +kernel) rfl (lv_at hl 1 rfl) ?_
  refine va_tb (v := .int (f i)) hx hb hZ.2.2.2.1 hS (vp_in_nI hi (by omega)) (by rw [nI_clamp (by omega)]) (show decode prog_17_method_2_code 8 = .ok (.baload, 1) by decide +kernel) ?_
  refine lv_sipush (v := (255 : Int32)) hx hb (show decode prog_17_method_2_code 9 = .ok (.sipush 255, 3) by decide +kernel) (by decide) ?_
  refine lv_iand hx hb (show decode prog_17_method_2_code 12 = .ok (.iand, 1) by decide +kernel) ?_
  refine lv_i2c (v := f i &&& 255) hx hb (show decode prog_17_method_2_code 13 = .ok (.i2c, 1) by decide +kernel) (sc_c2 _) ?_
  exact W.zret hx hb hr (sc_nar _) (fun t ht hW => ⟨⟨f i &&& 255, (), rfl, rfl, trivial⟩, hS.F ht⟩) hS.2.2 (show decode prog_17_method_2_code 14 = .ok (.ireturn, 1) by decide +kernel) hlocks
set_option maxHeartbeats 4000000 in
theorem jIsL (l : Launch) {ad av n : Nat} {f : Nat → Int32} : Met l yS_lat vS_lat { frames := 0, cells := 0, slots := 0, locals := 0 } (va_Pc [.ref ad] (fun U => zSP ad av n f zNo U U.heap)) (va_Qi (fun (r : Int32) (_ : Unit) => r = 1) (fun _ _ => True) zNo) 0 0 zNo := by
  refine Met.ofW (cc := prog_16_method_154_code) (maxL := 1) (ret := some .boolean) (by decide) rfl ?_
  intro p e s m args below meth c s₁ B hml hv2
  obtain ⟨rfl, hZ⟩ := hv2
  have hx := B.exec
  have hb := B.bytes
  have hr := B.returns
  have hlocks := B.notSynchronized
  have hts := atoms_spec (ws := vS_lat) B.pre
  have hT : ∀ w ∈ zTB, w.before ([.ref ad] : List Value).toArray s = true := fun w h => hts w (List.mem_cons_of_mem _ h)
  have hown : s.vm.findClass "java/lang/String" = some m.cls := findClass_of_methodNamed B.named
  have hS : va_S zNo s.heap s.heap [] := va_S.rf
  have hl := lv_entry ([.ref ad] : List Value) (n := 1) (Nat.le_of_ble_eq_true rfl)
  rw [lg_entry_eq]
  generalize (lg_sl ([.ref ad] : List Value) ++ List.replicate (1 - (lg_sl ([.ref ad] : List Value)).length) Slot.unset).toArray = ls at hl ⊢
  have hl : lv_has ls 1 [(0, .ref ad)] := hl
  refine va_gets hx hb hZ.2.2.2.2.1 hS hown (hT _ mF_S_38) (fun _ h9 => h9) (show decode prog_16_method_154_code 0 = .ok (.getstatic 38, 3) by decide +kernel) ?_
  refine lv_if_eq (tgt := 17) hx hb (show decode prog_16_method_154_code 3 = .ok (.ifCond .eq 14, 3) by decide +kernel) (by decide) (fun q => absurd q (by decide)) (fun _ => ?_)
  refine lv_aload_n hx hb (show decode prog_16_method_154_code 6 = .ok (.aload_n 0, 1) by decide +kernel) rfl (lv_at hl 0 rfl) ?_
  refine vk_getf hx hb hZ.2.1 hS hown (hT _ mF_S_15) (fun _ h9 => h9) (show decode prog_16_method_154_code 7 = .ok (.getfield 15, 3) by decide +kernel) ?_
  refine lv_if_ne (tgt := 17) hx hb (show decode prog_16_method_154_code 10 = .ok (.ifCond .ne 7, 3) by decide +kernel) (by decide) (fun q => absurd rfl q) (fun _ => ?_)
  refine lv_iconst (v := (1 : Int32)) hx hb (show decode prog_16_method_154_code 13 = .ok (.iconst 1, 1) by decide +kernel) (by decide) ?_
  refine lv_goto (tgt := 18) hx hb (show decode prog_16_method_154_code 14 = .ok (.goto 4, 3) by decide +kernel) (by decide) ?_
  exact W.zret hx hb hr (zbo_n (Or.inr rfl)) (fun t ht hW => ⟨⟨1, (), rfl, rfl, trivial⟩, hS.F ht⟩) hS.2.2 (show decode prog_16_method_154_code 18 = .ok (.ireturn, 1) by decide +kernel) hlocks
set_option maxHeartbeats 4000000 in
theorem jCod (l : Launch) {ad av n : Nat} {f : Nat → Int32} : Met l yS_cod vS_cod { frames := 0, cells := 0, slots := 0, locals := 0 } (va_Pc [.ref ad] (fun U => zSP ad av n f zNo U U.heap)) (va_Qi (fun (r : Int32) (_ : Unit) => r = 0) (fun _ _ => True) zNo) 0 0 zNo := by
  refine Met.ofW (cc := prog_16_method_152_code) (maxL := 1) (ret := some .byte) (by decide) rfl ?_
  intro p e s m args below meth c s₁ B hml hv2
  obtain ⟨rfl, hZ⟩ := hv2
  have hx := B.exec
  have hb := B.bytes
  have hr := B.returns
  have hlocks := B.notSynchronized
  have hts := atoms_spec (ws := vS_cod) B.pre
  have hT : ∀ w ∈ zTB, w.before ([.ref ad] : List Value).toArray s = true := fun w h => hts w (List.mem_cons_of_mem _ h)
  have hown : s.vm.findClass "java/lang/String" = some m.cls := findClass_of_methodNamed B.named
  have hS : va_S zNo s.heap s.heap [] := va_S.rf
  have hl := lv_entry ([.ref ad] : List Value) (n := 1) (Nat.le_of_ble_eq_true rfl)
  rw [lg_entry_eq]
  generalize (lg_sl ([.ref ad] : List Value) ++ List.replicate (1 - (lg_sl ([.ref ad] : List Value)).length) Slot.unset).toArray = ls at hl ⊢
  have hl : lv_has ls 1 [(0, .ref ad)] := hl
  refine va_gets hx hb hZ.2.2.2.2.1 hS hown (hT _ mF_S_38) (fun _ h9 => h9) (show decode prog_16_method_152_code 0 = .ok (.getstatic 38, 3) by decide +kernel) ?_
  refine lv_if_eq (tgt := 13) hx hb (show decode prog_16_method_152_code 3 = .ok (.ifCond .eq 10, 3) by decide +kernel) (by decide) (fun q => absurd q (by decide)) (fun _ => ?_)
  refine lv_aload_n hx hb (show decode prog_16_method_152_code 6 = .ok (.aload_n 0, 1) by decide +kernel) rfl (lv_at hl 0 rfl) ?_
  refine vk_getf hx hb hZ.2.1 hS hown (hT _ mF_S_15) (fun _ h9 => h9) (show decode prog_16_method_152_code 7 = .ok (.getfield 15, 3) by decide +kernel) ?_
  refine lv_goto (tgt := 14) hx hb (show decode prog_16_method_152_code 10 = .ok (.goto 4, 3) by decide +kernel) (by decide) ?_
  exact W.zret hx hb hr rfl (fun t ht hW => ⟨⟨0, (), rfl, rfl, trivial⟩, hS.F ht⟩) hS.2.2 (show decode prog_16_method_152_code 14 = .ok (.ireturn, 1) by decide +kernel) hlocks
set_option maxHeartbeats 4000000 in
theorem jLen (l : Launch) {ad av n : Nat} {f : Nat → Int32} (hn : n ≤ 2000) : Met l yS_len vS_len { frames := 1, cells := 0, slots := 0, locals := 20 } (va_Pc [.ref ad] (fun U => zSP ad av n f zNo U U.heap)) (va_Qi (fun (r : Int32) (_ : Unit) => r = nI n) (fun _ _ => True) zNo) 0 0 zNo := by
  refine Met.ofW (cc := prog_16_method_54_code) (maxL := 1) (ret := some .int) (by decide) rfl ?_
  intro p e s m args below meth c s₁ B hml hv2
  obtain ⟨rfl, hZ⟩ := hv2
  have hx := B.exec
  have hb := B.bytes
  have hr := B.returns
  have hlocks := B.notSynchronized
  have hts := atoms_spec (ws := vS_len) B.pre
  have hT : ∀ w ∈ zTB, w.before ([.ref ad] : List Value).toArray s = true := fun w h => hts w (List.mem_cons_of_mem _ h)
  have hown : s.vm.findClass "java/lang/String" = some m.cls := findClass_of_methodNamed B.named
  have hS : va_S zNo s.heap s.heap [] := va_S.rf
  have hl := lv_entry ([.ref ad] : List Value) (n := 1) (Nat.le_of_ble_eq_true rfl)
  rw [lg_entry_eq]
  generalize (lg_sl ([.ref ad] : List Value) ++ List.replicate (1 - (lg_sl ([.ref ad] : List Value)).length) Slot.unset).toArray = ls at hl ⊢
  have hl : lv_has ls 1 [(0, .ref ad)] := hl
  refine lv_aload_n hx hb (show decode prog_16_method_54_code 0 = .ok (.aload_n 0, 1) by decide +kernel) rfl (lv_at hl 0 rfl) ?_
  refine vk_getf hx hb hZ.2.2.1 hS hown (hT _ mF_S_9) (fun _ h9 => h9) (show decode prog_16_method_54_code 1 = .ok (.getfield 9, 3) by decide +kernel) ?_
  refine va_tlen hx hb hZ.2.2.2.1 hS (v := nI n) rfl (show decode prog_16_method_54_code 4 = .ok (.arraylength, 1) by decide +kernel) ?_
  refine lv_aload_n hx hb (show decode prog_16_method_54_code 5 = .ok (.aload_n 0, 1) by decide +kernel) rfl (lv_at hl 0 rfl) ?_
  refine va_calli (va_runV (As := []) (rest := [.int (nI n)]) ⟨hx, hb, hml, hown, hT⟩ (jCod l (ad := ad) (av := av) (n := n) (f := f)) (cwV 0 hT (zgV mL_S_335 mI_S_cod mS_S_cod mN_S mC_S_cod) rfl rfl rfl hdS_cod ⟨Nat.le_of_ble_eq_true rfl, Nat.le_of_ble_eq_true rfl⟩) ⟨zblS, by obtain ⟨cell, h1, h2, h3, -⟩ := hZ.1; exact ⟨cell, h1, h2, h3⟩, fun U hU hW => ⟨rfl, zSP.put hU hW.alike hZ⟩⟩ rfl rfl hl.1 rfl (lv_room (Nat.le_of_ble_eq_true rfl)) (show decode prog_16_method_54_code 6 = .ok (.invokevirtual 335, 3) by decide +kernel) ⟨Nat.zero_le _, Nat.zero_le _⟩) hS (fun q _ h => h) (fun q h => h) (fun r u t H1 locs ht hvm h5 hB hz1 hk1 hS => ?_)
  subst h5
  refine lv_ishr hx hb (show decode prog_16_method_54_code 9 = .ok (.ishr, 1) by decide +kernel) ?_
  rw [sc_shr0 (by omega)]
  exact W.iret hx hb hr (fun t ht hW => ⟨⟨nI n, (), rfl, rfl, trivial⟩, hS.F ht⟩) hS.2.2 (show decode prog_16_method_54_code 10 = .ok (.ireturn, 1) by decide +kernel) hlocks
set_option maxHeartbeats 4000000 in
theorem jChr (l : Launch) {ad av n : Nat} {f : Nat → Int32} {i : Nat} (hi : i < n) (hn : n ≤ 2000) : Met l yS_chr vS_chr { frames := 3, cells := 0, slots := 0, locals := 64 } (va_Pc [.ref ad, .int (nI i)] (fun U => zSP ad av n f zNo U U.heap)) (va_Qi (fun (r : Int32) (_ : Unit) => r = f i &&& 255) (fun _ _ => True) zNo) 0 0 zNo := by
  refine Met.ofW (cc := prog_16_method_56_code) (maxL := 2) (ret := some .char) (by decide) rfl ?_
  intro p e s m args below meth c s₁ B hml hv2
  obtain ⟨rfl, hZ⟩ := hv2
  have hx := B.exec
  have hb := B.bytes
  have hr := B.returns
  have hlocks := B.notSynchronized
  have hts := atoms_spec (ws := vS_chr) B.pre
  have hT : ∀ w ∈ zTB, w.before ([.ref ad, .int (nI i)] : List Value).toArray s = true := fun w h => hts w (List.mem_cons_of_mem _ h)
  have hown : s.vm.findClass "java/lang/String" = some m.cls := findClass_of_methodNamed B.named
  have hS : va_S zNo s.heap s.heap [] := va_S.rf
  have hl := lv_entry ([.ref ad, .int (nI i)] : List Value) (n := 2) (Nat.le_of_ble_eq_true rfl)
  rw [lg_entry_eq]
  generalize (lg_sl ([.ref ad, .int (nI i)] : List Value) ++ List.replicate (2 - (lg_sl ([.ref ad, .int (nI i)] : List Value)).length) Slot.unset).toArray = ls at hl ⊢
  have hl : lv_has ls 2 [(0, .ref ad), (1, .int (nI i))] := hl
  refine lv_aload_n hx hb (show decode prog_16_method_56_code 0 = .ok (.aload_n 0, 1) by decide +kernel) rfl (lv_at hl 0 rfl) ?_
  refine va_calli (va_runV (As := []) (rest := []) ⟨hx, hb, hml, hown, hT⟩ (jIsL l (ad := ad) (av := av) (n := n) (f := f)) (cwV 0 hT (zgV mL_S_492 mI_S_lat mS_S_lat mN_S mC_S_lat) rfl rfl rfl hdS_lat ⟨Nat.le_of_ble_eq_true rfl, Nat.le_of_ble_eq_true rfl⟩) ⟨zblS, by obtain ⟨cell, h1, h2, h3, -⟩ := hZ.1; exact ⟨cell, h1, h2, h3⟩, fun U hU hW => ⟨rfl, zSP.put hU hW.alike hZ⟩⟩ rfl rfl hl.1 rfl (lv_room (Nat.le_of_ble_eq_true rfl)) (show decode prog_16_method_56_code 1 = .ok (.invokevirtual 492, 3) by decide +kernel) ⟨Nat.zero_le _, Nat.zero_le _⟩) hS (fun q _ h => h) (fun q h => h) (fun r u t H1 locs ht hvm h5 hB hz1 hk1 hS => ?_)
  subst h5
  have hZ1 : zSP ad av n f zNo s H1 := hZ.kept (fun a h1 h2 => hk1 a h1 h2)
  refine lv_if_eq (tgt := 16) hx hb (show decode prog_16_method_56_code 4 = .ok (.ifCond .eq 12, 3) by decide +kernel) (by decide) (fun q => absurd q (by decide)) (fun _ => ?_)
  refine lv_aload_n hx hb (show decode prog_16_method_56_code 7 = .ok (.aload_n 0, 1) by decide +kernel) rfl (lv_at hl 0 rfl) ?_
  refine vk_getf hx hb hZ.2.2.1 hS hown (hT _ mF_S_9) (fun _ h9 => h9) (show decode prog_16_method_56_code 8 = .ok (.getfield 9, 3) by decide +kernel) ?_
  refine lv_iload_n hx hb (show decode prog_16_method_56_code 11 = .ok (.iload_n 1, 1) by decide +kernel) rfl (lv_at hl 1 rfl) ?_
  refine va_calli (va_runS (As := [.ref av, .int (nI i)]) (rest := []) ⟨hx, hb, hml, hown, hT⟩ (jLat l (ad := ad) (av := av) (f := f) hi hn) (va_cwS 2 hT (zgS mL_S_495 mT_T_chr mN_T mC_T_chr) rfl rfl rfl hdT_chr ⟨Nat.le_of_ble_eq_true rfl, Nat.le_of_ble_eq_true rfl⟩) ⟨zblS, fun U hU hW => ⟨rfl, zSP.put hU hW.alike hZ1⟩⟩ rfl rfl hl.1 rfl (lv_room (Nat.le_of_ble_eq_true rfl)) (show decode prog_16_method_56_code 12 = .ok (.invokestatic 495, 3) by decide +kernel) ⟨Nat.zero_le _, Nat.zero_le _⟩) hS (fun q _ h => h) (fun q h => h) (fun r u t H2 locs ht hvm h5 hB hz1 hk2 hS => ?_)
  subst h5
  exact W.zret hx hb hr (sc_nar _) (fun t ht hW => ⟨⟨f i &&& 255, (), rfl, rfl, trivial⟩, hS.F ht⟩) hS.2.2 (show decode prog_16_method_56_code 15 = .ok (.ireturn, 1) by decide +kernel) hlocks
