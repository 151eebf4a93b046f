/-! the constructors -/
abbrev ztc (ct : Nat → ClassId) : List (ClassId × FieldType) := [(ct 0, .int), (ct 1, .long), (ct 2, .byte), (ct 3, .boolean)]
theorem mI_Obj : Cond.instanceMethod Lib.objectInit ∈ zTB := zmem1 (List.mem_of_getElem? (i := 26) rfl) rfl
theorem mC_Obj : Cond.code Lib.objectInit ⟨#[0xb1]⟩ 1 none ∈ zTB := zmem1 (List.mem_of_getElem? (i := 27) rfl) rfl
theorem zgI {k : Cond} (h : k ∈ zTB) : GoodIn zTB (k :: zTB) := zgood (fun w hw => (List.mem_cons.mp hw).elim (fun e => by rw [e]; exact h) id)
theorem zz_blind {av : List Value} {D : va_G} {ct : Nat → ClassId} {sz : Nat} {w0 : va_W} : FrameBlind (va_Pc av (fun U => U.heap.size = sz ∧ va_P D vwCl w0 U.heap ∧ va_K D vwCl (ztc ct) U ∧ va_D (fun _ => True) w0)) := fun a U g mk q => by
  obtain ⟨q0, q1, qP, qK, qD⟩ := q
  exact ⟨q0, q1, qP, va_K.moved (u := U) (U := U.calling g mk a) (Vm.Alike.refl U.vm) qK, qD⟩
section ZNEWA
variable {p : Program} {l : Launch} {e : Env} {R : Room} {s : State} {m : MethodId} {args : Array Value} {below : List Frame} {meth : Method} {c : Code} {H H0 : Heap} {locs : List Loc} {Q : State → Prop} {cc : ByteArray} {pc cells slots : Nat} {ls : Array Slot} {rest : List Value} {D : va_G} {cl : List vw_C} {tys : List (ClassId × FieldType)} {ws : va_W} {A : Nat → Prop}
/-- a new array whose class is known -/
theorem zz_newa (hexec : p.tables.exec = Jvm.exec) (hb : c.code = cc) {atype : ArrayType} (harr : (Cond.arrayClass (newarray.typeOf atype)).before args s = true) {ty : FieldType} (hty : newarray.typeOf atype = ty) (hK : va_K D cl tys s) (hP : va_P D cl ws H) (hD : va_D A ws) (hS : va_S A H0 H locs) (hA : ∀ q, H0.size ≤ q → A q)
    (t0 : Nat) {cA : ClassId} (ht : tys[t0]? = some (cA, ty)) {n : Int32} {N' : Nat} {a0 : vp_A} (ha : ∀ cA : ClassId, vp_cell cA a0 = arrV cA N' (fun _ => defaultValue ty)) (hn : ¬ n < 0) (hN : n.toNatClampNeg = N') (hbytes : N' * componentBytes ty ≤ 536870912) (hcells : cells + 1 ≤ R.cells) (hslots : slots + N' ≤ R.slots) (hdg : decode cc pc = .ok (.newarray atype, 2))
    (kk : ∀ (q : Nat) (H1 : Heap), va_P D cl (ws ++ [(q, .inl (cA, a0))]) H1 → va_D A (ws ++ [(q, .inl (cA, a0))]) → va_S A H0 H1 locs →
      W p l e R s m args below meth c H1 locs (cells + 1) (slots + N') Q (F0 m (pc + 2) ls (.ref q :: rest))) : W p l e R s m args below meth c H locs cells slots Q (F0 m pc ls (.int n :: rest)) := by
  refine va_newa hexec hb harr hty hK hP hD hS hA ha hn hN hbytes hcells hslots hdg (fun q cB H1 hK1 hP1 hD1 hS1 => ?_)
  have e1 := (hK1.2 tys.length (cB, ty) (by rw [List.getElem?_append_right (Nat.le_refl _), Nat.sub_self]; rfl)).2
  have e2 := (hK.2 t0 _ ht).2
  have e : cB = cA := by
    subst hty
    cases atype <;> exact Option.some.inj ((show s.vm.findClass _ = some cB from e1).symm.trans (show s.vm.findClass _ = some cA from e2))
  subst e
  exact kk q H1 hP1 hD1 hS1
end ZNEWA
theorem hdiX7 : yX7_init.cls ≠ "java/lang/invoke/MethodHandle" ∧ yX7_init.cls ≠ "java/lang/invoke/VarHandle" ∧ (parseMethodDescriptor yX7_init.desc).map (fun d => d.parameters.length) = some 0 := by decide +kernel
abbrev vX7_init : List Cond := Cond.code yX7_init cX7_init 1 none :: zTB
/-- the cells behind the constructor: the object, what it made -/
def wX7 (ct : Nat → ClassId) (h0 : Nat) (q : Nat → Nat) : va_W := [(h0, .inr (7, [.ref (q 0), .int (nI 0)])), ((q 0), .inl (ct 2, 800, .inl (fun _ => 0)))]
set_option maxHeartbeats 8000000 in
set_option maxRecDepth 100000 in
theorem iX7 (l : Launch) (D : va_G) (ct : Nat → ClassId) (h0 : Nat) (sz : Nat) : Met l yX7_init vX7_init { frames := 1, cells := 1, slots := 800, locals := 12 } (va_Pc [.ref h0] (fun U => U.heap.size = sz ∧ va_P D vwCl [(h0, .inr (7, [.null, .int 0]))] U.heap ∧ va_K D vwCl (ztc ct) U ∧ va_D (fun _ => True) [(h0, .inr (7, [.null, .int 0]))])) (va_Qv (fun _ : Nat → Nat => True) (fun q t => va_P D vwCl (wX7 ct h0 q) t.heap ∧ va_K D vwCl (ztc ct) t ∧ va_D (va_A [(h0, .inr (7, [.null, .int 0]))] sz) (wX7 ct h0 q)) (va_A [(h0, .inr (7, [.null, .int 0]))] sz)) 1 800 (va_A [(h0, .inr (7, [.null, .int 0]))] sz) := by
  refine Met.ofW (cc := cX7_init) (maxL := 1) (ret := none) (by decide) rfl ?_
  intro p e s m args below meth c s₁ B hml hv
  obtain ⟨rfl, hsz, hP, hK, hD0⟩ := hv
  have hx := B.exec
  have hb := B.bytes
  have hr := B.returns
  have hts := atoms_spec (ws := vX7_init) B.pre
  have hT : ∀ w ∈ zTB, w.before ([.ref h0] : List Value).toArray s = true := fun w h => hts w (List.mem_cons_of_mem _ h)
  have hown : s.vm.findClass RX7 = some m.cls := findClass_of_methodNamed B.named
  have hlocks := B.notSynchronized
  have hin : meth.name = "<init>" := (name_of_methodNamed B.named B.method).1
  subst hsz
  have hD := hD0.self (sz := s.heap.size)
  generalize hAe : va_A [(h0, .inr (7, [.null, .int 0]))] s.heap.size = A at hD ⊢
  have hA : ∀ q : Nat, s.heap.size ≤ q → A q := fun q h => by rw [← hAe]; exact Or.inr h
  have hS : va_S A s.heap s.heap [] := va_S.rf
  have hP : va_P D vwCl [(h0, .inr (7, [.null, .int 0]))] s.heap := hP
  have hl := lv_entry ([.ref h0] : List Value) (n := 1) (Nat.le_of_ble_eq_true rfl)
  rw [lg_entry_eq]
  generalize (lg_sl ([.ref h0] : List Value) ++ List.replicate (1 - (lg_sl ([.ref h0] : List Value)).length) Slot.unset).toArray = ls at hl ⊢
  have hl : lv_has ls 1 [(0, .ref h0)] := hl
  refine lv_aload_n hx hb dX7_init_0 rfl (lv_at hl 0 rfl) ?_
  refine W.objInit hx hb hown (hT _ mL_X7_3) (hT _ mI_Obj) (hT _ mC_Obj) rfl (by rw [hml]; exact hl.1) rfl dX7_init_1 (Nat.le_of_ble_eq_true rfl) (Nat.le_of_ble_eq_true rfl) ?_
  refine W.eq (g2 := F0 m 4 ls []) rfl ?_
  refine lv_aload_n hx hb dX7_init_4 rfl (lv_at hl 0 rfl) ?_
  refine lv_sipush (v := (nI 800)) hx hb dX7_init_5 (by decide) ?_
  refine zz_newa (atype := .byte) (ty := .byte) (n := (nI 800)) (N' := 800) (a0 := (800, .inl (fun _ => 0))) hx hb (hT _ mA_byte) rfl hK hP hD hS hA 2 rfl (fun _ => rfl) (by decide) (by decide) (Nat.le_of_ble_eq_true rfl) (Nat.le_of_ble_eq_true rfl) (Nat.le_of_ble_eq_true rfl) dX7_init_8 (fun q8 H hP hD hS => ?_)
  have hP : va_P D vwCl [(h0, .inr (7, [.null, .int 0])), (q8, .inl (ct 2, 800, .inl (fun _ => 0)))] H := hP
  have hD : va_D A [(h0, .inr (7, [.null, .int 0])), (q8, .inl (ct 2, 800, .inl (fun _ => 0)))] := hD
  refine va_putF (D := D) (ci := 7) (v := .ref q8) (ty := .array .byte) (C := RX7) (T := TX7) (N := 2) hx hb hT mU_X7 tyX7 tyX7_ok nmX7 hown hK hP hD hS 0 rfl rfl 0 (by decide) (hT _ mF_X7_9) (fun _ h9 => h9) rfl hin rfl (by decide +kernel) rfl rfl (Nat.le_of_ble_eq_true rfl) dX7_init_10 (fun H locs hP hD hS => ?_)
  have hP : va_P D vwCl [(h0, .inr (7, [.ref q8, .int 0])), (q8, .inl (ct 2, 800, .inl (fun _ => 0)))] H := hP
  have hD : va_D A [(h0, .inr (7, [.ref q8, .int 0])), (q8, .inl (ct 2, 800, .inl (fun _ => 0)))] := hD
  refine lv_aload_n hx hb dX7_init_13 rfl (lv_at hl 0 rfl) ?_
  refine lv_iconst (v := (nI 0)) hx hb dX7_init_14 (by decide) ?_
  refine va_put (D := D) (ci := 7) (v := .int (nI 0)) (ty := .int) (C := RX7) (T := TX7) (N := 2) hx hb hT mU_X7 tyX7 tyX7_ok nmX7 hown hK hP hD hS 0 rfl rfl 1 (by decide) (hT _ mF_X7_15) (fun _ h9 => h9) rfl (by decide +kernel) rfl rfl (Nat.le_of_ble_eq_true rfl) dX7_init_15 (fun H locs hP hD hS => ?_)
  have hP : va_P D vwCl [(h0, .inr (7, [.ref q8, .int (nI 0)])), (q8, .inl (ct 2, 800, .inl (fun _ => 0)))] H := hP
  have hD : va_D A [(h0, .inr (7, [.ref q8, .int (nI 0)])), (q8, .inl (ct 2, 800, .inl (fun _ => 0)))] := hD
  refine W.widen (k := 1) (n := 800) (Nat.le_of_ble_eq_true rfl) (Nat.le_of_ble_eq_true rfl) ?_
  exact W.vret hx hb hr (fun t ht hW => ⟨⟨fun k => ([q8] : List Nat).getD k 0, rfl, trivial, by rw [ht]; exact hP, va_K.moved hW.alike hK, hD⟩, hS.F ht⟩) hS.2.2 dX7_init_18 hlocks
theorem hdiX4 : yX4_init.cls ≠ "java/lang/invoke/MethodHandle" ∧ yX4_init.cls ≠ "java/lang/invoke/VarHandle" ∧ (parseMethodDescriptor yX4_init.desc).map (fun d => d.parameters.length) = some 0 := by decide +kernel
abbrev vX4_init : List Cond := Cond.code yX4_init cX4_init 1 none :: zTB
/-- the cells behind the constructor: the object, what it made -/
def wX4 (ct : Nat → ClassId) (h0 : Nat) (q : Nat → Nat) : va_W := [(h0, .inr (4, [.ref (q 0), .ref (q 1), .ref (q 2), .ref (q 3), .ref (q 4), .int (nI 0), .ref (q 5), .ref (q 6), .ref (q 7), .ref (q 8), .ref (q 9), .int (nI 0)])), ((q 0), .inl (ct 1, 20, .inr (.inl (fun _ => 0)))), ((q 1), .inl (ct 0, 20, .inl (fun _ => 0))), ((q 2), .inl (ct 0, 20, .inl (fun _ => 0))), ((q 3), .inl (ct 0, 20, .inl (fun _ => 0))), ((q 4), .inl (ct 0, 20, .inl (fun _ => 0))), ((q 5), .inl (ct 0, 800, .inl (fun _ => 0))), ((q 6), .inl (ct 0, 800, .inl (fun _ => 0))), ((q 7), .inl (ct 0, 800, .inl (fun _ => 0))), ((q 8), .inl (ct 1, 800, .inr (.inl (fun _ => 0)))), ((q 9), .inl (ct 0, 800, .inl (fun _ => 0)))]
set_option maxHeartbeats 8000000 in
set_option maxRecDepth 100000 in
theorem iX4 (l : Launch) (D : va_G) (ct : Nat → ClassId) (h0 : Nat) (sz : Nat) : Met l yX4_init vX4_init { frames := 1, cells := 10, slots := 4100, locals := 12 } (va_Pc [.ref h0] (fun U => U.heap.size = sz ∧ va_P D vwCl [(h0, .inr (4, [.null, .null, .null, .null, .null, .int 0, .null, .null, .null, .null, .null, .int 0]))] U.heap ∧ va_K D vwCl (ztc ct) U ∧ va_D (fun _ => True) [(h0, .inr (4, [.null, .null, .null, .null, .null, .int 0, .null, .null, .null, .null, .null, .int 0]))])) (va_Qv (fun _ : Nat → Nat => True) (fun q t => va_P D vwCl (wX4 ct h0 q) t.heap ∧ va_K D vwCl (ztc ct) t ∧ va_D (va_A [(h0, .inr (4, [.null, .null, .null, .null, .null, .int 0, .null, .null, .null, .null, .null, .int 0]))] sz) (wX4 ct h0 q)) (va_A [(h0, .inr (4, [.null, .null, .null, .null, .null, .int 0, .null, .null, .null, .null, .null, .int 0]))] sz)) 10 4100 (va_A [(h0, .inr (4, [.null, .null, .null, .null, .null, .int 0, .null, .null, .null, .null, .null, .int 0]))] sz) := by
  refine Met.ofW (cc := cX4_init) (maxL := 1) (ret := none) (by decide) rfl ?_
  intro p e s m args below meth c s₁ B hml hv
  obtain ⟨rfl, hsz, hP, hK, hD0⟩ := hv
  have hx := B.exec
  have hb := B.bytes
  have hr := B.returns
  have hts := atoms_spec (ws := vX4_init) B.pre
  have hT : ∀ w ∈ zTB, w.before ([.ref h0] : List Value).toArray s = true := fun w h => hts w (List.mem_cons_of_mem _ h)
  have hown : s.vm.findClass RX4 = some m.cls := findClass_of_methodNamed B.named
  have hlocks := B.notSynchronized
  have hin : meth.name = "<init>" := (name_of_methodNamed B.named B.method).1
  subst hsz
  have hD := hD0.self (sz := s.heap.size)
  generalize hAe : va_A [(h0, .inr (4, [.null, .null, .null, .null, .null, .int 0, .null, .null, .null, .null, .null, .int 0]))] s.heap.size = A at hD ⊢
  have hA : ∀ q : Nat, s.heap.size ≤ q → A q := fun q h => by rw [← hAe]; exact Or.inr h
  have hS : va_S A s.heap s.heap [] := va_S.rf
  have hP : va_P D vwCl [(h0, .inr (4, [.null, .null, .null, .null, .null, .int 0, .null, .null, .null, .null, .null, .int 0]))] s.heap := hP
  have hl := lv_entry ([.ref h0] : List Value) (n := 1) (Nat.le_of_ble_eq_true rfl)
  rw [lg_entry_eq]
  generalize (lg_sl ([.ref h0] : List Value) ++ List.replicate (1 - (lg_sl ([.ref h0] : List Value)).length) Slot.unset).toArray = ls at hl ⊢
  have hl : lv_has ls 1 [(0, .ref h0)] := hl
  refine lv_aload_n hx hb dX4_init_0 rfl (lv_at hl 0 rfl) ?_
  refine W.objInit hx hb hown (hT _ mL_X4_3) (hT _ mI_Obj) (hT _ mC_Obj) rfl (by rw [hml]; exact hl.1) rfl dX4_init_1 (Nat.le_of_ble_eq_true rfl) (Nat.le_of_ble_eq_true rfl) ?_
  refine W.eq (g2 := F0 m 4 ls []) rfl ?_
  refine lv_aload_n hx hb dX4_init_4 rfl (lv_at hl 0 rfl) ?_
  refine lv_bipush (v := (nI 20)) hx hb dX4_init_5 (by decide) ?_
  refine zz_newa (atype := .long) (ty := .long) (n := (nI 20)) (N' := 20) (a0 := (20, .inr (.inl (fun _ => 0)))) hx hb (hT _ mA_long) rfl hK hP hD hS hA 1 rfl (fun _ => rfl) (by decide) (by decide) (Nat.le_of_ble_eq_true rfl) (Nat.le_of_ble_eq_true rfl) (Nat.le_of_ble_eq_true rfl) dX4_init_7 (fun q7 H hP hD hS => ?_)
  have hP : va_P D vwCl [(h0, .inr (4, [.null, .null, .null, .null, .null, .int 0, .null, .null, .null, .null, .null, .int 0])), (q7, .inl (ct 1, 20, .inr (.inl (fun _ => 0))))] H := hP
  have hD : va_D A [(h0, .inr (4, [.null, .null, .null, .null, .null, .int 0, .null, .null, .null, .null, .null, .int 0])), (q7, .inl (ct 1, 20, .inr (.inl (fun _ => 0))))] := hD
  refine va_putF (D := D) (ci := 4) (v := .ref q7) (ty := .array .long) (C := RX4) (T := TX4) (N := 12) hx hb hT mU_X4 tyX4 tyX4_ok nmX4 hown hK hP hD hS 0 rfl rfl 0 (by decide) (hT _ mF_X4_9) (fun _ h9 => h9) rfl hin rfl (by decide +kernel) rfl rfl (Nat.le_of_ble_eq_true rfl) dX4_init_9 (fun H locs hP hD hS => ?_)
  have hP : va_P D vwCl [(h0, .inr (4, [.ref q7, .null, .null, .null, .null, .int 0, .null, .null, .null, .null, .null, .int 0])), (q7, .inl (ct 1, 20, .inr (.inl (fun _ => 0))))] H := hP
  have hD : va_D A [(h0, .inr (4, [.ref q7, .null, .null, .null, .null, .int 0, .null, .null, .null, .null, .null, .int 0])), (q7, .inl (ct 1, 20, .inr (.inl (fun _ => 0))))] := hD
  refine lv_aload_n hx hb dX4_init_12 rfl (lv_at hl 0 rfl) ?_
  refine lv_bipush (v := (nI 20)) hx hb dX4_init_13 (by decide) ?_
  refine zz_newa (atype := .int) (ty := .int) (n := (nI 20)) (N' := 20) (a0 := (20, .inl (fun _ => 0))) hx hb (hT _ mA_int) rfl hK hP hD hS hA 0 rfl (fun _ => rfl) (by decide) (by decide) (Nat.le_of_ble_eq_true rfl) (Nat.le_of_ble_eq_true rfl) (Nat.le_of_ble_eq_true rfl) dX4_init_15 (fun q15 H hP hD hS => ?_)
  have hP : va_P D vwCl [(h0, .inr (4, [.ref q7, .null, .null, .null, .null, .int 0, .null, .null, .null, .null, .null, .int 0])), (q7, .inl (ct 1, 20, .inr (.inl (fun _ => 0)))), (q15, .inl (ct 0, 20, .inl (fun _ => 0)))] H := hP
  have hD : va_D A [(h0, .inr (4, [.ref q7, .null, .null, .null, .null, .int 0, .null, .null, .null, .null, .null, .int 0])), (q7, .inl (ct 1, 20, .inr (.inl (fun _ => 0)))), (q15, .inl (ct 0, 20, .inl (fun _ => 0)))] := hD
  refine va_putF (D := D) (ci := 4) (v := .ref q15) (ty := .array .int) (C := RX4) (T := TX4) (N := 12) hx hb hT mU_X4 tyX4 tyX4_ok nmX4 hown hK hP hD hS 0 rfl rfl 1 (by decide) (hT _ mF_X4_15) (fun _ h9 => h9) rfl hin rfl (by decide +kernel) rfl rfl (Nat.le_of_ble_eq_true rfl) dX4_init_17 (fun H locs hP hD hS => ?_)
  have hP : va_P D vwCl [(h0, .inr (4, [.ref q7, .ref q15, .null, .null, .null, .int 0, .null, .null, .null, .null, .null, .int 0])), (q7, .inl (ct 1, 20, .inr (.inl (fun _ => 0)))), (q15, .inl (ct 0, 20, .inl (fun _ => 0)))] H := hP
  have hD : va_D A [(h0, .inr (4, [.ref q7, .ref q15, .null, .null, .null, .int 0, .null, .null, .null, .null, .null, .int 0])), (q7, .inl (ct 1, 20, .inr (.inl (fun _ => 0)))), (q15, .inl (ct 0, 20, .inl (fun _ => 0)))] := hD
  refine lv_aload_n hx hb dX4_init_20 rfl (lv_at hl 0 rfl) ?_
  refine lv_bipush (v := (nI 20)) hx hb dX4_init_21 (by decide) ?_
  refine zz_newa (atype := .int) (ty := .int) (n := (nI 20)) (N' := 20) (a0 := (20, .inl (fun _ => 0))) hx hb (hT _ mA_int) rfl hK hP hD hS hA 0 rfl (fun _ => rfl) (by decide) (by decide) (Nat.le_of_ble_eq_true rfl) (Nat.le_of_ble_eq_true rfl) (Nat.le_of_ble_eq_true rfl) dX4_init_23 (fun q23 H hP hD hS => ?_)
  have hP : va_P D vwCl [(h0, .inr (4, [.ref q7, .ref q15, .null, .null, .null, .int 0, .null, .null, .null, .null, .null, .int 0])), (q7, .inl (ct 1, 20, .inr (.inl (fun _ => 0)))), (q15, .inl (ct 0, 20, .inl (fun _ => 0))), (q23, .inl (ct 0, 20, .inl (fun _ => 0)))] H := hP
  have hD : va_D A [(h0, .inr (4, [.ref q7, .ref q15, .null, .null, .null, .int 0, .null, .null, .null, .null, .null, .int 0])), (q7, .inl (ct 1, 20, .inr (.inl (fun _ => 0)))), (q15, .inl (ct 0, 20, .inl (fun _ => 0))), (q23, .inl (ct 0, 20, .inl (fun _ => 0)))] := hD
  refine va_putF (D := D) (ci := 4) (v := .ref q23) (ty := .array .int) (C := RX4) (T := TX4) (N := 12) hx hb hT mU_X4 tyX4 tyX4_ok nmX4 hown hK hP hD hS 0 rfl rfl 2 (by decide) (hT _ mF_X4_19) (fun _ h9 => h9) rfl hin rfl (by decide +kernel) rfl rfl (Nat.le_of_ble_eq_true rfl) dX4_init_25 (fun H locs hP hD hS => ?_)
  have hP : va_P D vwCl [(h0, .inr (4, [.ref q7, .ref q15, .ref q23, .null, .null, .int 0, .null, .null, .null, .null, .null, .int 0])), (q7, .inl (ct 1, 20, .inr (.inl (fun _ => 0)))), (q15, .inl (ct 0, 20, .inl (fun _ => 0))), (q23, .inl (ct 0, 20, .inl (fun _ => 0)))] H := hP
  have hD : va_D A [(h0, .inr (4, [.ref q7, .ref q15, .ref q23, .null, .null, .int 0, .null, .null, .null, .null, .null, .int 0])), (q7, .inl (ct 1, 20, .inr (.inl (fun _ => 0)))), (q15, .inl (ct 0, 20, .inl (fun _ => 0))), (q23, .inl (ct 0, 20, .inl (fun _ => 0)))] := hD
  refine lv_aload_n hx hb dX4_init_28 rfl (lv_at hl 0 rfl) ?_
  refine lv_bipush (v := (nI 20)) hx hb dX4_init_29 (by decide) ?_
  refine zz_newa (atype := .int) (ty := .int) (n := (nI 20)) (N' := 20) (a0 := (20, .inl (fun _ => 0))) hx hb (hT _ mA_int) rfl hK hP hD hS hA 0 rfl (fun _ => rfl) (by decide) (by decide) (Nat.le_of_ble_eq_true rfl) (Nat.le_of_ble_eq_true rfl) (Nat.le_of_ble_eq_true rfl) dX4_init_31 (fun q31 H hP hD hS => ?_)
  have hP : va_P D vwCl [(h0, .inr (4, [.ref q7, .ref q15, .ref q23, .null, .null, .int 0, .null, .null, .null, .null, .null, .int 0])), (q7, .inl (ct 1, 20, .inr (.inl (fun _ => 0)))), (q15, .inl (ct 0, 20, .inl (fun _ => 0))), (q23, .inl (ct 0, 20, .inl (fun _ => 0))), (q31, .inl (ct 0, 20, .inl (fun _ => 0)))] H := hP
  have hD : va_D A [(h0, .inr (4, [.ref q7, .ref q15, .ref q23, .null, .null, .int 0, .null, .null, .null, .null, .null, .int 0])), (q7, .inl (ct 1, 20, .inr (.inl (fun _ => 0)))), (q15, .inl (ct 0, 20, .inl (fun _ => 0))), (q23, .inl (ct 0, 20, .inl (fun _ => 0))), (q31, .inl (ct 0, 20, .inl (fun _ => 0)))] := hD
  refine va_putF (D := D) (ci := 4) (v := .ref q31) (ty := .array .int) (C := RX4) (T := TX4) (N := 12) hx hb hT mU_X4 tyX4 tyX4_ok nmX4 hown hK hP hD hS 0 rfl rfl 3 (by decide) (hT _ mF_X4_22) (fun _ h9 => h9) rfl hin rfl (by decide +kernel) rfl rfl (Nat.le_of_ble_eq_true rfl) dX4_init_33 (fun H locs hP hD hS => ?_)
  have hP : va_P D vwCl [(h0, .inr (4, [.ref q7, .ref q15, .ref q23, .ref q31, .null, .int 0, .null, .null, .null, .null, .null, .int 0])), (q7, .inl (ct 1, 20, .inr (.inl (fun _ => 0)))), (q15, .inl (ct 0, 20, .inl (fun _ => 0))), (q23, .inl (ct 0, 20, .inl (fun _ => 0))), (q31, .inl (ct 0, 20, .inl (fun _ => 0)))] H := hP
  have hD : va_D A [(h0, .inr (4, [.ref q7, .ref q15, .ref q23, .ref q31, .null, .int 0, .null, .null, .null, .null, .null, .int 0])), (q7, .inl (ct 1, 20, .inr (.inl (fun _ => 0)))), (q15, .inl (ct 0, 20, .inl (fun _ => 0))), (q23, .inl (ct 0, 20, .inl (fun _ => 0))), (q31, .inl (ct 0, 20, .inl (fun _ => 0)))] := hD
  refine lv_aload_n hx hb dX4_init_36 rfl (lv_at hl 0 rfl) ?_
  refine lv_bipush (v := (nI 20)) hx hb dX4_init_37 (by decide) ?_
  refine zz_newa (atype := .int) (ty := .int) (n := (nI 20)) (N' := 20) (a0 := (20, .inl (fun _ => 0))) hx hb (hT _ mA_int) rfl hK hP hD hS hA 0 rfl (fun _ => rfl) (by decide) (by decide) (Nat.le_of_ble_eq_true rfl) (Nat.le_of_ble_eq_true rfl) (Nat.le_of_ble_eq_true rfl) dX4_init_39 (fun q39 H hP hD hS => ?_)
  have hP : va_P D vwCl [(h0, .inr (4, [.ref q7, .ref q15, .ref q23, .ref q31, .null, .int 0, .null, .null, .null, .null, .null, .int 0])), (q7, .inl (ct 1, 20, .inr (.inl (fun _ => 0)))), (q15, .inl (ct 0, 20, .inl (fun _ => 0))), (q23, .inl (ct 0, 20, .inl (fun _ => 0))), (q31, .inl (ct 0, 20, .inl (fun _ => 0))), (q39, .inl (ct 0, 20, .inl (fun _ => 0)))] H := hP
  have hD : va_D A [(h0, .inr (4, [.ref q7, .ref q15, .ref q23, .ref q31, .null, .int 0, .null, .null, .null, .null, .null, .int 0])), (q7, .inl (ct 1, 20, .inr (.inl (fun _ => 0)))), (q15, .inl (ct 0, 20, .inl (fun _ => 0))), (q23, .inl (ct 0, 20, .inl (fun _ => 0))), (q31, .inl (ct 0, 20, .inl (fun _ => 0))), (q39, .inl (ct 0, 20, .inl (fun _ => 0)))] := hD
  refine va_putF (D := D) (ci := 4) (v := .ref q39) (ty := .array .int) (C := RX4) (T := TX4) (N := 12) hx hb hT mU_X4 tyX4 tyX4_ok nmX4 hown hK hP hD hS 0 rfl rfl 4 (by decide) (hT _ mF_X4_25) (fun _ h9 => h9) rfl hin rfl (by decide +kernel) rfl rfl (Nat.le_of_ble_eq_true rfl) dX4_init_41 (fun H locs hP hD hS => ?_)
  have hP : va_P D vwCl [(h0, .inr (4, [.ref q7, .ref q15, .ref q23, .ref q31, .ref q39, .int 0, .null, .null, .null, .null, .null, .int 0])), (q7, .inl (ct 1, 20, .inr (.inl (fun _ => 0)))), (q15, .inl (ct 0, 20, .inl (fun _ => 0))), (q23, .inl (ct 0, 20, .inl (fun _ => 0))), (q31, .inl (ct 0, 20, .inl (fun _ => 0))), (q39, .inl (ct 0, 20, .inl (fun _ => 0)))] H := hP
  have hD : va_D A [(h0, .inr (4, [.ref q7, .ref q15, .ref q23, .ref q31, .ref q39, .int 0, .null, .null, .null, .null, .null, .int 0])), (q7, .inl (ct 1, 20, .inr (.inl (fun _ => 0)))), (q15, .inl (ct 0, 20, .inl (fun _ => 0))), (q23, .inl (ct 0, 20, .inl (fun _ => 0))), (q31, .inl (ct 0, 20, .inl (fun _ => 0))), (q39, .inl (ct 0, 20, .inl (fun _ => 0)))] := hD
  refine lv_aload_n hx hb dX4_init_44 rfl (lv_at hl 0 rfl) ?_
  refine lv_iconst (v := (nI 0)) hx hb dX4_init_45 (by decide) ?_
  refine va_put (D := D) (ci := 4) (v := .int (nI 0)) (ty := .int) (C := RX4) (T := TX4) (N := 12) hx hb hT mU_X4 tyX4 tyX4_ok nmX4 hown hK hP hD hS 0 rfl rfl 5 (by decide) (hT _ mF_X4_28) (fun _ h9 => h9) rfl (by decide +kernel) rfl rfl (Nat.le_of_ble_eq_true rfl) dX4_init_46 (fun H locs hP hD hS => ?_)
  have hP : va_P D vwCl [(h0, .inr (4, [.ref q7, .ref q15, .ref q23, .ref q31, .ref q39, .int (nI 0), .null, .null, .null, .null, .null, .int 0])), (q7, .inl (ct 1, 20, .inr (.inl (fun _ => 0)))), (q15, .inl (ct 0, 20, .inl (fun _ => 0))), (q23, .inl (ct 0, 20, .inl (fun _ => 0))), (q31, .inl (ct 0, 20, .inl (fun _ => 0))), (q39, .inl (ct 0, 20, .inl (fun _ => 0)))] H := hP
  have hD : va_D A [(h0, .inr (4, [.ref q7, .ref q15, .ref q23, .ref q31, .ref q39, .int (nI 0), .null, .null, .null, .null, .null, .int 0])), (q7, .inl (ct 1, 20, .inr (.inl (fun _ => 0)))), (q15, .inl (ct 0, 20, .inl (fun _ => 0))), (q23, .inl (ct 0, 20, .inl (fun _ => 0))), (q31, .inl (ct 0, 20, .inl (fun _ => 0))), (q39, .inl (ct 0, 20, .inl (fun _ => 0)))] := hD
  refine lv_aload_n hx hb dX4_init_49 rfl (lv_at hl 0 rfl) ?_
  refine lv_sipush (v := (nI 800)) hx hb dX4_init_50 (by decide) ?_
  refine zz_newa (atype := .int) (ty := .int) (n := (nI 800)) (N' := 800) (a0 := (800, .inl (fun _ => 0))) hx hb (hT _ mA_int) rfl hK hP hD hS hA 0 rfl (fun _ => rfl) (by decide) (by decide) (Nat.le_of_ble_eq_true rfl) (Nat.le_of_ble_eq_true rfl) (Nat.le_of_ble_eq_true rfl) dX4_init_53 (fun q53 H hP hD hS => ?_)
  have hP : va_P D vwCl [(h0, .inr (4, [.ref q7, .ref q15, .ref q23, .ref q31, .ref q39, .int (nI 0), .null, .null, .null, .null, .null, .int 0])), (q7, .inl (ct 1, 20, .inr (.inl (fun _ => 0)))), (q15, .inl (ct 0, 20, .inl (fun _ => 0))), (q23, .inl (ct 0, 20, .inl (fun _ => 0))), (q31, .inl (ct 0, 20, .inl (fun _ => 0))), (q39, .inl (ct 0, 20, .inl (fun _ => 0))), (q53, .inl (ct 0, 800, .inl (fun _ => 0)))] H := hP
  have hD : va_D A [(h0, .inr (4, [.ref q7, .ref q15, .ref q23, .ref q31, .ref q39, .int (nI 0), .null, .null, .null, .null, .null, .int 0])), (q7, .inl (ct 1, 20, .inr (.inl (fun _ => 0)))), (q15, .inl (ct 0, 20, .inl (fun _ => 0))), (q23, .inl (ct 0, 20, .inl (fun _ => 0))), (q31, .inl (ct 0, 20, .inl (fun _ => 0))), (q39, .inl (ct 0, 20, .inl (fun _ => 0))), (q53, .inl (ct 0, 800, .inl (fun _ => 0)))] := hD
  refine va_putF (D := D) (ci := 4) (v := .ref q53) (ty := .array .int) (C := RX4) (T := TX4) (N := 12) hx hb hT mU_X4 tyX4 tyX4_ok nmX4 hown hK hP hD hS 0 rfl rfl 6 (by decide) (hT _ mF_X4_32) (fun _ h9 => h9) rfl hin rfl (by decide +kernel) rfl rfl (Nat.le_of_ble_eq_true rfl) dX4_init_55 (fun H locs hP hD hS => ?_)
  have hP : va_P D vwCl [(h0, .inr (4, [.ref q7, .ref q15, .ref q23, .ref q31, .ref q39, .int (nI 0), .ref q53, .null, .null, .null, .null, .int 0])), (q7, .inl (ct 1, 20, .inr (.inl (fun _ => 0)))), (q15, .inl (ct 0, 20, .inl (fun _ => 0))), (q23, .inl (ct 0, 20, .inl (fun _ => 0))), (q31, .inl (ct 0, 20, .inl (fun _ => 0))), (q39, .inl (ct 0, 20, .inl (fun _ => 0))), (q53, .inl (ct 0, 800, .inl (fun _ => 0)))] H := hP
  have hD : va_D A [(h0, .inr (4, [.ref q7, .ref q15, .ref q23, .ref q31, .ref q39, .int (nI 0), .ref q53, .null, .null, .null, .null, .int 0])), (q7, .inl (ct 1, 20, .inr (.inl (fun _ => 0)))), (q15, .inl (ct 0, 20, .inl (fun _ => 0))), (q23, .inl (ct 0, 20, .inl (fun _ => 0))), (q31, .inl (ct 0, 20, .inl (fun _ => 0))), (q39, .inl (ct 0, 20, .inl (fun _ => 0))), (q53, .inl (ct 0, 800, .inl (fun _ => 0)))] := hD
  refine lv_aload_n hx hb dX4_init_58 rfl (lv_at hl 0 rfl) ?_
  refine lv_sipush (v := (nI 800)) hx hb dX4_init_59 (by decide) ?_
  refine zz_newa (atype := .int) (ty := .int) (n := (nI 800)) (N' := 800) (a0 := (800, .inl (fun _ => 0))) hx hb (hT _ mA_int) rfl hK hP hD hS hA 0 rfl (fun _ => rfl) (by decide) (by decide) (Nat.le_of_ble_eq_true rfl) (Nat.le_of_ble_eq_true rfl) (Nat.le_of_ble_eq_true rfl) dX4_init_62 (fun q62 H hP hD hS => ?_)
  have hP : va_P D vwCl [(h0, .inr (4, [.ref q7, .ref q15, .ref q23, .ref q31, .ref q39, .int (nI 0), .ref q53, .null, .null, .null, .null, .int 0])), (q7, .inl (ct 1, 20, .inr (.inl (fun _ => 0)))), (q15, .inl (ct 0, 20, .inl (fun _ => 0))), (q23, .inl (ct 0, 20, .inl (fun _ => 0))), (q31, .inl (ct 0, 20, .inl (fun _ => 0))), (q39, .inl (ct 0, 20, .inl (fun _ => 0))), (q53, .inl (ct 0, 800, .inl (fun _ => 0))), (q62, .inl (ct 0, 800, .inl (fun _ => 0)))] H := hP
  have hD : va_D A [(h0, .inr (4, [.ref q7, .ref q15, .ref q23, .ref q31, .ref q39, .int (nI 0), .ref q53, .null, .null, .null, .null, .int 0])), (q7, .inl (ct 1, 20, .inr (.inl (fun _ => 0)))), (q15, .inl (ct 0, 20, .inl (fun _ => 0))), (q23, .inl (ct 0, 20, .inl (fun _ => 0))), (q31, .inl (ct 0, 20, .inl (fun _ => 0))), (q39, .inl (ct 0, 20, .inl (fun _ => 0))), (q53, .inl (ct 0, 800, .inl (fun _ => 0))), (q62, .inl (ct 0, 800, .inl (fun _ => 0)))] := hD
  refine va_putF (D := D) (ci := 4) (v := .ref q62) (ty := .array .int) (C := RX4) (T := TX4) (N := 12) hx hb hT mU_X4 tyX4 tyX4_ok nmX4 hown hK hP hD hS 0 rfl rfl 7 (by decide) (hT _ mF_X4_35) (fun _ h9 => h9) rfl hin rfl (by decide +kernel) rfl rfl (Nat.le_of_ble_eq_true rfl) dX4_init_64 (fun H locs hP hD hS => ?_)
  have hP : va_P D vwCl [(h0, .inr (4, [.ref q7, .ref q15, .ref q23, .ref q31, .ref q39, .int (nI 0), .ref q53, .ref q62, .null, .null, .null, .int 0])), (q7, .inl (ct 1, 20, .inr (.inl (fun _ => 0)))), (q15, .inl (ct 0, 20, .inl (fun _ => 0))), (q23, .inl (ct 0, 20, .inl (fun _ => 0))), (q31, .inl (ct 0, 20, .inl (fun _ => 0))), (q39, .inl (ct 0, 20, .inl (fun _ => 0))), (q53, .inl (ct 0, 800, .inl (fun _ => 0))), (q62, .inl (ct 0, 800, .inl (fun _ => 0)))] H := hP
  have hD : va_D A [(h0, .inr (4, [.ref q7, .ref q15, .ref q23, .ref q31, .ref q39, .int (nI 0), .ref q53, .ref q62, .null, .null, .null, .int 0])), (q7, .inl (ct 1, 20, .inr (.inl (fun _ => 0)))), (q15, .inl (ct 0, 20, .inl (fun _ => 0))), (q23, .inl (ct 0, 20, .inl (fun _ => 0))), (q31, .inl (ct 0, 20, .inl (fun _ => 0))), (q39, .inl (ct 0, 20, .inl (fun _ => 0))), (q53, .inl (ct 0, 800, .inl (fun _ => 0))), (q62, .inl (ct 0, 800, .inl (fun _ => 0)))] := hD
  refine lv_aload_n hx hb dX4_init_67 rfl (lv_at hl 0 rfl) ?_
  refine lv_sipush (v := (nI 800)) hx hb dX4_init_68 (by decide) ?_
  refine zz_newa (atype := .int) (ty := .int) (n := (nI 800)) (N' := 800) (a0 := (800, .inl (fun _ => 0))) hx hb (hT _ mA_int) rfl hK hP hD hS hA 0 rfl (fun _ => rfl) (by decide) (by decide) (Nat.le_of_ble_eq_true rfl) (Nat.le_of_ble_eq_true rfl) (Nat.le_of_ble_eq_true rfl) dX4_init_71 (fun q71 H hP hD hS => ?_)
  have hP : va_P D vwCl [(h0, .inr (4, [.ref q7, .ref q15, .ref q23, .ref q31, .ref q39, .int (nI 0), .ref q53, .ref q62, .null, .null, .null, .int 0])), (q7, .inl (ct 1, 20, .inr (.inl (fun _ => 0)))), (q15, .inl (ct 0, 20, .inl (fun _ => 0))), (q23, .inl (ct 0, 20, .inl (fun _ => 0))), (q31, .inl (ct 0, 20, .inl (fun _ => 0))), (q39, .inl (ct 0, 20, .inl (fun _ => 0))), (q53, .inl (ct 0, 800, .inl (fun _ => 0))), (q62, .inl (ct 0, 800, .inl (fun _ => 0))), (q71, .inl (ct 0, 800, .inl (fun _ => 0)))] H := hP
  have hD : va_D A [(h0, .inr (4, [.ref q7, .ref q15, .ref q23, .ref q31, .ref q39, .int (nI 0), .ref q53, .ref q62, .null, .null, .null, .int 0])), (q7, .inl (ct 1, 20, .inr (.inl (fun _ => 0)))), (q15, .inl (ct 0, 20, .inl (fun _ => 0))), (q23, .inl (ct 0, 20, .inl (fun _ => 0))), (q31, .inl (ct 0, 20, .inl (fun _ => 0))), (q39, .inl (ct 0, 20, .inl (fun _ => 0))), (q53, .inl (ct 0, 800, .inl (fun _ => 0))), (q62, .inl (ct 0, 800, .inl (fun _ => 0))), (q71, .inl (ct 0, 800, .inl (fun _ => 0)))] := hD
  refine va_putF (D := D) (ci := 4) (v := .ref q71) (ty := .array .int) (C := RX4) (T := TX4) (N := 12) hx hb hT mU_X4 tyX4 tyX4_ok nmX4 hown hK hP hD hS 0 rfl rfl 8 (by decide) (hT _ mF_X4_38) (fun _ h9 => h9) rfl hin rfl (by decide +kernel) rfl rfl (Nat.le_of_ble_eq_true rfl) dX4_init_73 (fun H locs hP hD hS => ?_)
  have hP : va_P D vwCl [(h0, .inr (4, [.ref q7, .ref q15, .ref q23, .ref q31, .ref q39, .int (nI 0), .ref q53, .ref q62, .ref q71, .null, .null, .int 0])), (q7, .inl (ct 1, 20, .inr (.inl (fun _ => 0)))), (q15, .inl (ct 0, 20, .inl (fun _ => 0))), (q23, .inl (ct 0, 20, .inl (fun _ => 0))), (q31, .inl (ct 0, 20, .inl (fun _ => 0))), (q39, .inl (ct 0, 20, .inl (fun _ => 0))), (q53, .inl (ct 0, 800, .inl (fun _ => 0))), (q62, .inl (ct 0, 800, .inl (fun _ => 0))), (q71, .inl (ct 0, 800, .inl (fun _ => 0)))] H := hP
  have hD : va_D A [(h0, .inr (4, [.ref q7, .ref q15, .ref q23, .ref q31, .ref q39, .int (nI 0), .ref q53, .ref q62, .ref q71, .null, .null, .int 0])), (q7, .inl (ct 1, 20, .inr (.inl (fun _ => 0)))), (q15, .inl (ct 0, 20, .inl (fun _ => 0))), (q23, .inl (ct 0, 20, .inl (fun _ => 0))), (q31, .inl (ct 0, 20, .inl (fun _ => 0))), (q39, .inl (ct 0, 20, .inl (fun _ => 0))), (q53, .inl (ct 0, 800, .inl (fun _ => 0))), (q62, .inl (ct 0, 800, .inl (fun _ => 0))), (q71, .inl (ct 0, 800, .inl (fun _ => 0)))] := hD
  refine lv_aload_n hx hb dX4_init_76 rfl (lv_at hl 0 rfl) ?_
  refine lv_sipush (v := (nI 800)) hx hb dX4_init_77 (by decide) ?_
  refine zz_newa (atype := .long) (ty := .long) (n := (nI 800)) (N' := 800) (a0 := (800, .inr (.inl (fun _ => 0)))) hx hb (hT _ mA_long) rfl hK hP hD hS hA 1 rfl (fun _ => rfl) (by decide) (by decide) (Nat.le_of_ble_eq_true rfl) (Nat.le_of_ble_eq_true rfl) (Nat.le_of_ble_eq_true rfl) dX4_init_80 (fun q80 H hP hD hS => ?_)
  have hP : va_P D vwCl [(h0, .inr (4, [.ref q7, .ref q15, .ref q23, .ref q31, .ref q39, .int (nI 0), .ref q53, .ref q62, .ref q71, .null, .null, .int 0])), (q7, .inl (ct 1, 20, .inr (.inl (fun _ => 0)))), (q15, .inl (ct 0, 20, .inl (fun _ => 0))), (q23, .inl (ct 0, 20, .inl (fun _ => 0))), (q31, .inl (ct 0, 20, .inl (fun _ => 0))), (q39, .inl (ct 0, 20, .inl (fun _ => 0))), (q53, .inl (ct 0, 800, .inl (fun _ => 0))), (q62, .inl (ct 0, 800, .inl (fun _ => 0))), (q71, .inl (ct 0, 800, .inl (fun _ => 0))), (q80, .inl (ct 1, 800, .inr (.inl (fun _ => 0))))] H := hP
  have hD : va_D A [(h0, .inr (4, [.ref q7, .ref q15, .ref q23, .ref q31, .ref q39, .int (nI 0), .ref q53, .ref q62, .ref q71, .null, .null, .int 0])), (q7, .inl (ct 1, 20, .inr (.inl (fun _ => 0)))), (q15, .inl (ct 0, 20, .inl (fun _ => 0))), (q23, .inl (ct 0, 20, .inl (fun _ => 0))), (q31, .inl (ct 0, 20, .inl (fun _ => 0))), (q39, .inl (ct 0, 20, .inl (fun _ => 0))), (q53, .inl (ct 0, 800, .inl (fun _ => 0))), (q62, .inl (ct 0, 800, .inl (fun _ => 0))), (q71, .inl (ct 0, 800, .inl (fun _ => 0))), (q80, .inl (ct 1, 800, .inr (.inl (fun _ => 0))))] := hD
  refine va_putF (D := D) (ci := 4) (v := .ref q80) (ty := .array .long) (C := RX4) (T := TX4) (N := 12) hx hb hT mU_X4 tyX4 tyX4_ok nmX4 hown hK hP hD hS 0 rfl rfl 9 (by decide) (hT _ mF_X4_41) (fun _ h9 => h9) rfl hin rfl (by decide +kernel) rfl rfl (Nat.le_of_ble_eq_true rfl) dX4_init_82 (fun H locs hP hD hS => ?_)
  have hP : va_P D vwCl [(h0, .inr (4, [.ref q7, .ref q15, .ref q23, .ref q31, .ref q39, .int (nI 0), .ref q53, .ref q62, .ref q71, .ref q80, .null, .int 0])), (q7, .inl (ct 1, 20, .inr (.inl (fun _ => 0)))), (q15, .inl (ct 0, 20, .inl (fun _ => 0))), (q23, .inl (ct 0, 20, .inl (fun _ => 0))), (q31, .inl (ct 0, 20, .inl (fun _ => 0))), (q39, .inl (ct 0, 20, .inl (fun _ => 0))), (q53, .inl (ct 0, 800, .inl (fun _ => 0))), (q62, .inl (ct 0, 800, .inl (fun _ => 0))), (q71, .inl (ct 0, 800, .inl (fun _ => 0))), (q80, .inl (ct 1, 800, .inr (.inl (fun _ => 0))))] H := hP
  have hD : va_D A [(h0, .inr (4, [.ref q7, .ref q15, .ref q23, .ref q31, .ref q39, .int (nI 0), .ref q53, .ref q62, .ref q71, .ref q80, .null, .int 0])), (q7, .inl (ct 1, 20, .inr (.inl (fun _ => 0)))), (q15, .inl (ct 0, 20, .inl (fun _ => 0))), (q23, .inl (ct 0, 20, .inl (fun _ => 0))), (q31, .inl (ct 0, 20, .inl (fun _ => 0))), (q39, .inl (ct 0, 20, .inl (fun _ => 0))), (q53, .inl (ct 0, 800, .inl (fun _ => 0))), (q62, .inl (ct 0, 800, .inl (fun _ => 0))), (q71, .inl (ct 0, 800, .inl (fun _ => 0))), (q80, .inl (ct 1, 800, .inr (.inl (fun _ => 0))))] := hD
  refine lv_aload_n hx hb dX4_init_85 rfl (lv_at hl 0 rfl) ?_
  refine lv_sipush (v := (nI 800)) hx hb dX4_init_86 (by decide) ?_
  refine zz_newa (atype := .int) (ty := .int) (n := (nI 800)) (N' := 800) (a0 := (800, .inl (fun _ => 0))) hx hb (hT _ mA_int) rfl hK hP hD hS hA 0 rfl (fun _ => rfl) (by decide) (by decide) (Nat.le_of_ble_eq_true rfl) (Nat.le_of_ble_eq_true rfl) (Nat.le_of_ble_eq_true rfl) dX4_init_89 (fun q89 H hP hD hS => ?_)
  have hP : va_P D vwCl [(h0, .inr (4, [.ref q7, .ref q15, .ref q23, .ref q31, .ref q39, .int (nI 0), .ref q53, .ref q62, .ref q71, .ref q80, .null, .int 0])), (q7, .inl (ct 1, 20, .inr (.inl (fun _ => 0)))), (q15, .inl (ct 0, 20, .inl (fun _ => 0))), (q23, .inl (ct 0, 20, .inl (fun _ => 0))), (q31, .inl (ct 0, 20, .inl (fun _ => 0))), (q39, .inl (ct 0, 20, .inl (fun _ => 0))), (q53, .inl (ct 0, 800, .inl (fun _ => 0))), (q62, .inl (ct 0, 800, .inl (fun _ => 0))), (q71, .inl (ct 0, 800, .inl (fun _ => 0))), (q80, .inl (ct 1, 800, .inr (.inl (fun _ => 0)))), (q89, .inl (ct 0, 800, .inl (fun _ => 0)))] H := hP
  have hD : va_D A [(h0, .inr (4, [.ref q7, .ref q15, .ref q23, .ref q31, .ref q39, .int (nI 0), .ref q53, .ref q62, .ref q71, .ref q80, .null, .int 0])), (q7, .inl (ct 1, 20, .inr (.inl (fun _ => 0)))), (q15, .inl (ct 0, 20, .inl (fun _ => 0))), (q23, .inl (ct 0, 20, .inl (fun _ => 0))), (q31, .inl (ct 0, 20, .inl (fun _ => 0))), (q39, .inl (ct 0, 20, .inl (fun _ => 0))), (q53, .inl (ct 0, 800, .inl (fun _ => 0))), (q62, .inl (ct 0, 800, .inl (fun _ => 0))), (q71, .inl (ct 0, 800, .inl (fun _ => 0))), (q80, .inl (ct 1, 800, .inr (.inl (fun _ => 0)))), (q89, .inl (ct 0, 800, .inl (fun _ => 0)))] := hD
  refine va_putF (D := D) (ci := 4) (v := .ref q89) (ty := .array .int) (C := RX4) (T := TX4) (N := 12) hx hb hT mU_X4 tyX4 tyX4_ok nmX4 hown hK hP hD hS 0 rfl rfl 10 (by decide) (hT _ mF_X4_44) (fun _ h9 => h9) rfl hin rfl (by decide +kernel) rfl rfl (Nat.le_of_ble_eq_true rfl) dX4_init_91 (fun H locs hP hD hS => ?_)
  have hP : va_P D vwCl [(h0, .inr (4, [.ref q7, .ref q15, .ref q23, .ref q31, .ref q39, .int (nI 0), .ref q53, .ref q62, .ref q71, .ref q80, .ref q89, .int 0])), (q7, .inl (ct 1, 20, .inr (.inl (fun _ => 0)))), (q15, .inl (ct 0, 20, .inl (fun _ => 0))), (q23, .inl (ct 0, 20, .inl (fun _ => 0))), (q31, .inl (ct 0, 20, .inl (fun _ => 0))), (q39, .inl (ct 0, 20, .inl (fun _ => 0))), (q53, .inl (ct 0, 800, .inl (fun _ => 0))), (q62, .inl (ct 0, 800, .inl (fun _ => 0))), (q71, .inl (ct 0, 800, .inl (fun _ => 0))), (q80, .inl (ct 1, 800, .inr (.inl (fun _ => 0)))), (q89, .inl (ct 0, 800, .inl (fun _ => 0)))] H := hP
  have hD : va_D A [(h0, .inr (4, [.ref q7, .ref q15, .ref q23, .ref q31, .ref q39, .int (nI 0), .ref q53, .ref q62, .ref q71, .ref q80, .ref q89, .int 0])), (q7, .inl (ct 1, 20, .inr (.inl (fun _ => 0)))), (q15, .inl (ct 0, 20, .inl (fun _ => 0))), (q23, .inl (ct 0, 20, .inl (fun _ => 0))), (q31, .inl (ct 0, 20, .inl (fun _ => 0))), (q39, .inl (ct 0, 20, .inl (fun _ => 0))), (q53, .inl (ct 0, 800, .inl (fun _ => 0))), (q62, .inl (ct 0, 800, .inl (fun _ => 0))), (q71, .inl (ct 0, 800, .inl (fun _ => 0))), (q80, .inl (ct 1, 800, .inr (.inl (fun _ => 0)))), (q89, .inl (ct 0, 800, .inl (fun _ => 0)))] := hD
  refine lv_aload_n hx hb dX4_init_94 rfl (lv_at hl 0 rfl) ?_
  refine lv_iconst (v := (nI 0)) hx hb dX4_init_95 (by decide) ?_
  refine va_put (D := D) (ci := 4) (v := .int (nI 0)) (ty := .int) (C := RX4) (T := TX4) (N := 12) hx hb hT mU_X4 tyX4 tyX4_ok nmX4 hown hK hP hD hS 0 rfl rfl 11 (by decide) (hT _ mF_X4_47) (fun _ h9 => h9) rfl (by decide +kernel) rfl rfl (Nat.le_of_ble_eq_true rfl) dX4_init_96 (fun H locs hP hD hS => ?_)
  have hP : va_P D vwCl [(h0, .inr (4, [.ref q7, .ref q15, .ref q23, .ref q31, .ref q39, .int (nI 0), .ref q53, .ref q62, .ref q71, .ref q80, .ref q89, .int (nI 0)])), (q7, .inl (ct 1, 20, .inr (.inl (fun _ => 0)))), (q15, .inl (ct 0, 20, .inl (fun _ => 0))), (q23, .inl (ct 0, 20, .inl (fun _ => 0))), (q31, .inl (ct 0, 20, .inl (fun _ => 0))), (q39, .inl (ct 0, 20, .inl (fun _ => 0))), (q53, .inl (ct 0, 800, .inl (fun _ => 0))), (q62, .inl (ct 0, 800, .inl (fun _ => 0))), (q71, .inl (ct 0, 800, .inl (fun _ => 0))), (q80, .inl (ct 1, 800, .inr (.inl (fun _ => 0)))), (q89, .inl (ct 0, 800, .inl (fun _ => 0)))] H := hP
  have hD : va_D A [(h0, .inr (4, [.ref q7, .ref q15, .ref q23, .ref q31, .ref q39, .int (nI 0), .ref q53, .ref q62, .ref q71, .ref q80, .ref q89, .int (nI 0)])), (q7, .inl (ct 1, 20, .inr (.inl (fun _ => 0)))), (q15, .inl (ct 0, 20, .inl (fun _ => 0))), (q23, .inl (ct 0, 20, .inl (fun _ => 0))), (q31, .inl (ct 0, 20, .inl (fun _ => 0))), (q39, .inl (ct 0, 20, .inl (fun _ => 0))), (q53, .inl (ct 0, 800, .inl (fun _ => 0))), (q62, .inl (ct 0, 800, .inl (fun _ => 0))), (q71, .inl (ct 0, 800, .inl (fun _ => 0))), (q80, .inl (ct 1, 800, .inr (.inl (fun _ => 0)))), (q89, .inl (ct 0, 800, .inl (fun _ => 0)))] := hD
  refine W.widen (k := 10) (n := 4100) (Nat.le_of_ble_eq_true rfl) (Nat.le_of_ble_eq_true rfl) ?_
  exact W.vret hx hb hr (fun t ht hW => ⟨⟨fun k => ([q7, q15, q23, q31, q39, q53, q62, q71, q80, q89] : List Nat).getD k 0, rfl, trivial, by rw [ht]; exact hP, va_K.moved hW.alike hK, hD⟩, hS.F ht⟩) hS.2.2 dX4_init_99 hlocks
theorem hdiX5 : yX5_init.cls ≠ "java/lang/invoke/MethodHandle" ∧ yX5_init.cls ≠ "java/lang/invoke/VarHandle" ∧ (parseMethodDescriptor yX5_init.desc).map (fun d => d.parameters.length) = some 2 := by decide +kernel
abbrev vX5_init : List Cond := Cond.code yX5_init cX5_init 3 none :: zTB
/-- the cells behind the constructor: the object, what it made -/
def wX5 (ct : Nat → ClassId) (h0 : Nat) (p0 : Nat) (p1 : Nat) (q : Nat → Nat) : va_W := [(h0, .inr (5, [.ref p0, .ref p1, .ref (q 0), .ref (q 1), .int (nI 0), .int (nI 0)])), ((q 0), .inl (ct 1, 8, .inr (.inl (fun _ => 0)))), ((q 1), .inl (ct 1, 72, .inr (.inl (fun _ => 0))))]
set_option maxHeartbeats 8000000 in
set_option maxRecDepth 100000 in
theorem iX5 (l : Launch) (D : va_G) (ct : Nat → ClassId) (h0 : Nat) (p0 : Nat) (p1 : Nat) (sz : Nat) : Met l yX5_init vX5_init { frames := 1, cells := 2, slots := 80, locals := 12 } (va_Pc [.ref h0, .ref p0, .ref p1] (fun U => U.heap.size = sz ∧ va_P D vwCl [(h0, .inr (5, [.null, .null, .null, .null, .int 0, .int 0]))] U.heap ∧ va_K D vwCl (ztc ct) U ∧ va_D (fun _ => True) [(h0, .inr (5, [.null, .null, .null, .null, .int 0, .int 0]))])) (va_Qv (fun _ : Nat → Nat => True) (fun q t => va_P D vwCl (wX5 ct h0 p0 p1 q) t.heap ∧ va_K D vwCl (ztc ct) t ∧ va_D (va_A [(h0, .inr (5, [.null, .null, .null, .null, .int 0, .int 0]))] sz) (wX5 ct h0 p0 p1 q)) (va_A [(h0, .inr (5, [.null, .null, .null, .null, .int 0, .int 0]))] sz)) 2 80 (va_A [(h0, .inr (5, [.null, .null, .null, .null, .int 0, .int 0]))] sz) := by
  refine Met.ofW (cc := cX5_init) (maxL := 3) (ret := none) (by decide) rfl ?_
  intro p e s m args below meth c s₁ B hml hv
  obtain ⟨rfl, hsz, hP, hK, hD0⟩ := hv
  have hx := B.exec
  have hb := B.bytes
  have hr := B.returns
  have hts := atoms_spec (ws := vX5_init) B.pre
  have hT : ∀ w ∈ zTB, w.before ([.ref h0, .ref p0, .ref p1] : List Value).toArray s = true := fun w h => hts w (List.mem_cons_of_mem _ h)
  have hown : s.vm.findClass RX5 = some m.cls := findClass_of_methodNamed B.named
  have hlocks := B.notSynchronized
  have hin : meth.name = "<init>" := (name_of_methodNamed B.named B.method).1
  subst hsz
  have hD := hD0.self (sz := s.heap.size)
  generalize hAe : va_A [(h0, .inr (5, [.null, .null, .null, .null, .int 0, .int 0]))] s.heap.size = A at hD ⊢
  have hA : ∀ q : Nat, s.heap.size ≤ q → A q := fun q h => by rw [← hAe]; exact Or.inr h
  have hS : va_S A s.heap s.heap [] := va_S.rf
  have hP : va_P D vwCl [(h0, .inr (5, [.null, .null, .null, .null, .int 0, .int 0]))] s.heap := hP
  have hl := lv_entry ([.ref h0, .ref p0, .ref p1] : List Value) (n := 3) (Nat.le_of_ble_eq_true rfl)
  rw [lg_entry_eq]
  generalize (lg_sl ([.ref h0, .ref p0, .ref p1] : List Value) ++ List.replicate (3 - (lg_sl ([.ref h0, .ref p0, .ref p1] : List Value)).length) Slot.unset).toArray = ls at hl ⊢
  have hl : lv_has ls 3 [(0, .ref h0), (1, .ref p0), (2, .ref p1)] := hl
  refine lv_aload_n hx hb dX5_init_0 rfl (lv_at hl 0 rfl) ?_
  refine W.objInit hx hb hown (hT _ mL_X5_3) (hT _ mI_Obj) (hT _ mC_Obj) rfl (by rw [hml]; exact hl.1) rfl dX5_init_1 (Nat.le_of_ble_eq_true rfl) (Nat.le_of_ble_eq_true rfl) ?_
  refine W.eq (g2 := F0 m 4 ls []) rfl ?_
  refine lv_aload_n hx hb dX5_init_4 rfl (lv_at hl 0 rfl) ?_
  refine lv_bipush (v := (nI 8)) hx hb dX5_init_5 (by decide) ?_
  refine zz_newa (atype := .long) (ty := .long) (n := (nI 8)) (N' := 8) (a0 := (8, .inr (.inl (fun _ => 0)))) hx hb (hT _ mA_long) rfl hK hP hD hS hA 1 rfl (fun _ => rfl) (by decide) (by decide) (Nat.le_of_ble_eq_true rfl) (Nat.le_of_ble_eq_true rfl) (Nat.le_of_ble_eq_true rfl) dX5_init_7 (fun q7 H hP hD hS => ?_)
  have hP : va_P D vwCl [(h0, .inr (5, [.null, .null, .null, .null, .int 0, .int 0])), (q7, .inl (ct 1, 8, .inr (.inl (fun _ => 0))))] H := hP
  have hD : va_D A [(h0, .inr (5, [.null, .null, .null, .null, .int 0, .int 0])), (q7, .inl (ct 1, 8, .inr (.inl (fun _ => 0))))] := hD
  refine va_putF (D := D) (ci := 5) (v := .ref q7) (ty := .array .long) (C := RX5) (T := TX5) (N := 6) hx hb hT mU_X5 tyX5 tyX5_ok nmX5 hown hK hP hD hS 0 rfl rfl 2 (by decide) (hT _ mF_X5_9) (fun _ h9 => h9) rfl hin rfl (by decide +kernel) rfl rfl (Nat.le_of_ble_eq_true rfl) dX5_init_9 (fun H locs hP hD hS => ?_)
  have hP : va_P D vwCl [(h0, .inr (5, [.null, .null, .ref q7, .null, .int 0, .int 0])), (q7, .inl (ct 1, 8, .inr (.inl (fun _ => 0))))] H := hP
  have hD : va_D A [(h0, .inr (5, [.null, .null, .ref q7, .null, .int 0, .int 0])), (q7, .inl (ct 1, 8, .inr (.inl (fun _ => 0))))] := hD
  refine lv_aload_n hx hb dX5_init_12 rfl (lv_at hl 0 rfl) ?_
  refine lv_bipush (v := (nI 72)) hx hb dX5_init_13 (by decide) ?_
  refine zz_newa (atype := .long) (ty := .long) (n := (nI 72)) (N' := 72) (a0 := (72, .inr (.inl (fun _ => 0)))) hx hb (hT _ mA_long) rfl hK hP hD hS hA 1 rfl (fun _ => rfl) (by decide) (by decide) (Nat.le_of_ble_eq_true rfl) (Nat.le_of_ble_eq_true rfl) (Nat.le_of_ble_eq_true rfl) dX5_init_15 (fun q15 H hP hD hS => ?_)
  have hP : va_P D vwCl [(h0, .inr (5, [.null, .null, .ref q7, .null, .int 0, .int 0])), (q7, .inl (ct 1, 8, .inr (.inl (fun _ => 0)))), (q15, .inl (ct 1, 72, .inr (.inl (fun _ => 0))))] H := hP
  have hD : va_D A [(h0, .inr (5, [.null, .null, .ref q7, .null, .int 0, .int 0])), (q7, .inl (ct 1, 8, .inr (.inl (fun _ => 0)))), (q15, .inl (ct 1, 72, .inr (.inl (fun _ => 0))))] := hD
  refine va_putF (D := D) (ci := 5) (v := .ref q15) (ty := .array .long) (C := RX5) (T := TX5) (N := 6) hx hb hT mU_X5 tyX5 tyX5_ok nmX5 hown hK hP hD hS 0 rfl rfl 3 (by decide) (hT _ mF_X5_15) (fun _ h9 => h9) rfl hin rfl (by decide +kernel) rfl rfl (Nat.le_of_ble_eq_true rfl) dX5_init_17 (fun H locs hP hD hS => ?_)
  have hP : va_P D vwCl [(h0, .inr (5, [.null, .null, .ref q7, .ref q15, .int 0, .int 0])), (q7, .inl (ct 1, 8, .inr (.inl (fun _ => 0)))), (q15, .inl (ct 1, 72, .inr (.inl (fun _ => 0))))] H := hP
  have hD : va_D A [(h0, .inr (5, [.null, .null, .ref q7, .ref q15, .int 0, .int 0])), (q7, .inl (ct 1, 8, .inr (.inl (fun _ => 0)))), (q15, .inl (ct 1, 72, .inr (.inl (fun _ => 0))))] := hD
  refine lv_aload_n hx hb dX5_init_20 rfl (lv_at hl 0 rfl) ?_
  refine lv_iconst (v := (nI 0)) hx hb dX5_init_21 (by decide) ?_
  refine va_put (D := D) (ci := 5) (v := .int (nI 0)) (ty := .int) (C := RX5) (T := TX5) (N := 6) hx hb hT mU_X5 tyX5 tyX5_ok nmX5 hown hK hP hD hS 0 rfl rfl 4 (by decide) (hT _ mF_X5_18) (fun _ h9 => h9) rfl (by decide +kernel) rfl rfl (Nat.le_of_ble_eq_true rfl) dX5_init_22 (fun H locs hP hD hS => ?_)
  have hP : va_P D vwCl [(h0, .inr (5, [.null, .null, .ref q7, .ref q15, .int (nI 0), .int 0])), (q7, .inl (ct 1, 8, .inr (.inl (fun _ => 0)))), (q15, .inl (ct 1, 72, .inr (.inl (fun _ => 0))))] H := hP
  have hD : va_D A [(h0, .inr (5, [.null, .null, .ref q7, .ref q15, .int (nI 0), .int 0])), (q7, .inl (ct 1, 8, .inr (.inl (fun _ => 0)))), (q15, .inl (ct 1, 72, .inr (.inl (fun _ => 0))))] := hD
  refine lv_aload_n hx hb dX5_init_25 rfl (lv_at hl 0 rfl) ?_
  refine lv_iconst (v := (nI 0)) hx hb dX5_init_26 (by decide) ?_
  refine va_put (D := D) (ci := 5) (v := .int (nI 0)) (ty := .int) (C := RX5) (T := TX5) (N := 6) hx hb hT mU_X5 tyX5 tyX5_ok nmX5 hown hK hP hD hS 0 rfl rfl 5 (by decide) (hT _ mF_X5_22) (fun _ h9 => h9) rfl (by decide +kernel) rfl rfl (Nat.le_of_ble_eq_true rfl) dX5_init_27 (fun H locs hP hD hS => ?_)
  have hP : va_P D vwCl [(h0, .inr (5, [.null, .null, .ref q7, .ref q15, .int (nI 0), .int (nI 0)])), (q7, .inl (ct 1, 8, .inr (.inl (fun _ => 0)))), (q15, .inl (ct 1, 72, .inr (.inl (fun _ => 0))))] H := hP
  have hD : va_D A [(h0, .inr (5, [.null, .null, .ref q7, .ref q15, .int (nI 0), .int (nI 0)])), (q7, .inl (ct 1, 8, .inr (.inl (fun _ => 0)))), (q15, .inl (ct 1, 72, .inr (.inl (fun _ => 0))))] := hD
  refine lv_aload_n hx hb dX5_init_30 rfl (lv_at hl 0 rfl) ?_
  refine lv_aload_n hx hb dX5_init_31 rfl (lv_at hl 1 rfl) ?_
  refine va_putF (D := D) (ci := 5) (v := .ref p0) (ty := .object "NeedSteps$Tokens") (C := RX5) (T := TX5) (N := 6) hx hb hT mU_X5 tyX5 tyX5_ok nmX5 hown hK hP hD hS 0 rfl rfl 0 (by decide) (hT _ mF_X5_25) (fun _ h9 => h9) rfl hin rfl (by decide +kernel) rfl rfl (Nat.le_of_ble_eq_true rfl) dX5_init_32 (fun H locs hP hD hS => ?_)
  have hP : va_P D vwCl [(h0, .inr (5, [.ref p0, .null, .ref q7, .ref q15, .int (nI 0), .int (nI 0)])), (q7, .inl (ct 1, 8, .inr (.inl (fun _ => 0)))), (q15, .inl (ct 1, 72, .inr (.inl (fun _ => 0))))] H := hP
  have hD : va_D A [(h0, .inr (5, [.ref p0, .null, .ref q7, .ref q15, .int (nI 0), .int (nI 0)])), (q7, .inl (ct 1, 8, .inr (.inl (fun _ => 0)))), (q15, .inl (ct 1, 72, .inr (.inl (fun _ => 0))))] := hD
  refine lv_aload_n hx hb dX5_init_35 rfl (lv_at hl 0 rfl) ?_
  refine lv_aload_n hx hb dX5_init_36 rfl (lv_at hl 2 rfl) ?_
  refine va_putF (D := D) (ci := 5) (v := .ref p1) (ty := .object "NeedSteps$Program") (C := RX5) (T := TX5) (N := 6) hx hb hT mU_X5 tyX5 tyX5_ok nmX5 hown hK hP hD hS 0 rfl rfl 1 (by decide) (hT _ mF_X5_29) (fun _ h9 => h9) rfl hin rfl (by decide +kernel) rfl rfl (Nat.le_of_ble_eq_true rfl) dX5_init_37 (fun H locs hP hD hS => ?_)
  have hP : va_P D vwCl [(h0, .inr (5, [.ref p0, .ref p1, .ref q7, .ref q15, .int (nI 0), .int (nI 0)])), (q7, .inl (ct 1, 8, .inr (.inl (fun _ => 0)))), (q15, .inl (ct 1, 72, .inr (.inl (fun _ => 0))))] H := hP
  have hD : va_D A [(h0, .inr (5, [.ref p0, .ref p1, .ref q7, .ref q15, .int (nI 0), .int (nI 0)])), (q7, .inl (ct 1, 8, .inr (.inl (fun _ => 0)))), (q15, .inl (ct 1, 72, .inr (.inl (fun _ => 0))))] := hD
  refine W.widen (k := 2) (n := 80) (Nat.le_of_ble_eq_true rfl) (Nat.le_of_ble_eq_true rfl) ?_
  exact W.vret hx hb hr (fun t ht hW => ⟨⟨fun k => ([q7, q15] : List Nat).getD k 0, rfl, trivial, by rw [ht]; exact hP, va_K.moved hW.alike hK, hD⟩, hS.F ht⟩) hS.2.2 dX5_init_40 hlocks
theorem hdiX0 : yX0_init.cls ≠ "java/lang/invoke/MethodHandle" ∧ yX0_init.cls ≠ "java/lang/invoke/VarHandle" ∧ (parseMethodDescriptor yX0_init.desc).map (fun d => d.parameters.length) = some 0 := by decide +kernel
abbrev vX0_init : List Cond := Cond.code yX0_init cX0_init 1 none :: zTB
/-- the cells behind the constructor: the object, what it made -/
def wX0 (ct : Nat → ClassId) (h0 : Nat) (q : Nat → Nat) : va_W := [(h0, .inr (0, [.ref (q 0), .ref (q 1), .ref (q 2), .ref (q 3), .int (nI 0), .int (nI 0), .int (nI 0), .int (nI 0), .int (-3 : Int32)])), ((q 0), .inl (ct 0, 400, .inl (fun _ => 0))), ((q 1), .inl (ct 0, 400, .inl (fun _ => 0))), ((q 2), .inl (ct 0, 400, .inl (fun _ => 0))), ((q 3), .inl (ct 0, 400, .inl (fun _ => 0)))]
set_option maxHeartbeats 8000000 in
set_option maxRecDepth 100000 in
theorem iX0 (l : Launch) (D : va_G) (ct : Nat → ClassId) (h0 : Nat) (sz : Nat) : Met l yX0_init vX0_init { frames := 1, cells := 4, slots := 1600, locals := 12 } (va_Pc [.ref h0] (fun U => U.heap.size = sz ∧ va_P D vwCl [(h0, .inr (0, [.null, .null, .null, .null, .int 0, .int 0, .int 0, .int 0, .int 0]))] U.heap ∧ va_K D vwCl (ztc ct) U ∧ va_D (fun _ => True) [(h0, .inr (0, [.null, .null, .null, .null, .int 0, .int 0, .int 0, .int 0, .int 0]))])) (va_Qv (fun _ : Nat → Nat => True) (fun q t => va_P D vwCl (wX0 ct h0 q) t.heap ∧ va_K D vwCl (ztc ct) t ∧ va_D (va_A [(h0, .inr (0, [.null, .null, .null, .null, .int 0, .int 0, .int 0, .int 0, .int 0]))] sz) (wX0 ct h0 q)) (va_A [(h0, .inr (0, [.null, .null, .null, .null, .int 0, .int 0, .int 0, .int 0, .int 0]))] sz)) 4 1600 (va_A [(h0, .inr (0, [.null, .null, .null, .null, .int 0, .int 0, .int 0, .int 0, .int 0]))] sz) := by
  refine Met.ofW (cc := cX0_init) (maxL := 1) (ret := none) (by decide) rfl ?_
  intro p e s m args below meth c s₁ B hml hv
  obtain ⟨rfl, hsz, hP, hK, hD0⟩ := hv
  have hx := B.exec
  have hb := B.bytes
  have hr := B.returns
  have hts := atoms_spec (ws := vX0_init) B.pre
  have hT : ∀ w ∈ zTB, w.before ([.ref h0] : List Value).toArray s = true := fun w h => hts w (List.mem_cons_of_mem _ h)
  have hown : s.vm.findClass RX0 = some m.cls := findClass_of_methodNamed B.named
  have hlocks := B.notSynchronized
  have hin : meth.name = "<init>" := (name_of_methodNamed B.named B.method).1
  subst hsz
  have hD := hD0.self (sz := s.heap.size)
  generalize hAe : va_A [(h0, .inr (0, [.null, .null, .null, .null, .int 0, .int 0, .int 0, .int 0, .int 0]))] s.heap.size = A at hD ⊢
  have hA : ∀ q : Nat, s.heap.size ≤ q → A q := fun q h => by rw [← hAe]; exact Or.inr h
  have hS : va_S A s.heap s.heap [] := va_S.rf
  have hP : va_P D vwCl [(h0, .inr (0, [.null, .null, .null, .null, .int 0, .int 0, .int 0, .int 0, .int 0]))] s.heap := hP
  have hl := lv_entry ([.ref h0] : List Value) (n := 1) (Nat.le_of_ble_eq_true rfl)
  rw [lg_entry_eq]
  generalize (lg_sl ([.ref h0] : List Value) ++ List.replicate (1 - (lg_sl ([.ref h0] : List Value)).length) Slot.unset).toArray = ls at hl ⊢
  have hl : lv_has ls 1 [(0, .ref h0)] := hl
  refine lv_aload_n hx hb dX0_init_0 rfl (lv_at hl 0 rfl) ?_
  refine W.objInit hx hb hown (hT _ mL_X0_3) (hT _ mI_Obj) (hT _ mC_Obj) rfl (by rw [hml]; exact hl.1) rfl dX0_init_1 (Nat.le_of_ble_eq_true rfl) (Nat.le_of_ble_eq_true rfl) ?_
  refine W.eq (g2 := F0 m 4 ls []) rfl ?_
  refine lv_aload_n hx hb dX0_init_4 rfl (lv_at hl 0 rfl) ?_
  refine lv_sipush (v := (nI 400)) hx hb dX0_init_5 (by decide) ?_
  refine zz_newa (atype := .int) (ty := .int) (n := (nI 400)) (N' := 400) (a0 := (400, .inl (fun _ => 0))) hx hb (hT _ mA_int) rfl hK hP hD hS hA 0 rfl (fun _ => rfl) (by decide) (by decide) (Nat.le_of_ble_eq_true rfl) (Nat.le_of_ble_eq_true rfl) (Nat.le_of_ble_eq_true rfl) dX0_init_8 (fun q8 H hP hD hS => ?_)
  have hP : va_P D vwCl [(h0, .inr (0, [.null, .null, .null, .null, .int 0, .int 0, .int 0, .int 0, .int 0])), (q8, .inl (ct 0, 400, .inl (fun _ => 0)))] H := hP
  have hD : va_D A [(h0, .inr (0, [.null, .null, .null, .null, .int 0, .int 0, .int 0, .int 0, .int 0])), (q8, .inl (ct 0, 400, .inl (fun _ => 0)))] := hD
  refine va_putF (D := D) (ci := 0) (v := .ref q8) (ty := .array .int) (C := RX0) (T := TX0) (N := 9) hx hb hT mU_X0 tyX0 tyX0_ok nmX0 hown hK hP hD hS 0 rfl rfl 0 (by decide) (hT _ mF_X0_9) (fun _ h9 => h9) rfl hin rfl (by decide +kernel) rfl rfl (Nat.le_of_ble_eq_true rfl) dX0_init_10 (fun H locs hP hD hS => ?_)
  have hP : va_P D vwCl [(h0, .inr (0, [.ref q8, .null, .null, .null, .int 0, .int 0, .int 0, .int 0, .int 0])), (q8, .inl (ct 0, 400, .inl (fun _ => 0)))] H := hP
  have hD : va_D A [(h0, .inr (0, [.ref q8, .null, .null, .null, .int 0, .int 0, .int 0, .int 0, .int 0])), (q8, .inl (ct 0, 400, .inl (fun _ => 0)))] := hD
  refine lv_aload_n hx hb dX0_init_13 rfl (lv_at hl 0 rfl) ?_
  refine lv_sipush (v := (nI 400)) hx hb dX0_init_14 (by decide) ?_
  refine zz_newa (atype := .int) (ty := .int) (n := (nI 400)) (N' := 400) (a0 := (400, .inl (fun _ => 0))) hx hb (hT _ mA_int) rfl hK hP hD hS hA 0 rfl (fun _ => rfl) (by decide) (by decide) (Nat.le_of_ble_eq_true rfl) (Nat.le_of_ble_eq_true rfl) (Nat.le_of_ble_eq_true rfl) dX0_init_17 (fun q17 H hP hD hS => ?_)
  have hP : va_P D vwCl [(h0, .inr (0, [.ref q8, .null, .null, .null, .int 0, .int 0, .int 0, .int 0, .int 0])), (q8, .inl (ct 0, 400, .inl (fun _ => 0))), (q17, .inl (ct 0, 400, .inl (fun _ => 0)))] H := hP
  have hD : va_D A [(h0, .inr (0, [.ref q8, .null, .null, .null, .int 0, .int 0, .int 0, .int 0, .int 0])), (q8, .inl (ct 0, 400, .inl (fun _ => 0))), (q17, .inl (ct 0, 400, .inl (fun _ => 0)))] := hD
  refine va_putF (D := D) (ci := 0) (v := .ref q17) (ty := .array .int) (C := RX0) (T := TX0) (N := 9) hx hb hT mU_X0 tyX0 tyX0_ok nmX0 hown hK hP hD hS 0 rfl rfl 1 (by decide) (hT _ mF_X0_15) (fun _ h9 => h9) rfl hin rfl (by decide +kernel) rfl rfl (Nat.le_of_ble_eq_true rfl) dX0_init_19 (fun H locs hP hD hS => ?_)
  have hP : va_P D vwCl [(h0, .inr (0, [.ref q8, .ref q17, .null, .null, .int 0, .int 0, .int 0, .int 0, .int 0])), (q8, .inl (ct 0, 400, .inl (fun _ => 0))), (q17, .inl (ct 0, 400, .inl (fun _ => 0)))] H := hP
  have hD : va_D A [(h0, .inr (0, [.ref q8, .ref q17, .null, .null, .int 0, .int 0, .int 0, .int 0, .int 0])), (q8, .inl (ct 0, 400, .inl (fun _ => 0))), (q17, .inl (ct 0, 400, .inl (fun _ => 0)))] := hD
  refine lv_aload_n hx hb dX0_init_22 rfl (lv_at hl 0 rfl) ?_
  refine lv_sipush (v := (nI 400)) hx hb dX0_init_23 (by decide) ?_
  refine zz_newa (atype := .int) (ty := .int) (n := (nI 400)) (N' := 400) (a0 := (400, .inl (fun _ => 0))) hx hb (hT _ mA_int) rfl hK hP hD hS hA 0 rfl (fun _ => rfl) (by decide) (by decide) (Nat.le_of_ble_eq_true rfl) (Nat.le_of_ble_eq_true rfl) (Nat.le_of_ble_eq_true rfl) dX0_init_26 (fun q26 H hP hD hS => ?_)
  have hP : va_P D vwCl [(h0, .inr (0, [.ref q8, .ref q17, .null, .null, .int 0, .int 0, .int 0, .int 0, .int 0])), (q8, .inl (ct 0, 400, .inl (fun _ => 0))), (q17, .inl (ct 0, 400, .inl (fun _ => 0))), (q26, .inl (ct 0, 400, .inl (fun _ => 0)))] H := hP
  have hD : va_D A [(h0, .inr (0, [.ref q8, .ref q17, .null, .null, .int 0, .int 0, .int 0, .int 0, .int 0])), (q8, .inl (ct 0, 400, .inl (fun _ => 0))), (q17, .inl (ct 0, 400, .inl (fun _ => 0))), (q26, .inl (ct 0, 400, .inl (fun _ => 0)))] := hD
  refine va_putF (D := D) (ci := 0) (v := .ref q26) (ty := .array .int) (C := RX0) (T := TX0) (N := 9) hx hb hT mU_X0 tyX0 tyX0_ok nmX0 hown hK hP hD hS 0 rfl rfl 2 (by decide) (hT _ mF_X0_18) (fun _ h9 => h9) rfl hin rfl (by decide +kernel) rfl rfl (Nat.le_of_ble_eq_true rfl) dX0_init_28 (fun H locs hP hD hS => ?_)
  have hP : va_P D vwCl [(h0, .inr (0, [.ref q8, .ref q17, .ref q26, .null, .int 0, .int 0, .int 0, .int 0, .int 0])), (q8, .inl (ct 0, 400, .inl (fun _ => 0))), (q17, .inl (ct 0, 400, .inl (fun _ => 0))), (q26, .inl (ct 0, 400, .inl (fun _ => 0)))] H := hP
  have hD : va_D A [(h0, .inr (0, [.ref q8, .ref q17, .ref q26, .null, .int 0, .int 0, .int 0, .int 0, .int 0])), (q8, .inl (ct 0, 400, .inl (fun _ => 0))), (q17, .inl (ct 0, 400, .inl (fun _ => 0))), (q26, .inl (ct 0, 400, .inl (fun _ => 0)))] := hD
  refine lv_aload_n hx hb dX0_init_31 rfl (lv_at hl 0 rfl) ?_
  refine lv_sipush (v := (nI 400)) hx hb dX0_init_32 (by decide) ?_
  refine zz_newa (atype := .int) (ty := .int) (n := (nI 400)) (N' := 400) (a0 := (400, .inl (fun _ => 0))) hx hb (hT _ mA_int) rfl hK hP hD hS hA 0 rfl (fun _ => rfl) (by decide) (by decide) (Nat.le_of_ble_eq_true rfl) (Nat.le_of_ble_eq_true rfl) (Nat.le_of_ble_eq_true rfl) dX0_init_35 (fun q35 H hP hD hS => ?_)
  have hP : va_P D vwCl [(h0, .inr (0, [.ref q8, .ref q17, .ref q26, .null, .int 0, .int 0, .int 0, .int 0, .int 0])), (q8, .inl (ct 0, 400, .inl (fun _ => 0))), (q17, .inl (ct 0, 400, .inl (fun _ => 0))), (q26, .inl (ct 0, 400, .inl (fun _ => 0))), (q35, .inl (ct 0, 400, .inl (fun _ => 0)))] H := hP
  have hD : va_D A [(h0, .inr (0, [.ref q8, .ref q17, .ref q26, .null, .int 0, .int 0, .int 0, .int 0, .int 0])), (q8, .inl (ct 0, 400, .inl (fun _ => 0))), (q17, .inl (ct 0, 400, .inl (fun _ => 0))), (q26, .inl (ct 0, 400, .inl (fun _ => 0))), (q35, .inl (ct 0, 400, .inl (fun _ => 0)))] := hD
  refine va_putF (D := D) (ci := 0) (v := .ref q35) (ty := .array .int) (C := RX0) (T := TX0) (N := 9) hx hb hT mU_X0 tyX0 tyX0_ok nmX0 hown hK hP hD hS 0 rfl rfl 3 (by decide) (hT _ mF_X0_21) (fun _ h9 => h9) rfl hin rfl (by decide +kernel) rfl rfl (Nat.le_of_ble_eq_true rfl) dX0_init_37 (fun H locs hP hD hS => ?_)
  have hP : va_P D vwCl [(h0, .inr (0, [.ref q8, .ref q17, .ref q26, .ref q35, .int 0, .int 0, .int 0, .int 0, .int 0])), (q8, .inl (ct 0, 400, .inl (fun _ => 0))), (q17, .inl (ct 0, 400, .inl (fun _ => 0))), (q26, .inl (ct 0, 400, .inl (fun _ => 0))), (q35, .inl (ct 0, 400, .inl (fun _ => 0)))] H := hP
  have hD : va_D A [(h0, .inr (0, [.ref q8, .ref q17, .ref q26, .ref q35, .int 0, .int 0, .int 0, .int 0, .int 0])), (q8, .inl (ct 0, 400, .inl (fun _ => 0))), (q17, .inl (ct 0, 400, .inl (fun _ => 0))), (q26, .inl (ct 0, 400, .inl (fun _ => 0))), (q35, .inl (ct 0, 400, .inl (fun _ => 0)))] := hD
  refine lv_aload_n hx hb dX0_init_40 rfl (lv_at hl 0 rfl) ?_
  refine lv_iconst (v := (nI 0)) hx hb dX0_init_41 (by decide) ?_
  refine va_put (D := D) (ci := 0) (v := .int (nI 0)) (ty := .int) (C := RX0) (T := TX0) (N := 9) hx hb hT mU_X0 tyX0 tyX0_ok nmX0 hown hK hP hD hS 0 rfl rfl 4 (by decide) (hT _ mF_X0_24) (fun _ h9 => h9) rfl (by decide +kernel) rfl rfl (Nat.le_of_ble_eq_true rfl) dX0_init_42 (fun H locs hP hD hS => ?_)
  have hP : va_P D vwCl [(h0, .inr (0, [.ref q8, .ref q17, .ref q26, .ref q35, .int (nI 0), .int 0, .int 0, .int 0, .int 0])), (q8, .inl (ct 0, 400, .inl (fun _ => 0))), (q17, .inl (ct 0, 400, .inl (fun _ => 0))), (q26, .inl (ct 0, 400, .inl (fun _ => 0))), (q35, .inl (ct 0, 400, .inl (fun _ => 0)))] H := hP
  have hD : va_D A [(h0, .inr (0, [.ref q8, .ref q17, .ref q26, .ref q35, .int (nI 0), .int 0, .int 0, .int 0, .int 0])), (q8, .inl (ct 0, 400, .inl (fun _ => 0))), (q17, .inl (ct 0, 400, .inl (fun _ => 0))), (q26, .inl (ct 0, 400, .inl (fun _ => 0))), (q35, .inl (ct 0, 400, .inl (fun _ => 0)))] := hD
  refine lv_aload_n hx hb dX0_init_45 rfl (lv_at hl 0 rfl) ?_
  refine lv_iconst (v := (nI 0)) hx hb dX0_init_46 (by decide) ?_
  refine va_put (D := D) (ci := 0) (v := .int (nI 0)) (ty := .int) (C := RX0) (T := TX0) (N := 9) hx hb hT mU_X0 tyX0 tyX0_ok nmX0 hown hK hP hD hS 0 rfl rfl 5 (by decide) (hT _ mF_X0_28) (fun _ h9 => h9) rfl (by decide +kernel) rfl rfl (Nat.le_of_ble_eq_true rfl) dX0_init_47 (fun H locs hP hD hS => ?_)
  have hP : va_P D vwCl [(h0, .inr (0, [.ref q8, .ref q17, .ref q26, .ref q35, .int (nI 0), .int (nI 0), .int 0, .int 0, .int 0])), (q8, .inl (ct 0, 400, .inl (fun _ => 0))), (q17, .inl (ct 0, 400, .inl (fun _ => 0))), (q26, .inl (ct 0, 400, .inl (fun _ => 0))), (q35, .inl (ct 0, 400, .inl (fun _ => 0)))] H := hP
  have hD : va_D A [(h0, .inr (0, [.ref q8, .ref q17, .ref q26, .ref q35, .int (nI 0), .int (nI 0), .int 0, .int 0, .int 0])), (q8, .inl (ct 0, 400, .inl (fun _ => 0))), (q17, .inl (ct 0, 400, .inl (fun _ => 0))), (q26, .inl (ct 0, 400, .inl (fun _ => 0))), (q35, .inl (ct 0, 400, .inl (fun _ => 0)))] := hD
  refine lv_aload_n hx hb dX0_init_50 rfl (lv_at hl 0 rfl) ?_
  refine lv_iconst (v := (nI 0)) hx hb dX0_init_51 (by decide) ?_
  refine va_put (D := D) (ci := 0) (v := .int (nI 0)) (ty := .int) (C := RX0) (T := TX0) (N := 9) hx hb hT mU_X0 tyX0 tyX0_ok nmX0 hown hK hP hD hS 0 rfl rfl 6 (by decide) (hT _ mF_X0_31) (fun _ h9 => h9) rfl (by decide +kernel) rfl rfl (Nat.le_of_ble_eq_true rfl) dX0_init_52 (fun H locs hP hD hS => ?_)
  have hP : va_P D vwCl [(h0, .inr (0, [.ref q8, .ref q17, .ref q26, .ref q35, .int (nI 0), .int (nI 0), .int (nI 0), .int 0, .int 0])), (q8, .inl (ct 0, 400, .inl (fun _ => 0))), (q17, .inl (ct 0, 400, .inl (fun _ => 0))), (q26, .inl (ct 0, 400, .inl (fun _ => 0))), (q35, .inl (ct 0, 400, .inl (fun _ => 0)))] H := hP
  have hD : va_D A [(h0, .inr (0, [.ref q8, .ref q17, .ref q26, .ref q35, .int (nI 0), .int (nI 0), .int (nI 0), .int 0, .int 0])), (q8, .inl (ct 0, 400, .inl (fun _ => 0))), (q17, .inl (ct 0, 400, .inl (fun _ => 0))), (q26, .inl (ct 0, 400, .inl (fun _ => 0))), (q35, .inl (ct 0, 400, .inl (fun _ => 0)))] := hD
  refine lv_aload_n hx hb dX0_init_55 rfl (lv_at hl 0 rfl) ?_
  refine lv_iconst (v := (nI 0)) hx hb dX0_init_56 (by decide) ?_
  refine va_put (D := D) (ci := 0) (v := .int (nI 0)) (ty := .int) (C := RX0) (T := TX0) (N := 9) hx hb hT mU_X0 tyX0 tyX0_ok nmX0 hown hK hP hD hS 0 rfl rfl 7 (by decide) (hT _ mF_X0_34) (fun _ h9 => h9) rfl (by decide +kernel) rfl rfl (Nat.le_of_ble_eq_true rfl) dX0_init_57 (fun H locs hP hD hS => ?_)
  have hP : va_P D vwCl [(h0, .inr (0, [.ref q8, .ref q17, .ref q26, .ref q35, .int (nI 0), .int (nI 0), .int (nI 0), .int (nI 0), .int 0])), (q8, .inl (ct 0, 400, .inl (fun _ => 0))), (q17, .inl (ct 0, 400, .inl (fun _ => 0))), (q26, .inl (ct 0, 400, .inl (fun _ => 0))), (q35, .inl (ct 0, 400, .inl (fun _ => 0)))] H := hP
  have hD : va_D A [(h0, .inr (0, [.ref q8, .ref q17, .ref q26, .ref q35, .int (nI 0), .int (nI 0), .int (nI 0), .int (nI 0), .int 0])), (q8, .inl (ct 0, 400, .inl (fun _ => 0))), (q17, .inl (ct 0, 400, .inl (fun _ => 0))), (q26, .inl (ct 0, 400, .inl (fun _ => 0))), (q35, .inl (ct 0, 400, .inl (fun _ => 0)))] := hD
  refine lv_aload_n hx hb dX0_init_60 rfl (lv_at hl 0 rfl) ?_
  refine lv_bipush (v := (-3 : Int32)) hx hb dX0_init_61 (by decide) ?_
  refine va_put (D := D) (ci := 0) (v := .int (-3 : Int32)) (ty := .int) (C := RX0) (T := TX0) (N := 9) hx hb hT mU_X0 tyX0 tyX0_ok nmX0 hown hK hP hD hS 0 rfl rfl 8 (by decide) (hT _ mF_X0_37) (fun _ h9 => h9) rfl (by decide +kernel) rfl rfl (Nat.le_of_ble_eq_true rfl) dX0_init_63 (fun H locs hP hD hS => ?_)
  have hP : va_P D vwCl [(h0, .inr (0, [.ref q8, .ref q17, .ref q26, .ref q35, .int (nI 0), .int (nI 0), .int (nI 0), .int (nI 0), .int (-3 : Int32)])), (q8, .inl (ct 0, 400, .inl (fun _ => 0))), (q17, .inl (ct 0, 400, .inl (fun _ => 0))), (q26, .inl (ct 0, 400, .inl (fun _ => 0))), (q35, .inl (ct 0, 400, .inl (fun _ => 0)))] H := hP
  have hD : va_D A [(h0, .inr (0, [.ref q8, .ref q17, .ref q26, .ref q35, .int (nI 0), .int (nI 0), .int (nI 0), .int (nI 0), .int (-3 : Int32)])), (q8, .inl (ct 0, 400, .inl (fun _ => 0))), (q17, .inl (ct 0, 400, .inl (fun _ => 0))), (q26, .inl (ct 0, 400, .inl (fun _ => 0))), (q35, .inl (ct 0, 400, .inl (fun _ => 0)))] := hD
  refine W.widen (k := 4) (n := 1600) (Nat.le_of_ble_eq_true rfl) (Nat.le_of_ble_eq_true rfl) ?_
  exact W.vret hx hb hr (fun t ht hW => ⟨⟨fun k => ([q8, q17, q26, q35] : List Nat).getD k 0, rfl, trivial, by rw [ht]; exact hP, va_K.moved hW.alike hK, hD⟩, hS.F ht⟩) hS.2.2 dX0_init_66 hlocks
theorem hdiX6 : yX6_init.cls ≠ "java/lang/invoke/MethodHandle" ∧ yX6_init.cls ≠ "java/lang/invoke/VarHandle" ∧ (parseMethodDescriptor yX6_init.desc).map (fun d => d.parameters.length) = some 0 := by decide +kernel
abbrev vX6_init : List Cond := Cond.code yX6_init cX6_init 1 none :: zTB
/-- the cells behind the constructor: the object, what it made -/
def wX6 (ct : Nat → ClassId) (h0 : Nat) (q : Nat → Nat) : va_W := [(h0, .inr (6, [.ref (q 0), .ref (q 1), .int (nI 0), .int (nI 0)])), ((q 0), .inl (ct 0, 600, .inl (fun _ => 0))), ((q 1), .inl (ct 0, 600, .inl (fun _ => 0)))]
set_option maxHeartbeats 8000000 in
set_option maxRecDepth 100000 in
theorem iX6 (l : Launch) (D : va_G) (ct : Nat → ClassId) (h0 : Nat) (sz : Nat) : Met l yX6_init vX6_init { frames := 1, cells := 2, slots := 1200, locals := 12 } (va_Pc [.ref h0] (fun U => U.heap.size = sz ∧ va_P D vwCl [(h0, .inr (6, [.null, .null, .int 0, .int 0]))] U.heap ∧ va_K D vwCl (ztc ct) U ∧ va_D (fun _ => True) [(h0, .inr (6, [.null, .null, .int 0, .int 0]))])) (va_Qv (fun _ : Nat → Nat => True) (fun q t => va_P D vwCl (wX6 ct h0 q) t.heap ∧ va_K D vwCl (ztc ct) t ∧ va_D (va_A [(h0, .inr (6, [.null, .null, .int 0, .int 0]))] sz) (wX6 ct h0 q)) (va_A [(h0, .inr (6, [.null, .null, .int 0, .int 0]))] sz)) 2 1200 (va_A [(h0, .inr (6, [.null, .null, .int 0, .int 0]))] sz) := by
  refine Met.ofW (cc := cX6_init) (maxL := 1) (ret := none) (by decide) rfl ?_
  intro p e s m args below meth c s₁ B hml hv
  obtain ⟨rfl, hsz, hP, hK, hD0⟩ := hv
  have hx := B.exec
  have hb := B.bytes
  have hr := B.returns
  have hts := atoms_spec (ws := vX6_init) B.pre
  have hT : ∀ w ∈ zTB, w.before ([.ref h0] : List Value).toArray s = true := fun w h => hts w (List.mem_cons_of_mem _ h)
  have hown : s.vm.findClass RX6 = some m.cls := findClass_of_methodNamed B.named
  have hlocks := B.notSynchronized
  have hin : meth.name = "<init>" := (name_of_methodNamed B.named B.method).1
  subst hsz
  have hD := hD0.self (sz := s.heap.size)
  generalize hAe : va_A [(h0, .inr (6, [.null, .null, .int 0, .int 0]))] s.heap.size = A at hD ⊢
  have hA : ∀ q : Nat, s.heap.size ≤ q → A q := fun q h => by rw [← hAe]; exact Or.inr h
  have hS : va_S A s.heap s.heap [] := va_S.rf
  have hP : va_P D vwCl [(h0, .inr (6, [.null, .null, .int 0, .int 0]))] s.heap := hP
  have hl := lv_entry ([.ref h0] : List Value) (n := 1) (Nat.le_of_ble_eq_true rfl)
  rw [lg_entry_eq]
  generalize (lg_sl ([.ref h0] : List Value) ++ List.replicate (1 - (lg_sl ([.ref h0] : List Value)).length) Slot.unset).toArray = ls at hl ⊢
  have hl : lv_has ls 1 [(0, .ref h0)] := hl
  refine lv_aload_n hx hb dX6_init_0 rfl (lv_at hl 0 rfl) ?_
  refine W.objInit hx hb hown (hT _ mL_X6_3) (hT _ mI_Obj) (hT _ mC_Obj) rfl (by rw [hml]; exact hl.1) rfl dX6_init_1 (Nat.le_of_ble_eq_true rfl) (Nat.le_of_ble_eq_true rfl) ?_
  refine W.eq (g2 := F0 m 4 ls []) rfl ?_
  refine lv_aload_n hx hb dX6_init_4 rfl (lv_at hl 0 rfl) ?_
  refine lv_sipush (v := (nI 600)) hx hb dX6_init_5 (by decide) ?_
  refine zz_newa (atype := .int) (ty := .int) (n := (nI 600)) (N' := 600) (a0 := (600, .inl (fun _ => 0))) hx hb (hT _ mA_int) rfl hK hP hD hS hA 0 rfl (fun _ => rfl) (by decide) (by decide) (Nat.le_of_ble_eq_true rfl) (Nat.le_of_ble_eq_true rfl) (Nat.le_of_ble_eq_true rfl) dX6_init_8 (fun q8 H hP hD hS => ?_)
  have hP : va_P D vwCl [(h0, .inr (6, [.null, .null, .int 0, .int 0])), (q8, .inl (ct 0, 600, .inl (fun _ => 0)))] H := hP
  have hD : va_D A [(h0, .inr (6, [.null, .null, .int 0, .int 0])), (q8, .inl (ct 0, 600, .inl (fun _ => 0)))] := hD
  refine va_putF (D := D) (ci := 6) (v := .ref q8) (ty := .array .int) (C := RX6) (T := TX6) (N := 4) hx hb hT mU_X6 tyX6 tyX6_ok nmX6 hown hK hP hD hS 0 rfl rfl 0 (by decide) (hT _ mF_X6_9) (fun _ h9 => h9) rfl hin rfl (by decide +kernel) rfl rfl (Nat.le_of_ble_eq_true rfl) dX6_init_10 (fun H locs hP hD hS => ?_)
  have hP : va_P D vwCl [(h0, .inr (6, [.ref q8, .null, .int 0, .int 0])), (q8, .inl (ct 0, 600, .inl (fun _ => 0)))] H := hP
  have hD : va_D A [(h0, .inr (6, [.ref q8, .null, .int 0, .int 0])), (q8, .inl (ct 0, 600, .inl (fun _ => 0)))] := hD
  refine lv_aload_n hx hb dX6_init_13 rfl (lv_at hl 0 rfl) ?_
  refine lv_sipush (v := (nI 600)) hx hb dX6_init_14 (by decide) ?_
  refine zz_newa (atype := .int) (ty := .int) (n := (nI 600)) (N' := 600) (a0 := (600, .inl (fun _ => 0))) hx hb (hT _ mA_int) rfl hK hP hD hS hA 0 rfl (fun _ => rfl) (by decide) (by decide) (Nat.le_of_ble_eq_true rfl) (Nat.le_of_ble_eq_true rfl) (Nat.le_of_ble_eq_true rfl) dX6_init_17 (fun q17 H hP hD hS => ?_)
  have hP : va_P D vwCl [(h0, .inr (6, [.ref q8, .null, .int 0, .int 0])), (q8, .inl (ct 0, 600, .inl (fun _ => 0))), (q17, .inl (ct 0, 600, .inl (fun _ => 0)))] H := hP
  have hD : va_D A [(h0, .inr (6, [.ref q8, .null, .int 0, .int 0])), (q8, .inl (ct 0, 600, .inl (fun _ => 0))), (q17, .inl (ct 0, 600, .inl (fun _ => 0)))] := hD
  refine va_putF (D := D) (ci := 6) (v := .ref q17) (ty := .array .int) (C := RX6) (T := TX6) (N := 4) hx hb hT mU_X6 tyX6 tyX6_ok nmX6 hown hK hP hD hS 0 rfl rfl 1 (by decide) (hT _ mF_X6_15) (fun _ h9 => h9) rfl hin rfl (by decide +kernel) rfl rfl (Nat.le_of_ble_eq_true rfl) dX6_init_19 (fun H locs hP hD hS => ?_)
  have hP : va_P D vwCl [(h0, .inr (6, [.ref q8, .ref q17, .int 0, .int 0])), (q8, .inl (ct 0, 600, .inl (fun _ => 0))), (q17, .inl (ct 0, 600, .inl (fun _ => 0)))] H := hP
  have hD : va_D A [(h0, .inr (6, [.ref q8, .ref q17, .int 0, .int 0])), (q8, .inl (ct 0, 600, .inl (fun _ => 0))), (q17, .inl (ct 0, 600, .inl (fun _ => 0)))] := hD
  refine lv_aload_n hx hb dX6_init_22 rfl (lv_at hl 0 rfl) ?_
  refine lv_iconst (v := (nI 0)) hx hb dX6_init_23 (by decide) ?_
  refine va_put (D := D) (ci := 6) (v := .int (nI 0)) (ty := .int) (C := RX6) (T := TX6) (N := 4) hx hb hT mU_X6 tyX6 tyX6_ok nmX6 hown hK hP hD hS 0 rfl rfl 2 (by decide) (hT _ mF_X6_18) (fun _ h9 => h9) rfl (by decide +kernel) rfl rfl (Nat.le_of_ble_eq_true rfl) dX6_init_24 (fun H locs hP hD hS => ?_)
  have hP : va_P D vwCl [(h0, .inr (6, [.ref q8, .ref q17, .int (nI 0), .int 0])), (q8, .inl (ct 0, 600, .inl (fun _ => 0))), (q17, .inl (ct 0, 600, .inl (fun _ => 0)))] H := hP
  have hD : va_D A [(h0, .inr (6, [.ref q8, .ref q17, .int (nI 0), .int 0])), (q8, .inl (ct 0, 600, .inl (fun _ => 0))), (q17, .inl (ct 0, 600, .inl (fun _ => 0)))] := hD
  refine lv_aload_n hx hb dX6_init_27 rfl (lv_at hl 0 rfl) ?_
  refine lv_iconst (v := (nI 0)) hx hb dX6_init_28 (by decide) ?_
  refine va_put (D := D) (ci := 6) (v := .int (nI 0)) (ty := .int) (C := RX6) (T := TX6) (N := 4) hx hb hT mU_X6 tyX6 tyX6_ok nmX6 hown hK hP hD hS 0 rfl rfl 3 (by decide) (hT _ mF_X6_22) (fun _ h9 => h9) rfl (by decide +kernel) rfl rfl (Nat.le_of_ble_eq_true rfl) dX6_init_29 (fun H locs hP hD hS => ?_)
  have hP : va_P D vwCl [(h0, .inr (6, [.ref q8, .ref q17, .int (nI 0), .int (nI 0)])), (q8, .inl (ct 0, 600, .inl (fun _ => 0))), (q17, .inl (ct 0, 600, .inl (fun _ => 0)))] H := hP
  have hD : va_D A [(h0, .inr (6, [.ref q8, .ref q17, .int (nI 0), .int (nI 0)])), (q8, .inl (ct 0, 600, .inl (fun _ => 0))), (q17, .inl (ct 0, 600, .inl (fun _ => 0)))] := hD
  refine W.widen (k := 2) (n := 1200) (Nat.le_of_ble_eq_true rfl) (Nat.le_of_ble_eq_true rfl) ?_
  exact W.vret hx hb hr (fun t ht hW => ⟨⟨fun k => ([q8, q17] : List Nat).getD k 0, rfl, trivial, by rw [ht]; exact hP, va_K.moved hW.alike hK, hD⟩, hS.F ht⟩) hS.2.2 dX6_init_32 hlocks
theorem hdiX3 : yX3_init.cls ≠ "java/lang/invoke/MethodHandle" ∧ yX3_init.cls ≠ "java/lang/invoke/VarHandle" ∧ (parseMethodDescriptor yX3_init.desc).map (fun d => d.parameters.length) = some 2 := by decide +kernel
abbrev vX3_init : List Cond := Cond.code yX3_init cX3_init 3 none :: zTB
/-- the cells behind the constructor: the object, what it made -/
def wX3 (ct : Nat → ClassId) (h0 : Nat) (p0 : Nat) (p1 : Nat) (q : Nat → Nat) : va_W := [(h0, .inr (3, [.ref p0, .ref p1, .ref (q 0), .ref (q 1), .ref (q 2), .int (nI 0)])), ((q 0), .inl (ct 0, 8, .inl (fun _ => 0))), ((q 1), .inl (ct 0, 72, .inl (fun _ => 0))), ((q 2), .inl (ct 0, 130, .inl (fun _ => 0)))]
set_option maxHeartbeats 8000000 in
set_option maxRecDepth 100000 in
theorem iX3 (l : Launch) (D : va_G) (ct : Nat → ClassId) (h0 : Nat) (p0 : Nat) (p1 : Nat) (sz : Nat) : Met l yX3_init vX3_init { frames := 1, cells := 3, slots := 210, locals := 12 } (va_Pc [.ref h0, .ref p0, .ref p1] (fun U => U.heap.size = sz ∧ va_P D vwCl [(h0, .inr (3, [.null, .null, .null, .null, .null, .int 0]))] U.heap ∧ va_K D vwCl (ztc ct) U ∧ va_D (fun _ => True) [(h0, .inr (3, [.null, .null, .null, .null, .null, .int 0]))])) (va_Qv (fun _ : Nat → Nat => True) (fun q t => va_P D vwCl (wX3 ct h0 p0 p1 q) t.heap ∧ va_K D vwCl (ztc ct) t ∧ va_D (va_A [(h0, .inr (3, [.null, .null, .null, .null, .null, .int 0]))] sz) (wX3 ct h0 p0 p1 q)) (va_A [(h0, .inr (3, [.null, .null, .null, .null, .null, .int 0]))] sz)) 3 210 (va_A [(h0, .inr (3, [.null, .null, .null, .null, .null, .int 0]))] sz) := by
  refine Met.ofW (cc := cX3_init) (maxL := 3) (ret := none) (by decide) rfl ?_
  intro p e s m args below meth c s₁ B hml hv
  obtain ⟨rfl, hsz, hP, hK, hD0⟩ := hv
  have hx := B.exec
  have hb := B.bytes
  have hr := B.returns
  have hts := atoms_spec (ws := vX3_init) B.pre
  have hT : ∀ w ∈ zTB, w.before ([.ref h0, .ref p0, .ref p1] : List Value).toArray s = true := fun w h => hts w (List.mem_cons_of_mem _ h)
  have hown : s.vm.findClass RX3 = some m.cls := findClass_of_methodNamed B.named
  have hlocks := B.notSynchronized
  have hin : meth.name = "<init>" := (name_of_methodNamed B.named B.method).1
  subst hsz
  have hD := hD0.self (sz := s.heap.size)
  generalize hAe : va_A [(h0, .inr (3, [.null, .null, .null, .null, .null, .int 0]))] s.heap.size = A at hD ⊢
  have hA : ∀ q : Nat, s.heap.size ≤ q → A q := fun q h => by rw [← hAe]; exact Or.inr h
  have hS : va_S A s.heap s.heap [] := va_S.rf
  have hP : va_P D vwCl [(h0, .inr (3, [.null, .null, .null, .null, .null, .int 0]))] s.heap := hP
  have hl := lv_entry ([.ref h0, .ref p0, .ref p1] : List Value) (n := 3) (Nat.le_of_ble_eq_true rfl)
  rw [lg_entry_eq]
  generalize (lg_sl ([.ref h0, .ref p0, .ref p1] : List Value) ++ List.replicate (3 - (lg_sl ([.ref h0, .ref p0, .ref p1] : List Value)).length) Slot.unset).toArray = ls at hl ⊢
  have hl : lv_has ls 3 [(0, .ref h0), (1, .ref p0), (2, .ref p1)] := hl
  refine lv_aload_n hx hb dX3_init_0 rfl (lv_at hl 0 rfl) ?_
  refine W.objInit hx hb hown (hT _ mL_X3_3) (hT _ mI_Obj) (hT _ mC_Obj) rfl (by rw [hml]; exact hl.1) rfl dX3_init_1 (Nat.le_of_ble_eq_true rfl) (Nat.le_of_ble_eq_true rfl) ?_
  refine W.eq (g2 := F0 m 4 ls []) rfl ?_
  refine lv_aload_n hx hb dX3_init_4 rfl (lv_at hl 0 rfl) ?_
  refine lv_bipush (v := (nI 8)) hx hb dX3_init_5 (by decide) ?_
  refine zz_newa (atype := .int) (ty := .int) (n := (nI 8)) (N' := 8) (a0 := (8, .inl (fun _ => 0))) hx hb (hT _ mA_int) rfl hK hP hD hS hA 0 rfl (fun _ => rfl) (by decide) (by decide) (Nat.le_of_ble_eq_true rfl) (Nat.le_of_ble_eq_true rfl) (Nat.le_of_ble_eq_true rfl) dX3_init_7 (fun q7 H hP hD hS => ?_)
  have hP : va_P D vwCl [(h0, .inr (3, [.null, .null, .null, .null, .null, .int 0])), (q7, .inl (ct 0, 8, .inl (fun _ => 0)))] H := hP
  have hD : va_D A [(h0, .inr (3, [.null, .null, .null, .null, .null, .int 0])), (q7, .inl (ct 0, 8, .inl (fun _ => 0)))] := hD
  refine va_putF (D := D) (ci := 3) (v := .ref q7) (ty := .array .int) (C := RX3) (T := TX3) (N := 6) hx hb hT mU_X3 tyX3 tyX3_ok nmX3 hown hK hP hD hS 0 rfl rfl 2 (by decide) (hT _ mF_X3_9) (fun _ h9 => h9) rfl hin rfl (by decide +kernel) rfl rfl (Nat.le_of_ble_eq_true rfl) dX3_init_9 (fun H locs hP hD hS => ?_)
  have hP : va_P D vwCl [(h0, .inr (3, [.null, .null, .ref q7, .null, .null, .int 0])), (q7, .inl (ct 0, 8, .inl (fun _ => 0)))] H := hP
  have hD : va_D A [(h0, .inr (3, [.null, .null, .ref q7, .null, .null, .int 0])), (q7, .inl (ct 0, 8, .inl (fun _ => 0)))] := hD
  refine lv_aload_n hx hb dX3_init_12 rfl (lv_at hl 0 rfl) ?_
  refine lv_bipush (v := (nI 72)) hx hb dX3_init_13 (by decide) ?_
  refine zz_newa (atype := .int) (ty := .int) (n := (nI 72)) (N' := 72) (a0 := (72, .inl (fun _ => 0))) hx hb (hT _ mA_int) rfl hK hP hD hS hA 0 rfl (fun _ => rfl) (by decide) (by decide) (Nat.le_of_ble_eq_true rfl) (Nat.le_of_ble_eq_true rfl) (Nat.le_of_ble_eq_true rfl) dX3_init_15 (fun q15 H hP hD hS => ?_)
  have hP : va_P D vwCl [(h0, .inr (3, [.null, .null, .ref q7, .null, .null, .int 0])), (q7, .inl (ct 0, 8, .inl (fun _ => 0))), (q15, .inl (ct 0, 72, .inl (fun _ => 0)))] H := hP
  have hD : va_D A [(h0, .inr (3, [.null, .null, .ref q7, .null, .null, .int 0])), (q7, .inl (ct 0, 8, .inl (fun _ => 0))), (q15, .inl (ct 0, 72, .inl (fun _ => 0)))] := hD
  refine va_putF (D := D) (ci := 3) (v := .ref q15) (ty := .array .int) (C := RX3) (T := TX3) (N := 6) hx hb hT mU_X3 tyX3 tyX3_ok nmX3 hown hK hP hD hS 0 rfl rfl 3 (by decide) (hT _ mF_X3_15) (fun _ h9 => h9) rfl hin rfl (by decide +kernel) rfl rfl (Nat.le_of_ble_eq_true rfl) dX3_init_17 (fun H locs hP hD hS => ?_)
  have hP : va_P D vwCl [(h0, .inr (3, [.null, .null, .ref q7, .ref q15, .null, .int 0])), (q7, .inl (ct 0, 8, .inl (fun _ => 0))), (q15, .inl (ct 0, 72, .inl (fun _ => 0)))] H := hP
  have hD : va_D A [(h0, .inr (3, [.null, .null, .ref q7, .ref q15, .null, .int 0])), (q7, .inl (ct 0, 8, .inl (fun _ => 0))), (q15, .inl (ct 0, 72, .inl (fun _ => 0)))] := hD
  refine lv_aload_n hx hb dX3_init_20 rfl (lv_at hl 0 rfl) ?_
  refine lv_sipush (v := (nI 130)) hx hb dX3_init_21 (by decide) ?_
  refine zz_newa (atype := .int) (ty := .int) (n := (nI 130)) (N' := 130) (a0 := (130, .inl (fun _ => 0))) hx hb (hT _ mA_int) rfl hK hP hD hS hA 0 rfl (fun _ => rfl) (by decide) (by decide) (Nat.le_of_ble_eq_true rfl) (Nat.le_of_ble_eq_true rfl) (Nat.le_of_ble_eq_true rfl) dX3_init_24 (fun q24 H hP hD hS => ?_)
  have hP : va_P D vwCl [(h0, .inr (3, [.null, .null, .ref q7, .ref q15, .null, .int 0])), (q7, .inl (ct 0, 8, .inl (fun _ => 0))), (q15, .inl (ct 0, 72, .inl (fun _ => 0))), (q24, .inl (ct 0, 130, .inl (fun _ => 0)))] H := hP
  have hD : va_D A [(h0, .inr (3, [.null, .null, .ref q7, .ref q15, .null, .int 0])), (q7, .inl (ct 0, 8, .inl (fun _ => 0))), (q15, .inl (ct 0, 72, .inl (fun _ => 0))), (q24, .inl (ct 0, 130, .inl (fun _ => 0)))] := hD
  refine va_putF (D := D) (ci := 3) (v := .ref q24) (ty := .array .int) (C := RX3) (T := TX3) (N := 6) hx hb hT mU_X3 tyX3 tyX3_ok nmX3 hown hK hP hD hS 0 rfl rfl 4 (by decide) (hT _ mF_X3_18) (fun _ h9 => h9) rfl hin rfl (by decide +kernel) rfl rfl (Nat.le_of_ble_eq_true rfl) dX3_init_26 (fun H locs hP hD hS => ?_)
  have hP : va_P D vwCl [(h0, .inr (3, [.null, .null, .ref q7, .ref q15, .ref q24, .int 0])), (q7, .inl (ct 0, 8, .inl (fun _ => 0))), (q15, .inl (ct 0, 72, .inl (fun _ => 0))), (q24, .inl (ct 0, 130, .inl (fun _ => 0)))] H := hP
  have hD : va_D A [(h0, .inr (3, [.null, .null, .ref q7, .ref q15, .ref q24, .int 0])), (q7, .inl (ct 0, 8, .inl (fun _ => 0))), (q15, .inl (ct 0, 72, .inl (fun _ => 0))), (q24, .inl (ct 0, 130, .inl (fun _ => 0)))] := hD
  refine lv_aload_n hx hb dX3_init_29 rfl (lv_at hl 0 rfl) ?_
  refine lv_iconst (v := (nI 0)) hx hb dX3_init_30 (by decide) ?_
  refine va_put (D := D) (ci := 3) (v := .int (nI 0)) (ty := .int) (C := RX3) (T := TX3) (N := 6) hx hb hT mU_X3 tyX3 tyX3_ok nmX3 hown hK hP hD hS 0 rfl rfl 5 (by decide) (hT _ mF_X3_21) (fun _ h9 => h9) rfl (by decide +kernel) rfl rfl (Nat.le_of_ble_eq_true rfl) dX3_init_31 (fun H locs hP hD hS => ?_)
  have hP : va_P D vwCl [(h0, .inr (3, [.null, .null, .ref q7, .ref q15, .ref q24, .int (nI 0)])), (q7, .inl (ct 0, 8, .inl (fun _ => 0))), (q15, .inl (ct 0, 72, .inl (fun _ => 0))), (q24, .inl (ct 0, 130, .inl (fun _ => 0)))] H := hP
  have hD : va_D A [(h0, .inr (3, [.null, .null, .ref q7, .ref q15, .ref q24, .int (nI 0)])), (q7, .inl (ct 0, 8, .inl (fun _ => 0))), (q15, .inl (ct 0, 72, .inl (fun _ => 0))), (q24, .inl (ct 0, 130, .inl (fun _ => 0)))] := hD
  refine lv_aload_n hx hb dX3_init_34 rfl (lv_at hl 0 rfl) ?_
  refine lv_aload_n hx hb dX3_init_35 rfl (lv_at hl 1 rfl) ?_
  refine va_putF (D := D) (ci := 3) (v := .ref p0) (ty := .object "NeedSteps$Program") (C := RX3) (T := TX3) (N := 6) hx hb hT mU_X3 tyX3 tyX3_ok nmX3 hown hK hP hD hS 0 rfl rfl 0 (by decide) (hT _ mF_X3_25) (fun _ h9 => h9) rfl hin rfl (by decide +kernel) rfl rfl (Nat.le_of_ble_eq_true rfl) dX3_init_36 (fun H locs hP hD hS => ?_)
  have hP : va_P D vwCl [(h0, .inr (3, [.ref p0, .null, .ref q7, .ref q15, .ref q24, .int (nI 0)])), (q7, .inl (ct 0, 8, .inl (fun _ => 0))), (q15, .inl (ct 0, 72, .inl (fun _ => 0))), (q24, .inl (ct 0, 130, .inl (fun _ => 0)))] H := hP
  have hD : va_D A [(h0, .inr (3, [.ref p0, .null, .ref q7, .ref q15, .ref q24, .int (nI 0)])), (q7, .inl (ct 0, 8, .inl (fun _ => 0))), (q15, .inl (ct 0, 72, .inl (fun _ => 0))), (q24, .inl (ct 0, 130, .inl (fun _ => 0)))] := hD
  refine lv_aload_n hx hb dX3_init_39 rfl (lv_at hl 0 rfl) ?_
  refine lv_aload_n hx hb dX3_init_40 rfl (lv_at hl 2 rfl) ?_
  refine va_putF (D := D) (ci := 3) (v := .ref p1) (ty := .object "NeedSteps$Graph") (C := RX3) (T := TX3) (N := 6) hx hb hT mU_X3 tyX3 tyX3_ok nmX3 hown hK hP hD hS 0 rfl rfl 1 (by decide) (hT _ mF_X3_29) (fun _ h9 => h9) rfl hin rfl (by decide +kernel) rfl rfl (Nat.le_of_ble_eq_true rfl) dX3_init_41 (fun H locs hP hD hS => ?_)
  have hP : va_P D vwCl [(h0, .inr (3, [.ref p0, .ref p1, .ref q7, .ref q15, .ref q24, .int (nI 0)])), (q7, .inl (ct 0, 8, .inl (fun _ => 0))), (q15, .inl (ct 0, 72, .inl (fun _ => 0))), (q24, .inl (ct 0, 130, .inl (fun _ => 0)))] H := hP
  have hD : va_D A [(h0, .inr (3, [.ref p0, .ref p1, .ref q7, .ref q15, .ref q24, .int (nI 0)])), (q7, .inl (ct 0, 8, .inl (fun _ => 0))), (q15, .inl (ct 0, 72, .inl (fun _ => 0))), (q24, .inl (ct 0, 130, .inl (fun _ => 0)))] := hD
  refine W.widen (k := 3) (n := 210) (Nat.le_of_ble_eq_true rfl) (Nat.le_of_ble_eq_true rfl) ?_
  exact W.vret hx hb hr (fun t ht hW => ⟨⟨fun k => ([q7, q15, q24] : List Nat).getD k 0, rfl, trivial, by rw [ht]; exact hP, va_K.moved hW.alike hK, hD⟩, hS.F ht⟩) hS.2.2 dX3_init_44 hlocks
theorem hdiX1 : yX1_init.cls ≠ "java/lang/invoke/MethodHandle" ∧ yX1_init.cls ≠ "java/lang/invoke/VarHandle" ∧ (parseMethodDescriptor yX1_init.desc).map (fun d => d.parameters.length) = some 3 := by decide +kernel
abbrev vX1_init : List Cond := Cond.code yX1_init cX1_init 4 none :: zTB
/-- the cells behind the constructor: the object, what it made -/
def wX1 (ct : Nat → ClassId) (h0 : Nat) (p0 : Nat) (p1 : Nat) (p2 : Nat) (q : Nat → Nat) : va_W := [(h0, .inr (1, [.ref p0, .ref p1, .ref p2, .ref (q 0), .int (nI 0), .ref (q 1), .ref (q 2)])), ((q 0), .inl (ct 0, 400, .inl (fun _ => 0))), ((q 1), .inl (ct 0, 400, .inl (fun _ => 0))), ((q 2), .inl (ct 0, 400, .inl (fun _ => 0)))]
set_option maxHeartbeats 8000000 in
set_option maxRecDepth 100000 in
theorem iX1 (l : Launch) (D : va_G) (ct : Nat → ClassId) (h0 : Nat) (p0 : Nat) (p1 : Nat) (p2 : Nat) (sz : Nat) : Met l yX1_init vX1_init { frames := 1, cells := 3, slots := 1200, locals := 12 } (va_Pc [.ref h0, .ref p0, .ref p1, .ref p2] (fun U => U.heap.size = sz ∧ va_P D vwCl [(h0, .inr (1, [.null, .null, .null, .null, .int 0, .null, .null]))] U.heap ∧ va_K D vwCl (ztc ct) U ∧ va_D (fun _ => True) [(h0, .inr (1, [.null, .null, .null, .null, .int 0, .null, .null]))])) (va_Qv (fun _ : Nat → Nat => True) (fun q t => va_P D vwCl (wX1 ct h0 p0 p1 p2 q) t.heap ∧ va_K D vwCl (ztc ct) t ∧ va_D (va_A [(h0, .inr (1, [.null, .null, .null, .null, .int 0, .null, .null]))] sz) (wX1 ct h0 p0 p1 p2 q)) (va_A [(h0, .inr (1, [.null, .null, .null, .null, .int 0, .null, .null]))] sz)) 3 1200 (va_A [(h0, .inr (1, [.null, .null, .null, .null, .int 0, .null, .null]))] sz) := by
  refine Met.ofW (cc := cX1_init) (maxL := 4) (ret := none) (by decide) rfl ?_
  intro p e s m args below meth c s₁ B hml hv
  obtain ⟨rfl, hsz, hP, hK, hD0⟩ := hv
  have hx := B.exec
  have hb := B.bytes
  have hr := B.returns
  have hts := atoms_spec (ws := vX1_init) B.pre
  have hT : ∀ w ∈ zTB, w.before ([.ref h0, .ref p0, .ref p1, .ref p2] : List Value).toArray s = true := fun w h => hts w (List.mem_cons_of_mem _ h)
  have hown : s.vm.findClass RX1 = some m.cls := findClass_of_methodNamed B.named
  have hlocks := B.notSynchronized
  have hin : meth.name = "<init>" := (name_of_methodNamed B.named B.method).1
  subst hsz
  have hD := hD0.self (sz := s.heap.size)
  generalize hAe : va_A [(h0, .inr (1, [.null, .null, .null, .null, .int 0, .null, .null]))] s.heap.size = A at hD ⊢
  have hA : ∀ q : Nat, s.heap.size ≤ q → A q := fun q h => by rw [← hAe]; exact Or.inr h
  have hS : va_S A s.heap s.heap [] := va_S.rf
  have hP : va_P D vwCl [(h0, .inr (1, [.null, .null, .null, .null, .int 0, .null, .null]))] s.heap := hP
  have hl := lv_entry ([.ref h0, .ref p0, .ref p1, .ref p2] : List Value) (n := 4) (Nat.le_of_ble_eq_true rfl)
  rw [lg_entry_eq]
  generalize (lg_sl ([.ref h0, .ref p0, .ref p1, .ref p2] : List Value) ++ List.replicate (4 - (lg_sl ([.ref h0, .ref p0, .ref p1, .ref p2] : List Value)).length) Slot.unset).toArray = ls at hl ⊢
  have hl : lv_has ls 4 [(0, .ref h0), (1, .ref p0), (2, .ref p1), (3, .ref p2)] := hl
  refine lv_aload_n hx hb dX1_init_0 rfl (lv_at hl 0 rfl) ?_
  refine W.objInit hx hb hown (hT _ mL_X1_3) (hT _ mI_Obj) (hT _ mC_Obj) rfl (by rw [hml]; exact hl.1) rfl dX1_init_1 (Nat.le_of_ble_eq_true rfl) (Nat.le_of_ble_eq_true rfl) ?_
  refine W.eq (g2 := F0 m 4 ls []) rfl ?_
  refine lv_aload_n hx hb dX1_init_4 rfl (lv_at hl 0 rfl) ?_
  refine lv_sipush (v := (nI 400)) hx hb dX1_init_5 (by decide) ?_
  refine zz_newa (atype := .int) (ty := .int) (n := (nI 400)) (N' := 400) (a0 := (400, .inl (fun _ => 0))) hx hb (hT _ mA_int) rfl hK hP hD hS hA 0 rfl (fun _ => rfl) (by decide) (by decide) (Nat.le_of_ble_eq_true rfl) (Nat.le_of_ble_eq_true rfl) (Nat.le_of_ble_eq_true rfl) dX1_init_8 (fun q8 H hP hD hS => ?_)
  have hP : va_P D vwCl [(h0, .inr (1, [.null, .null, .null, .null, .int 0, .null, .null])), (q8, .inl (ct 0, 400, .inl (fun _ => 0)))] H := hP
  have hD : va_D A [(h0, .inr (1, [.null, .null, .null, .null, .int 0, .null, .null])), (q8, .inl (ct 0, 400, .inl (fun _ => 0)))] := hD
  refine va_putF (D := D) (ci := 1) (v := .ref q8) (ty := .array .int) (C := RX1) (T := TX1) (N := 7) hx hb hT mU_X1 tyX1 tyX1_ok nmX1 hown hK hP hD hS 0 rfl rfl 3 (by decide) (hT _ mF_X1_9) (fun _ h9 => h9) rfl hin rfl (by decide +kernel) rfl rfl (Nat.le_of_ble_eq_true rfl) dX1_init_10 (fun H locs hP hD hS => ?_)
  have hP : va_P D vwCl [(h0, .inr (1, [.null, .null, .null, .ref q8, .int 0, .null, .null])), (q8, .inl (ct 0, 400, .inl (fun _ => 0)))] H := hP
  have hD : va_D A [(h0, .inr (1, [.null, .null, .null, .ref q8, .int 0, .null, .null])), (q8, .inl (ct 0, 400, .inl (fun _ => 0)))] := hD
  refine lv_aload_n hx hb dX1_init_13 rfl (lv_at hl 0 rfl) ?_
  refine lv_iconst (v := (nI 0)) hx hb dX1_init_14 (by decide) ?_
  refine va_put (D := D) (ci := 1) (v := .int (nI 0)) (ty := .int) (C := RX1) (T := TX1) (N := 7) hx hb hT mU_X1 tyX1 tyX1_ok nmX1 hown hK hP hD hS 0 rfl rfl 4 (by decide) (hT _ mF_X1_15) (fun _ h9 => h9) rfl (by decide +kernel) rfl rfl (Nat.le_of_ble_eq_true rfl) dX1_init_15 (fun H locs hP hD hS => ?_)
  have hP : va_P D vwCl [(h0, .inr (1, [.null, .null, .null, .ref q8, .int (nI 0), .null, .null])), (q8, .inl (ct 0, 400, .inl (fun _ => 0)))] H := hP
  have hD : va_D A [(h0, .inr (1, [.null, .null, .null, .ref q8, .int (nI 0), .null, .null])), (q8, .inl (ct 0, 400, .inl (fun _ => 0)))] := hD
  refine lv_aload_n hx hb dX1_init_18 rfl (lv_at hl 0 rfl) ?_
  refine lv_sipush (v := (nI 400)) hx hb dX1_init_19 (by decide) ?_
  refine zz_newa (atype := .int) (ty := .int) (n := (nI 400)) (N' := 400) (a0 := (400, .inl (fun _ => 0))) hx hb (hT _ mA_int) rfl hK hP hD hS hA 0 rfl (fun _ => rfl) (by decide) (by decide) (Nat.le_of_ble_eq_true rfl) (Nat.le_of_ble_eq_true rfl) (Nat.le_of_ble_eq_true rfl) dX1_init_22 (fun q22 H hP hD hS => ?_)
  have hP : va_P D vwCl [(h0, .inr (1, [.null, .null, .null, .ref q8, .int (nI 0), .null, .null])), (q8, .inl (ct 0, 400, .inl (fun _ => 0))), (q22, .inl (ct 0, 400, .inl (fun _ => 0)))] H := hP
  have hD : va_D A [(h0, .inr (1, [.null, .null, .null, .ref q8, .int (nI 0), .null, .null])), (q8, .inl (ct 0, 400, .inl (fun _ => 0))), (q22, .inl (ct 0, 400, .inl (fun _ => 0)))] := hD
  refine va_putF (D := D) (ci := 1) (v := .ref q22) (ty := .array .int) (C := RX1) (T := TX1) (N := 7) hx hb hT mU_X1 tyX1 tyX1_ok nmX1 hown hK hP hD hS 0 rfl rfl 5 (by decide) (hT _ mF_X1_19) (fun _ h9 => h9) rfl hin rfl (by decide +kernel) rfl rfl (Nat.le_of_ble_eq_true rfl) dX1_init_24 (fun H locs hP hD hS => ?_)
  have hP : va_P D vwCl [(h0, .inr (1, [.null, .null, .null, .ref q8, .int (nI 0), .ref q22, .null])), (q8, .inl (ct 0, 400, .inl (fun _ => 0))), (q22, .inl (ct 0, 400, .inl (fun _ => 0)))] H := hP
  have hD : va_D A [(h0, .inr (1, [.null, .null, .null, .ref q8, .int (nI 0), .ref q22, .null])), (q8, .inl (ct 0, 400, .inl (fun _ => 0))), (q22, .inl (ct 0, 400, .inl (fun _ => 0)))] := hD
  refine lv_aload_n hx hb dX1_init_27 rfl (lv_at hl 0 rfl) ?_
  refine lv_sipush (v := (nI 400)) hx hb dX1_init_28 (by decide) ?_
  refine zz_newa (atype := .int) (ty := .int) (n := (nI 400)) (N' := 400) (a0 := (400, .inl (fun _ => 0))) hx hb (hT _ mA_int) rfl hK hP hD hS hA 0 rfl (fun _ => rfl) (by decide) (by decide) (Nat.le_of_ble_eq_true rfl) (Nat.le_of_ble_eq_true rfl) (Nat.le_of_ble_eq_true rfl) dX1_init_31 (fun q31 H hP hD hS => ?_)
  have hP : va_P D vwCl [(h0, .inr (1, [.null, .null, .null, .ref q8, .int (nI 0), .ref q22, .null])), (q8, .inl (ct 0, 400, .inl (fun _ => 0))), (q22, .inl (ct 0, 400, .inl (fun _ => 0))), (q31, .inl (ct 0, 400, .inl (fun _ => 0)))] H := hP
  have hD : va_D A [(h0, .inr (1, [.null, .null, .null, .ref q8, .int (nI 0), .ref q22, .null])), (q8, .inl (ct 0, 400, .inl (fun _ => 0))), (q22, .inl (ct 0, 400, .inl (fun _ => 0))), (q31, .inl (ct 0, 400, .inl (fun _ => 0)))] := hD
  refine va_putF (D := D) (ci := 1) (v := .ref q31) (ty := .array .int) (C := RX1) (T := TX1) (N := 7) hx hb hT mU_X1 tyX1 tyX1_ok nmX1 hown hK hP hD hS 0 rfl rfl 6 (by decide) (hT _ mF_X1_22) (fun _ h9 => h9) rfl hin rfl (by decide +kernel) rfl rfl (Nat.le_of_ble_eq_true rfl) dX1_init_33 (fun H locs hP hD hS => ?_)
  have hP : va_P D vwCl [(h0, .inr (1, [.null, .null, .null, .ref q8, .int (nI 0), .ref q22, .ref q31])), (q8, .inl (ct 0, 400, .inl (fun _ => 0))), (q22, .inl (ct 0, 400, .inl (fun _ => 0))), (q31, .inl (ct 0, 400, .inl (fun _ => 0)))] H := hP
  have hD : va_D A [(h0, .inr (1, [.null, .null, .null, .ref q8, .int (nI 0), .ref q22, .ref q31])), (q8, .inl (ct 0, 400, .inl (fun _ => 0))), (q22, .inl (ct 0, 400, .inl (fun _ => 0))), (q31, .inl (ct 0, 400, .inl (fun _ => 0)))] := hD
  refine lv_aload_n hx hb dX1_init_36 rfl (lv_at hl 0 rfl) ?_
  refine lv_aload_n hx hb dX1_init_37 rfl (lv_at hl 1 rfl) ?_
  refine va_putF (D := D) (ci := 1) (v := .ref p0) (ty := .object "NeedSteps$Program") (C := RX1) (T := TX1) (N := 7) hx hb hT mU_X1 tyX1 tyX1_ok nmX1 hown hK hP hD hS 0 rfl rfl 0 (by decide) (hT _ mF_X1_25) (fun _ h9 => h9) rfl hin rfl (by decide +kernel) rfl rfl (Nat.le_of_ble_eq_true rfl) dX1_init_38 (fun H locs hP hD hS => ?_)
  have hP : va_P D vwCl [(h0, .inr (1, [.ref p0, .null, .null, .ref q8, .int (nI 0), .ref q22, .ref q31])), (q8, .inl (ct 0, 400, .inl (fun _ => 0))), (q22, .inl (ct 0, 400, .inl (fun _ => 0))), (q31, .inl (ct 0, 400, .inl (fun _ => 0)))] H := hP
  have hD : va_D A [(h0, .inr (1, [.ref p0, .null, .null, .ref q8, .int (nI 0), .ref q22, .ref q31])), (q8, .inl (ct 0, 400, .inl (fun _ => 0))), (q22, .inl (ct 0, 400, .inl (fun _ => 0))), (q31, .inl (ct 0, 400, .inl (fun _ => 0)))] := hD
  refine lv_aload_n hx hb dX1_init_41 rfl (lv_at hl 0 rfl) ?_
  refine lv_aload_n hx hb dX1_init_42 rfl (lv_at hl 2 rfl) ?_
  refine va_putF (D := D) (ci := 1) (v := .ref p1) (ty := .object "NeedSteps$Graph") (C := RX1) (T := TX1) (N := 7) hx hb hT mU_X1 tyX1 tyX1_ok nmX1 hown hK hP hD hS 0 rfl rfl 1 (by decide) (hT _ mF_X1_29) (fun _ h9 => h9) rfl hin rfl (by decide +kernel) rfl rfl (Nat.le_of_ble_eq_true rfl) dX1_init_43 (fun H locs hP hD hS => ?_)
  have hP : va_P D vwCl [(h0, .inr (1, [.ref p0, .ref p1, .null, .ref q8, .int (nI 0), .ref q22, .ref q31])), (q8, .inl (ct 0, 400, .inl (fun _ => 0))), (q22, .inl (ct 0, 400, .inl (fun _ => 0))), (q31, .inl (ct 0, 400, .inl (fun _ => 0)))] H := hP
  have hD : va_D A [(h0, .inr (1, [.ref p0, .ref p1, .null, .ref q8, .int (nI 0), .ref q22, .ref q31])), (q8, .inl (ct 0, 400, .inl (fun _ => 0))), (q22, .inl (ct 0, 400, .inl (fun _ => 0))), (q31, .inl (ct 0, 400, .inl (fun _ => 0)))] := hD
  refine lv_aload_n hx hb dX1_init_46 rfl (lv_at hl 0 rfl) ?_
  refine lv_aload_n hx hb dX1_init_47 rfl (lv_at hl 3 rfl) ?_
  refine va_putF (D := D) (ci := 1) (v := .ref p2) (ty := .object "NeedSteps$Stacks") (C := RX1) (T := TX1) (N := 7) hx hb hT mU_X1 tyX1 tyX1_ok nmX1 hown hK hP hD hS 0 rfl rfl 2 (by decide) (hT _ mF_X1_33) (fun _ h9 => h9) rfl hin rfl (by decide +kernel) rfl rfl (Nat.le_of_ble_eq_true rfl) dX1_init_48 (fun H locs hP hD hS => ?_)
  have hP : va_P D vwCl [(h0, .inr (1, [.ref p0, .ref p1, .ref p2, .ref q8, .int (nI 0), .ref q22, .ref q31])), (q8, .inl (ct 0, 400, .inl (fun _ => 0))), (q22, .inl (ct 0, 400, .inl (fun _ => 0))), (q31, .inl (ct 0, 400, .inl (fun _ => 0)))] H := hP
  have hD : va_D A [(h0, .inr (1, [.ref p0, .ref p1, .ref p2, .ref q8, .int (nI 0), .ref q22, .ref q31])), (q8, .inl (ct 0, 400, .inl (fun _ => 0))), (q22, .inl (ct 0, 400, .inl (fun _ => 0))), (q31, .inl (ct 0, 400, .inl (fun _ => 0)))] := hD
  refine W.widen (k := 3) (n := 1200) (Nat.le_of_ble_eq_true rfl) (Nat.le_of_ble_eq_true rfl) ?_
  exact W.vret hx hb hr (fun t ht hW => ⟨⟨fun k => ([q8, q22, q31] : List Nat).getD k 0, rfl, trivial, by rw [ht]; exact hP, va_K.moved hW.alike hK, hD⟩, hS.F ht⟩) hS.2.2 dX1_init_51 hlocks
