theorem hdiX2 : yX2_init.cls ≠ "java/lang/invoke/MethodHandle" ∧ yX2_init.cls ≠ "java/lang/invoke/VarHandle" ∧ (parseMethodDescriptor yX2_init.desc).map (fun d => d.parameters.length) = some 3 := by decide +kernel
abbrev vX2_init : List Cond := Cond.code yX2_init cX2_init 4 none :: zTB
/-- the cells behind the constructor: the object, what it made -/
def wX2 (ct : Nat → ClassId) (h0 : Nat) (p0 : Nat) (p1 : Nat) (p2 : Nat) (q : Nat → Nat) : va_W := [(h0, .inr (2, [.ref p0, .ref p1, .ref p2, .ref (q 2), .ref (q 0), .ref (q 1), .int (nI 0), .int (nI 0), .int (-1 : Int32), .int (-1 : Int32), .int (-1 : Int32)])), ((q 0), .inl (ct 0, 20, .inl (fun _ => 0))), ((q 1), .inl (ct 0, 20, .inl (fun _ => 0))), ((q 2), .inr (3, [.ref p0, .ref p1, .ref (q 3), .ref (q 4), .ref (q 5), .int (nI 0)])), ((q 3), .inl (ct 0, 8, .inl (fun _ => 0))), ((q 4), .inl (ct 0, 72, .inl (fun _ => 0))), ((q 5), .inl (ct 0, 130, .inl (fun _ => 0)))]
set_option maxHeartbeats 8000000 in
set_option maxRecDepth 100000 in
theorem iX2 (l : Launch) (D : va_G) (ct : Nat → ClassId) (h0 : Nat) (p0 : Nat) (p1 : Nat) (p2 : Nat) (sz : Nat) : Met l yX2_init vX2_init { frames := 2, cells := 6, slots := 256, locals := 34 } (va_Pc [.ref h0, .ref p0, .ref p1, .ref p2] (fun U => U.heap.size = sz ∧ va_P D vwCl [(h0, .inr (2, [.null, .null, .null, .null, .null, .null, .int 0, .int 0, .int 0, .int 0, .int 0]))] U.heap ∧ va_K D vwCl (ztc ct) U ∧ va_D (fun _ => True) [(h0, .inr (2, [.null, .null, .null, .null, .null, .null, .int 0, .int 0, .int 0, .int 0, .int 0]))])) (va_Qv (fun _ : Nat → Nat => True) (fun q t => va_P D vwCl (wX2 ct h0 p0 p1 p2 q) t.heap ∧ va_K D vwCl (ztc ct) t ∧ va_D (va_A [(h0, .inr (2, [.null, .null, .null, .null, .null, .null, .int 0, .int 0, .int 0, .int 0, .int 0]))] sz) (wX2 ct h0 p0 p1 p2 q)) (va_A [(h0, .inr (2, [.null, .null, .null, .null, .null, .null, .int 0, .int 0, .int 0, .int 0, .int 0]))] sz)) 6 256 (va_A [(h0, .inr (2, [.null, .null, .null, .null, .null, .null, .int 0, .int 0, .int 0, .int 0, .int 0]))] sz) := by
  refine Met.ofW (cc := cX2_init) (maxL := 4) (ret := none) (by decide) rfl ?_
  intro p e s m args below meth c s₁ B hml hv
  obtain ⟨rfl, hsz, hP, hK, hD0⟩ := hv
  have hx := B.exec
  have hb := B.bytes
  have hr := B.returns
  have hts := atoms_spec (ws := vX2_init) B.pre
  have hT : ∀ w ∈ zTB, w.before ([.ref h0, .ref p0, .ref p1, .ref p2] : List Value).toArray s = true := fun w h => hts w (List.mem_cons_of_mem _ h)
  have hown : s.vm.findClass RX2 = some m.cls := findClass_of_methodNamed B.named
  have hlocks := B.notSynchronized
  have hin : meth.name = "<init>" := (name_of_methodNamed B.named B.method).1
  subst hsz
  have hD := hD0.self (sz := s.heap.size)
  generalize hAe : va_A [(h0, .inr (2, [.null, .null, .null, .null, .null, .null, .int 0, .int 0, .int 0, .int 0, .int 0]))] s.heap.size = A at hD ⊢
  have hA : ∀ q : Nat, s.heap.size ≤ q → A q := fun q h => by rw [← hAe]; exact Or.inr h
  have hS : va_S A s.heap s.heap [] := va_S.rf
  have hP : va_P D vwCl [(h0, .inr (2, [.null, .null, .null, .null, .null, .null, .int 0, .int 0, .int 0, .int 0, .int 0]))] s.heap := hP
  have hl := lv_entry ([.ref h0, .ref p0, .ref p1, .ref p2] : List Value) (n := 4) (Nat.le_of_ble_eq_true rfl)
  rw [lg_entry_eq]
  generalize (lg_sl ([.ref h0, .ref p0, .ref p1, .ref p2] : List Value) ++ List.replicate (4 - (lg_sl ([.ref h0, .ref p0, .ref p1, .ref p2] : List Value)).length) Slot.unset).toArray = ls at hl ⊢
  have hl : lv_has ls 4 [(0, .ref h0), (1, .ref p0), (2, .ref p1), (3, .ref p2)] := hl
  refine lv_aload_n hx hb dX2_init_0 rfl (lv_at hl 0 rfl) ?_
  refine W.objInit hx hb hown (hT _ mL_X2_3) (hT _ mI_Obj) (hT _ mC_Obj) rfl (by rw [hml]; exact hl.1) rfl dX2_init_1 (Nat.le_of_ble_eq_true rfl) (Nat.le_of_ble_eq_true rfl) ?_
  refine W.eq (g2 := F0 m 4 ls []) rfl ?_
  refine lv_aload_n hx hb dX2_init_4 rfl (lv_at hl 0 rfl) ?_
  refine lv_bipush (v := (nI 20)) hx hb dX2_init_5 (by decide) ?_
  refine zz_newa (atype := .int) (ty := .int) (n := (nI 20)) (N' := 20) (a0 := (20, .inl (fun _ => 0))) hx hb (hT _ mA_int) rfl hK hP hD hS hA 0 rfl (fun _ => rfl) (by decide) (by decide) (Nat.le_of_ble_eq_true rfl) (Nat.le_of_ble_eq_true rfl) (Nat.le_of_ble_eq_true rfl) dX2_init_7 (fun q7 H hP hD hS => ?_)
  have hP : va_P D vwCl [(h0, .inr (2, [.null, .null, .null, .null, .null, .null, .int 0, .int 0, .int 0, .int 0, .int 0])), (q7, .inl (ct 0, 20, .inl (fun _ => 0)))] H := hP
  have hD : va_D A [(h0, .inr (2, [.null, .null, .null, .null, .null, .null, .int 0, .int 0, .int 0, .int 0, .int 0])), (q7, .inl (ct 0, 20, .inl (fun _ => 0)))] := hD
  refine va_putF (D := D) (ci := 2) (v := .ref q7) (ty := .array .int) (C := RX2) (T := TX2) (N := 11) hx hb hT mU_X2 tyX2 tyX2_ok nmX2 hown hK hP hD hS 0 rfl rfl 4 (by decide) (hT _ mF_X2_9) (fun _ h9 => h9) rfl hin rfl (by decide +kernel) rfl rfl (Nat.le_of_ble_eq_true rfl) dX2_init_9 (fun H locs hP hD hS => ?_)
  have hP : va_P D vwCl [(h0, .inr (2, [.null, .null, .null, .null, .ref q7, .null, .int 0, .int 0, .int 0, .int 0, .int 0])), (q7, .inl (ct 0, 20, .inl (fun _ => 0)))] H := hP
  have hD : va_D A [(h0, .inr (2, [.null, .null, .null, .null, .ref q7, .null, .int 0, .int 0, .int 0, .int 0, .int 0])), (q7, .inl (ct 0, 20, .inl (fun _ => 0)))] := hD
  refine lv_aload_n hx hb dX2_init_12 rfl (lv_at hl 0 rfl) ?_
  refine lv_bipush (v := (nI 20)) hx hb dX2_init_13 (by decide) ?_
  refine zz_newa (atype := .int) (ty := .int) (n := (nI 20)) (N' := 20) (a0 := (20, .inl (fun _ => 0))) hx hb (hT _ mA_int) rfl hK hP hD hS hA 0 rfl (fun _ => rfl) (by decide) (by decide) (Nat.le_of_ble_eq_true rfl) (Nat.le_of_ble_eq_true rfl) (Nat.le_of_ble_eq_true rfl) dX2_init_15 (fun q15 H hP hD hS => ?_)
  have hP : va_P D vwCl [(h0, .inr (2, [.null, .null, .null, .null, .ref q7, .null, .int 0, .int 0, .int 0, .int 0, .int 0])), (q7, .inl (ct 0, 20, .inl (fun _ => 0))), (q15, .inl (ct 0, 20, .inl (fun _ => 0)))] H := hP
  have hD : va_D A [(h0, .inr (2, [.null, .null, .null, .null, .ref q7, .null, .int 0, .int 0, .int 0, .int 0, .int 0])), (q7, .inl (ct 0, 20, .inl (fun _ => 0))), (q15, .inl (ct 0, 20, .inl (fun _ => 0)))] := hD
  refine va_putF (D := D) (ci := 2) (v := .ref q15) (ty := .array .int) (C := RX2) (T := TX2) (N := 11) hx hb hT mU_X2 tyX2 tyX2_ok nmX2 hown hK hP hD hS 0 rfl rfl 5 (by decide) (hT _ mF_X2_15) (fun _ h9 => h9) rfl hin rfl (by decide +kernel) rfl rfl (Nat.le_of_ble_eq_true rfl) dX2_init_17 (fun H locs hP hD hS => ?_)
  have hP : va_P D vwCl [(h0, .inr (2, [.null, .null, .null, .null, .ref q7, .ref q15, .int 0, .int 0, .int 0, .int 0, .int 0])), (q7, .inl (ct 0, 20, .inl (fun _ => 0))), (q15, .inl (ct 0, 20, .inl (fun _ => 0)))] H := hP
  have hD : va_D A [(h0, .inr (2, [.null, .null, .null, .null, .ref q7, .ref q15, .int 0, .int 0, .int 0, .int 0, .int 0])), (q7, .inl (ct 0, 20, .inl (fun _ => 0))), (q15, .inl (ct 0, 20, .inl (fun _ => 0)))] := hD
  refine lv_aload_n hx hb dX2_init_20 rfl (lv_at hl 0 rfl) ?_
  refine lv_iconst (v := (nI 0)) hx hb dX2_init_21 (by decide) ?_
  refine va_put (D := D) (ci := 2) (v := .int (nI 0)) (ty := .int) (C := RX2) (T := TX2) (N := 11) hx hb hT mU_X2 tyX2 tyX2_ok nmX2 hown hK hP hD hS 0 rfl rfl 6 (by decide) (hT _ mF_X2_18) (fun _ h9 => h9) rfl (by decide +kernel) rfl rfl (Nat.le_of_ble_eq_true rfl) dX2_init_22 (fun H locs hP hD hS => ?_)
  have hP : va_P D vwCl [(h0, .inr (2, [.null, .null, .null, .null, .ref q7, .ref q15, .int (nI 0), .int 0, .int 0, .int 0, .int 0])), (q7, .inl (ct 0, 20, .inl (fun _ => 0))), (q15, .inl (ct 0, 20, .inl (fun _ => 0)))] H := hP
  have hD : va_D A [(h0, .inr (2, [.null, .null, .null, .null, .ref q7, .ref q15, .int (nI 0), .int 0, .int 0, .int 0, .int 0])), (q7, .inl (ct 0, 20, .inl (fun _ => 0))), (q15, .inl (ct 0, 20, .inl (fun _ => 0)))] := hD
  refine lv_aload_n hx hb dX2_init_25 rfl (lv_at hl 0 rfl) ?_
  refine lv_iconst (v := (nI 0)) hx hb dX2_init_26 (by decide) ?_
  refine va_put (D := D) (ci := 2) (v := .int (nI 0)) (ty := .int) (C := RX2) (T := TX2) (N := 11) hx hb hT mU_X2 tyX2 tyX2_ok nmX2 hown hK hP hD hS 0 rfl rfl 7 (by decide) (hT _ mF_X2_22) (fun _ h9 => h9) rfl (by decide +kernel) rfl rfl (Nat.le_of_ble_eq_true rfl) dX2_init_27 (fun H locs hP hD hS => ?_)
  have hP : va_P D vwCl [(h0, .inr (2, [.null, .null, .null, .null, .ref q7, .ref q15, .int (nI 0), .int (nI 0), .int 0, .int 0, .int 0])), (q7, .inl (ct 0, 20, .inl (fun _ => 0))), (q15, .inl (ct 0, 20, .inl (fun _ => 0)))] H := hP
  have hD : va_D A [(h0, .inr (2, [.null, .null, .null, .null, .ref q7, .ref q15, .int (nI 0), .int (nI 0), .int 0, .int 0, .int 0])), (q7, .inl (ct 0, 20, .inl (fun _ => 0))), (q15, .inl (ct 0, 20, .inl (fun _ => 0)))] := hD
  refine lv_aload_n hx hb dX2_init_30 rfl (lv_at hl 0 rfl) ?_
  refine lv_iconst (v := (-1 : Int32)) hx hb dX2_init_31 (by decide) ?_
  refine va_put (D := D) (ci := 2) (v := .int (-1 : Int32)) (ty := .int) (C := RX2) (T := TX2) (N := 11) hx hb hT mU_X2 tyX2 tyX2_ok nmX2 hown hK hP hD hS 0 rfl rfl 8 (by decide) (hT _ mF_X2_25) (fun _ h9 => h9) rfl (by decide +kernel) rfl rfl (Nat.le_of_ble_eq_true rfl) dX2_init_32 (fun H locs hP hD hS => ?_)
  have hP : va_P D vwCl [(h0, .inr (2, [.null, .null, .null, .null, .ref q7, .ref q15, .int (nI 0), .int (nI 0), .int (-1 : Int32), .int 0, .int 0])), (q7, .inl (ct 0, 20, .inl (fun _ => 0))), (q15, .inl (ct 0, 20, .inl (fun _ => 0)))] H := hP
  have hD : va_D A [(h0, .inr (2, [.null, .null, .null, .null, .ref q7, .ref q15, .int (nI 0), .int (nI 0), .int (-1 : Int32), .int 0, .int 0])), (q7, .inl (ct 0, 20, .inl (fun _ => 0))), (q15, .inl (ct 0, 20, .inl (fun _ => 0)))] := hD
  refine lv_aload_n hx hb dX2_init_35 rfl (lv_at hl 0 rfl) ?_
  refine lv_iconst (v := (-1 : Int32)) hx hb dX2_init_36 (by decide) ?_
  refine va_put (D := D) (ci := 2) (v := .int (-1 : Int32)) (ty := .int) (C := RX2) (T := TX2) (N := 11) hx hb hT mU_X2 tyX2 tyX2_ok nmX2 hown hK hP hD hS 0 rfl rfl 9 (by decide) (hT _ mF_X2_28) (fun _ h9 => h9) rfl (by decide +kernel) rfl rfl (Nat.le_of_ble_eq_true rfl) dX2_init_37 (fun H locs hP hD hS => ?_)
  have hP : va_P D vwCl [(h0, .inr (2, [.null, .null, .null, .null, .ref q7, .ref q15, .int (nI 0), .int (nI 0), .int (-1 : Int32), .int (-1 : Int32), .int 0])), (q7, .inl (ct 0, 20, .inl (fun _ => 0))), (q15, .inl (ct 0, 20, .inl (fun _ => 0)))] H := hP
  have hD : va_D A [(h0, .inr (2, [.null, .null, .null, .null, .ref q7, .ref q15, .int (nI 0), .int (nI 0), .int (-1 : Int32), .int (-1 : Int32), .int 0])), (q7, .inl (ct 0, 20, .inl (fun _ => 0))), (q15, .inl (ct 0, 20, .inl (fun _ => 0)))] := hD
  refine lv_aload_n hx hb dX2_init_40 rfl (lv_at hl 0 rfl) ?_
  refine lv_iconst (v := (-1 : Int32)) hx hb dX2_init_41 (by decide) ?_
  refine va_put (D := D) (ci := 2) (v := .int (-1 : Int32)) (ty := .int) (C := RX2) (T := TX2) (N := 11) hx hb hT mU_X2 tyX2 tyX2_ok nmX2 hown hK hP hD hS 0 rfl rfl 10 (by decide) (hT _ mF_X2_31) (fun _ h9 => h9) rfl (by decide +kernel) rfl rfl (Nat.le_of_ble_eq_true rfl) dX2_init_42 (fun H locs hP hD hS => ?_)
  have hP : va_P D vwCl [(h0, .inr (2, [.null, .null, .null, .null, .ref q7, .ref q15, .int (nI 0), .int (nI 0), .int (-1 : Int32), .int (-1 : Int32), .int (-1 : Int32)])), (q7, .inl (ct 0, 20, .inl (fun _ => 0))), (q15, .inl (ct 0, 20, .inl (fun _ => 0)))] H := hP
  have hD : va_D A [(h0, .inr (2, [.null, .null, .null, .null, .ref q7, .ref q15, .int (nI 0), .int (nI 0), .int (-1 : Int32), .int (-1 : Int32), .int (-1 : Int32)])), (q7, .inl (ct 0, 20, .inl (fun _ => 0))), (q15, .inl (ct 0, 20, .inl (fun _ => 0)))] := hD
  refine lv_aload_n hx hb dX2_init_45 rfl (lv_at hl 0 rfl) ?_
  refine lv_aload_n hx hb dX2_init_46 rfl (lv_at hl 1 rfl) ?_
  refine va_putF (D := D) (ci := 2) (v := .ref p0) (ty := .object "NeedSteps$Program") (C := RX2) (T := TX2) (N := 11) hx hb hT mU_X2 tyX2 tyX2_ok nmX2 hown hK hP hD hS 0 rfl rfl 0 (by decide) (hT _ mF_X2_34) (fun _ h9 => h9) rfl hin rfl (by decide +kernel) rfl rfl (Nat.le_of_ble_eq_true rfl) dX2_init_47 (fun H locs hP hD hS => ?_)
  have hP : va_P D vwCl [(h0, .inr (2, [.ref p0, .null, .null, .null, .ref q7, .ref q15, .int (nI 0), .int (nI 0), .int (-1 : Int32), .int (-1 : Int32), .int (-1 : Int32)])), (q7, .inl (ct 0, 20, .inl (fun _ => 0))), (q15, .inl (ct 0, 20, .inl (fun _ => 0)))] H := hP
  have hD : va_D A [(h0, .inr (2, [.ref p0, .null, .null, .null, .ref q7, .ref q15, .int (nI 0), .int (nI 0), .int (-1 : Int32), .int (-1 : Int32), .int (-1 : Int32)])), (q7, .inl (ct 0, 20, .inl (fun _ => 0))), (q15, .inl (ct 0, 20, .inl (fun _ => 0)))] := hD
  refine lv_aload_n hx hb dX2_init_50 rfl (lv_at hl 0 rfl) ?_
  refine lv_aload_n hx hb dX2_init_51 rfl (lv_at hl 2 rfl) ?_
  refine va_putF (D := D) (ci := 2) (v := .ref p1) (ty := .object "NeedSteps$Graph") (C := RX2) (T := TX2) (N := 11) hx hb hT mU_X2 tyX2 tyX2_ok nmX2 hown hK hP hD hS 0 rfl rfl 1 (by decide) (hT _ mF_X2_38) (fun _ h9 => h9) rfl hin rfl (by decide +kernel) rfl rfl (Nat.le_of_ble_eq_true rfl) dX2_init_52 (fun H locs hP hD hS => ?_)
  have hP : va_P D vwCl [(h0, .inr (2, [.ref p0, .ref p1, .null, .null, .ref q7, .ref q15, .int (nI 0), .int (nI 0), .int (-1 : Int32), .int (-1 : Int32), .int (-1 : Int32)])), (q7, .inl (ct 0, 20, .inl (fun _ => 0))), (q15, .inl (ct 0, 20, .inl (fun _ => 0)))] H := hP
  have hD : va_D A [(h0, .inr (2, [.ref p0, .ref p1, .null, .null, .ref q7, .ref q15, .int (nI 0), .int (nI 0), .int (-1 : Int32), .int (-1 : Int32), .int (-1 : Int32)])), (q7, .inl (ct 0, 20, .inl (fun _ => 0))), (q15, .inl (ct 0, 20, .inl (fun _ => 0)))] := hD
  refine lv_aload_n hx hb dX2_init_55 rfl (lv_at hl 0 rfl) ?_
  refine lv_aload_n hx hb dX2_init_56 rfl (lv_at hl 3 rfl) ?_
  refine va_putF (D := D) (ci := 2) (v := .ref p2) (ty := .object "NeedSteps$Stacks") (C := RX2) (T := TX2) (N := 11) hx hb hT mU_X2 tyX2 tyX2_ok nmX2 hown hK hP hD hS 0 rfl rfl 2 (by decide) (hT _ mF_X2_42) (fun _ h9 => h9) rfl hin rfl (by decide +kernel) rfl rfl (Nat.le_of_ble_eq_true rfl) dX2_init_57 (fun H locs hP hD hS => ?_)
  have hP : va_P D vwCl [(h0, .inr (2, [.ref p0, .ref p1, .ref p2, .null, .ref q7, .ref q15, .int (nI 0), .int (nI 0), .int (-1 : Int32), .int (-1 : Int32), .int (-1 : Int32)])), (q7, .inl (ct 0, 20, .inl (fun _ => 0))), (q15, .inl (ct 0, 20, .inl (fun _ => 0)))] H := hP
  have hD : va_D A [(h0, .inr (2, [.ref p0, .ref p1, .ref p2, .null, .ref q7, .ref q15, .int (nI 0), .int (nI 0), .int (-1 : Int32), .int (-1 : Int32), .int (-1 : Int32)])), (q7, .inl (ct 0, 20, .inl (fun _ => 0))), (q15, .inl (ct 0, 20, .inl (fun _ => 0)))] := hD
  refine lv_aload_n hx hb dX2_init_60 rfl (lv_at hl 0 rfl) ?_
  refine va_new (ci := 3) (fs := [.null, .null, .null, .null, .null, .int 0]) (C := RX3) (T := TX3) (N := 6) hx hb hT mU_X3 tyX3 tyX3_ok hown (hT _ mB_X2_46) (hT _ mW_X3) (hT _ mN_X3) hK hP hD hS hA rfl (fun j hj => by rcases (show j = 0 ∨ j = 1 ∨ j = 2 ∨ j = 3 ∨ j = 4 ∨ j = 5 by omega) with rfl | rfl | rfl | rfl | rfl | rfl <;> rfl) (Nat.le_of_ble_eq_true rfl) (Nat.le_of_ble_eq_true rfl) dX2_init_61 (fun q61 H hP hD hS => ?_)
  have hP : va_P D vwCl [(h0, .inr (2, [.ref p0, .ref p1, .ref p2, .null, .ref q7, .ref q15, .int (nI 0), .int (nI 0), .int (-1 : Int32), .int (-1 : Int32), .int (-1 : Int32)])), (q7, .inl (ct 0, 20, .inl (fun _ => 0))), (q15, .inl (ct 0, 20, .inl (fun _ => 0))), (q61, .inr (3, [.null, .null, .null, .null, .null, .int 0]))] H := hP
  have hD : va_D A [(h0, .inr (2, [.ref p0, .ref p1, .ref p2, .null, .ref q7, .ref q15, .int (nI 0), .int (nI 0), .int (-1 : Int32), .int (-1 : Int32), .int (-1 : Int32)])), (q7, .inl (ct 0, 20, .inl (fun _ => 0))), (q15, .inl (ct 0, 20, .inl (fun _ => 0))), (q61, .inr (3, [.null, .null, .null, .null, .null, .int 0]))] := hD
  refine lv_dup hx hb dX2_init_64 rfl ?_
  refine lv_aload_n hx hb dX2_init_65 rfl (lv_at hl 1 rfl) ?_
  refine lv_aload_n hx hb dX2_init_66 rfl (lv_at hl 2 rfl) ?_
  have hPc := hP.sub (ws' := [(q61, .inr (3, [.null, .null, .null, .null, .null, .int 0]))]) [3] rfl
  have hDc := hD.sub (ws' := [(q61, .inr (3, [.null, .null, .null, .null, .null, .int 0]))]) [3] (by decide) rfl
  have hFc := va_free (wc := [(q61, .inr (3, [.null, .null, .null, .null, .null, .int 0]))]) hD hS hA [3] rfl
  refine va_callv (va_runI (As := [.ref p0, .ref p1]) (rest := [.ref q61, .ref h0]) ⟨hx, hb, hml, hown, hT⟩ (iX3 l D ct q61 p0 p1 H.size) (cwI 2 hT (zgI mC_X3_init) rfl rfl rfl (hT _ mN_X3) (hT _ mL_X2_48) (hT _ mI_X3_init) rfl hdiX3 ⟨Nat.le_of_ble_eq_true rfl, Nat.le_of_ble_eq_true rfl⟩) ⟨zz_blind, fun U hU hW => ⟨rfl, by rw [hU], by rw [hU]; exact hPc, va_K.moved hW.alike hK, hDc.weaken (fun _ _ _ _ => trivial)⟩⟩ rfl rfl hl.1 rfl (lv_room (Nat.le_of_ble_eq_true rfl)) dX2_init_67 ⟨Nat.le_of_ble_eq_true rfl, Nat.le_of_ble_eq_true rfl⟩) hS (fun q _ h => hFc q h) hFc (fun u67 t H1 locs ht hvm h5 hB hz1 hk1 hS => ?_)
  obtain ⟨hP1, hK1, hD1⟩ := hB
  rw [ht] at hP1
  obtain ⟨hP, hD⟩ := va_join (wr := [(h0, .inr (2, [.ref p0, .ref p1, .ref p2, .null, .ref q7, .ref q15, .int (nI 0), .int (nI 0), .int (-1 : Int32), .int (-1 : Int32), .int (-1 : Int32)])), (q7, .inl (ct 0, 20, .inl (fun _ => 0))), (q15, .inl (ct 0, 20, .inl (fun _ => 0)))]) (w1 := wX3 ct q61 p0 p1 u67) hP hD [3] [0, 1, 2] rfl rfl (by decide) (by decide) hk1 hFc hP1 hD1
  generalize H1 = H at hP hS ⊢
  have hP : va_P D vwCl [(h0, .inr (2, [.ref p0, .ref p1, .ref p2, .null, .ref q7, .ref q15, .int (nI 0), .int (nI 0), .int (-1 : Int32), .int (-1 : Int32), .int (-1 : Int32)])), (q7, .inl (ct 0, 20, .inl (fun _ => 0))), (q15, .inl (ct 0, 20, .inl (fun _ => 0))), (q61, .inr (3, [.ref p0, .ref p1, .ref (u67 0), .ref (u67 1), .ref (u67 2), .int (nI 0)])), ((u67 0), .inl (ct 0, 8, .inl (fun _ => 0))), ((u67 1), .inl (ct 0, 72, .inl (fun _ => 0))), ((u67 2), .inl (ct 0, 130, .inl (fun _ => 0)))] H := hP
  have hD : va_D A [(h0, .inr (2, [.ref p0, .ref p1, .ref p2, .null, .ref q7, .ref q15, .int (nI 0), .int (nI 0), .int (-1 : Int32), .int (-1 : Int32), .int (-1 : Int32)])), (q7, .inl (ct 0, 20, .inl (fun _ => 0))), (q15, .inl (ct 0, 20, .inl (fun _ => 0))), (q61, .inr (3, [.ref p0, .ref p1, .ref (u67 0), .ref (u67 1), .ref (u67 2), .int (nI 0)])), ((u67 0), .inl (ct 0, 8, .inl (fun _ => 0))), ((u67 1), .inl (ct 0, 72, .inl (fun _ => 0))), ((u67 2), .inl (ct 0, 130, .inl (fun _ => 0)))] := hD
  refine va_putF (D := D) (ci := 2) (v := .ref q61) (ty := .object "NeedSteps$Maker") (C := RX2) (T := TX2) (N := 11) hx hb hT mU_X2 tyX2 tyX2_ok nmX2 hown hK hP hD hS 0 rfl rfl 3 (by decide) (hT _ mF_X2_51) (fun _ h9 => h9) rfl hin rfl (by decide +kernel) rfl rfl (Nat.le_of_ble_eq_true rfl) dX2_init_70 (fun H locs hP hD hS => ?_)
  have hP : va_P D vwCl [(h0, .inr (2, [.ref p0, .ref p1, .ref p2, .ref q61, .ref q7, .ref q15, .int (nI 0), .int (nI 0), .int (-1 : Int32), .int (-1 : Int32), .int (-1 : Int32)])), (q7, .inl (ct 0, 20, .inl (fun _ => 0))), (q15, .inl (ct 0, 20, .inl (fun _ => 0))), (q61, .inr (3, [.ref p0, .ref p1, .ref (u67 0), .ref (u67 1), .ref (u67 2), .int (nI 0)])), ((u67 0), .inl (ct 0, 8, .inl (fun _ => 0))), ((u67 1), .inl (ct 0, 72, .inl (fun _ => 0))), ((u67 2), .inl (ct 0, 130, .inl (fun _ => 0)))] H := hP
  have hD : va_D A [(h0, .inr (2, [.ref p0, .ref p1, .ref p2, .ref q61, .ref q7, .ref q15, .int (nI 0), .int (nI 0), .int (-1 : Int32), .int (-1 : Int32), .int (-1 : Int32)])), (q7, .inl (ct 0, 20, .inl (fun _ => 0))), (q15, .inl (ct 0, 20, .inl (fun _ => 0))), (q61, .inr (3, [.ref p0, .ref p1, .ref (u67 0), .ref (u67 1), .ref (u67 2), .int (nI 0)])), ((u67 0), .inl (ct 0, 8, .inl (fun _ => 0))), ((u67 1), .inl (ct 0, 72, .inl (fun _ => 0))), ((u67 2), .inl (ct 0, 130, .inl (fun _ => 0)))] := hD
  refine W.widen (k := 6) (n := 256) (Nat.le_of_ble_eq_true rfl) (Nat.le_of_ble_eq_true rfl) ?_
  exact W.vret hx hb hr (fun t ht hW => ⟨⟨fun k => ([q7, q15, q61, (u67 0), (u67 1), (u67 2)] : List Nat).getD k 0, rfl, trivial, by rw [ht]; exact hP, va_K.moved hW.alike hK, hD⟩, hS.F ht⟩) hS.2.2 dX2_init_73 hlocks
