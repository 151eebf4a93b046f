/-! Tokens(): the words that are no NAMES, out of one text -/
def fW : Nat → Int32 := fun j => ([97, 100, 100, 32, 115, 117, 98, 32, 109, 117, 108, 32, 113, 117, 111, 32, 108, 101, 115, 115, 32, 115, 97, 109, 101, 32, 105, 102, 32, 99, 111, 110, 115, 32, 110, 105, 108, 32, 104, 101, 97, 100, 32, 116, 97, 105, 108, 32, 101, 109, 112, 116, 121, 32, 115, 101, 113, 32, 108, 101, 116, 32, 105, 110, 32] : List Int32).getD j 0
def tkS (i : Nat) (t : Nat × Int64 × (Nat → Int64)) : Nat × Int64 × (Nat → Int64) := if fW i &&& 255 = nI 32 then (t.1 + 1, 0, vp_updL t.2.2 t.1 t.2.1) else (t.1, (t.2.1 <<< ((nI 8).toInt64 &&& 63)) ||| (fW i &&& 255).toInt64, t.2.2)
def tkF : Nat → Nat × Int64 × (Nat → Int64)
  | 0 => (0, 0, fun _ => 0)
  | i + 1 => tkS i (tkF i)
theorem tk_a {i w : Nat} {lt : Int64} {g : Nat → Int64} (h : tkF i = (w, lt, g)) (hc : fW i &&& 255 = nI 32) : tkF (i + 1) = (w + 1, 0, vp_updL g w lt) := by
  show tkS i (tkF i) = _
  rw [h]
  unfold tkS
  rw [if_pos hc]
theorem tk_b {i w : Nat} {lt lt' : Int64} {g : Nat → Int64} (h : tkF i = (w, lt, g)) (hc : ¬ fW i &&& 255 = nI 32) (hl : (lt <<< ((nI 8).toInt64 &&& 63)) ||| (fW i &&& 255).toInt64 = lt') : tkF (i + 1) = (w, lt', g) := by
  show tkS i (tkF i) = _
  rw [h]
  unfold tkS
  rw [if_neg hc, ← hl]
theorem tk_0 : tkF 0 = (0, 0, fun _ => 0) := rfl
theorem tk_1 : tkF 1 = (0, 97, (fun _ => 0)) := tk_b tk_0 (by decide) (by decide)
theorem tk_2 : tkF 2 = (0, 24932, (fun _ => 0)) := tk_b tk_1 (by decide) (by decide)
theorem tk_3 : tkF 3 = (0, 6382692, (fun _ => 0)) := tk_b tk_2 (by decide) (by decide)
def gW1 : Nat → Int64 := vp_updL (fun _ => 0) 0 6382692
theorem tk_4 : tkF 4 = (1, 0, gW1) := tk_a tk_3 (by decide)
theorem tk_5 : tkF 5 = (1, 115, gW1) := tk_b tk_4 (by decide) (by decide)
theorem tk_6 : tkF 6 = (1, 29557, gW1) := tk_b tk_5 (by decide) (by decide)
theorem tk_7 : tkF 7 = (1, 7566690, gW1) := tk_b tk_6 (by decide) (by decide)
def gW2 : Nat → Int64 := vp_updL gW1 1 7566690
theorem tk_8 : tkF 8 = (2, 0, gW2) := tk_a tk_7 (by decide)
theorem tk_9 : tkF 9 = (2, 109, gW2) := tk_b tk_8 (by decide) (by decide)
theorem tk_10 : tkF 10 = (2, 28021, gW2) := tk_b tk_9 (by decide) (by decide)
theorem tk_11 : tkF 11 = (2, 7173484, gW2) := tk_b tk_10 (by decide) (by decide)
def gW3 : Nat → Int64 := vp_updL gW2 2 7173484
theorem tk_12 : tkF 12 = (3, 0, gW3) := tk_a tk_11 (by decide)
theorem tk_13 : tkF 13 = (3, 113, gW3) := tk_b tk_12 (by decide) (by decide)
theorem tk_14 : tkF 14 = (3, 29045, gW3) := tk_b tk_13 (by decide) (by decide)
theorem tk_15 : tkF 15 = (3, 7435631, gW3) := tk_b tk_14 (by decide) (by decide)
def gW4 : Nat → Int64 := vp_updL gW3 3 7435631
theorem tk_16 : tkF 16 = (4, 0, gW4) := tk_a tk_15 (by decide)
theorem tk_17 : tkF 17 = (4, 108, gW4) := tk_b tk_16 (by decide) (by decide)
theorem tk_18 : tkF 18 = (4, 27749, gW4) := tk_b tk_17 (by decide) (by decide)
theorem tk_19 : tkF 19 = (4, 7103859, gW4) := tk_b tk_18 (by decide) (by decide)
theorem tk_20 : tkF 20 = (4, 1818588019, gW4) := tk_b tk_19 (by decide) (by decide)
def gW5 : Nat → Int64 := vp_updL gW4 4 1818588019
theorem tk_21 : tkF 21 = (5, 0, gW5) := tk_a tk_20 (by decide)
theorem tk_22 : tkF 22 = (5, 115, gW5) := tk_b tk_21 (by decide) (by decide)
theorem tk_23 : tkF 23 = (5, 29537, gW5) := tk_b tk_22 (by decide) (by decide)
theorem tk_24 : tkF 24 = (5, 7561581, gW5) := tk_b tk_23 (by decide) (by decide)
theorem tk_25 : tkF 25 = (5, 1935764837, gW5) := tk_b tk_24 (by decide) (by decide)
def gW6 : Nat → Int64 := vp_updL gW5 5 1935764837
theorem tk_26 : tkF 26 = (6, 0, gW6) := tk_a tk_25 (by decide)
theorem tk_27 : tkF 27 = (6, 105, gW6) := tk_b tk_26 (by decide) (by decide)
theorem tk_28 : tkF 28 = (6, 26982, gW6) := tk_b tk_27 (by decide) (by decide)
def gW7 : Nat → Int64 := vp_updL gW6 6 26982
theorem tk_29 : tkF 29 = (7, 0, gW7) := tk_a tk_28 (by decide)
theorem tk_30 : tkF 30 = (7, 99, gW7) := tk_b tk_29 (by decide) (by decide)
theorem tk_31 : tkF 31 = (7, 25455, gW7) := tk_b tk_30 (by decide) (by decide)
theorem tk_32 : tkF 32 = (7, 6516590, gW7) := tk_b tk_31 (by decide) (by decide)
theorem tk_33 : tkF 33 = (7, 1668247155, gW7) := tk_b tk_32 (by decide) (by decide)
def gW8 : Nat → Int64 := vp_updL gW7 7 1668247155
theorem tk_34 : tkF 34 = (8, 0, gW8) := tk_a tk_33 (by decide)
theorem tk_35 : tkF 35 = (8, 110, gW8) := tk_b tk_34 (by decide) (by decide)
theorem tk_36 : tkF 36 = (8, 28265, gW8) := tk_b tk_35 (by decide) (by decide)
theorem tk_37 : tkF 37 = (8, 7235948, gW8) := tk_b tk_36 (by decide) (by decide)
def gW9 : Nat → Int64 := vp_updL gW8 8 7235948
theorem tk_38 : tkF 38 = (9, 0, gW9) := tk_a tk_37 (by decide)
theorem tk_39 : tkF 39 = (9, 104, gW9) := tk_b tk_38 (by decide) (by decide)
theorem tk_40 : tkF 40 = (9, 26725, gW9) := tk_b tk_39 (by decide) (by decide)
theorem tk_41 : tkF 41 = (9, 6841697, gW9) := tk_b tk_40 (by decide) (by decide)
theorem tk_42 : tkF 42 = (9, 1751474532, gW9) := tk_b tk_41 (by decide) (by decide)
def gW10 : Nat → Int64 := vp_updL gW9 9 1751474532
theorem tk_43 : tkF 43 = (10, 0, gW10) := tk_a tk_42 (by decide)
theorem tk_44 : tkF 44 = (10, 116, gW10) := tk_b tk_43 (by decide) (by decide)
theorem tk_45 : tkF 45 = (10, 29793, gW10) := tk_b tk_44 (by decide) (by decide)
theorem tk_46 : tkF 46 = (10, 7627113, gW10) := tk_b tk_45 (by decide) (by decide)
theorem tk_47 : tkF 47 = (10, 1952541036, gW10) := tk_b tk_46 (by decide) (by decide)
def gW11 : Nat → Int64 := vp_updL gW10 10 1952541036
theorem tk_48 : tkF 48 = (11, 0, gW11) := tk_a tk_47 (by decide)
theorem tk_49 : tkF 49 = (11, 101, gW11) := tk_b tk_48 (by decide) (by decide)
theorem tk_50 : tkF 50 = (11, 25965, gW11) := tk_b tk_49 (by decide) (by decide)
theorem tk_51 : tkF 51 = (11, 6647152, gW11) := tk_b tk_50 (by decide) (by decide)
theorem tk_52 : tkF 52 = (11, 1701671028, gW11) := tk_b tk_51 (by decide) (by decide)
theorem tk_53 : tkF 53 = (11, 435627783289, gW11) := tk_b tk_52 (by decide) (by decide)
def gW12 : Nat → Int64 := vp_updL gW11 11 435627783289
theorem tk_54 : tkF 54 = (12, 0, gW12) := tk_a tk_53 (by decide)
theorem tk_55 : tkF 55 = (12, 115, gW12) := tk_b tk_54 (by decide) (by decide)
theorem tk_56 : tkF 56 = (12, 29541, gW12) := tk_b tk_55 (by decide) (by decide)
theorem tk_57 : tkF 57 = (12, 7562609, gW12) := tk_b tk_56 (by decide) (by decide)
def gW13 : Nat → Int64 := vp_updL gW12 12 7562609
theorem tk_58 : tkF 58 = (13, 0, gW13) := tk_a tk_57 (by decide)
theorem tk_59 : tkF 59 = (13, 108, gW13) := tk_b tk_58 (by decide) (by decide)
theorem tk_60 : tkF 60 = (13, 27749, gW13) := tk_b tk_59 (by decide) (by decide)
theorem tk_61 : tkF 61 = (13, 7103860, gW13) := tk_b tk_60 (by decide) (by decide)
def gW14 : Nat → Int64 := vp_updL gW13 13 7103860
theorem tk_62 : tkF 62 = (14, 0, gW14) := tk_a tk_61 (by decide)
theorem tk_63 : tkF 63 = (14, 105, gW14) := tk_b tk_62 (by decide) (by decide)
theorem tk_64 : tkF 64 = (14, 26990, gW14) := tk_b tk_63 (by decide) (by decide)
def gW15 : Nat → Int64 := vp_updL gW14 14 26990
theorem tk_65 : tkF 65 = (15, 0, gW15) := tk_a tk_64 (by decide)
def wcW : Nat → Nat
  | 0 => 0
  | i + 1 => wcW i + (if fW i &&& 255 = nI 32 then 1 else 0)
theorem wc_eq : ∀ i, (tkF i).1 = wcW i := by
  intro i
  induction i with
  | zero => rfl
  | succ i ih =>
    show (tkS i (tkF i)).1 = wcW i + (if fW i &&& 255 = nI 32 then 1 else 0)
    unfold tkS
    by_cases z : fW i &&& 255 = nI 32
    · rw [if_pos z, if_pos z, ih]
    · rw [if_neg z, if_neg z, ih]; rfl
theorem wc_lt : ∀ i, i < 65 → wcW i < 15 := by decide +kernel
theorem tw_lt (i : Nat) (h : i < 65) : (tkF i).1 < 15 := by rw [wc_eq]; exact wc_lt i h
def wdL : List Int64 := [6382692, 7566690, 7173484, 7435631, 1818588019, 1935764837, 26982, 1668247155, 7235948, 1751474532, 1952541036, 435627783289, 7562609, 7103860, 26990]
theorem gW_eq : ∀ i, i < 15 → gW15 i = wdL.getD i 0 := by decide +kernel
abbrev zText : String := "add sub mul quo less same if cons nil head tail empty seq let in "
theorem hdiX8 : yX8_init.cls ≠ "java/lang/invoke/MethodHandle" ∧ yX8_init.cls ≠ "java/lang/invoke/VarHandle" ∧ (parseMethodDescriptor yX8_init.desc).map (fun d => d.parameters.length) = some 1 := by decide +kernel
abbrev vX8_init : List Cond := Cond.code yX8_init cX8_init 7 none :: zTB
/-- the cells behind the constructor: the object, what it made -/
def wX8 (ct : Nat → ClassId) (h0 : Nat) (p0 : Nat) (q : Nat → Nat) : va_W := [(h0, .inr (8, [.ref p0, .ref (q 0), .int (nI 0), .int (nI 0), .int (nI 0), .int (nI 0), .long (0 : Int64)])), (q 0, .inl (ct 1, 15, .inr (.inl gW15)))]
set_option maxHeartbeats 8000000 in
set_option maxRecDepth 100000 in
theorem iX8 (l : Launch) (D : va_G) (ct : Nat → ClassId) (h0 : Nat) (p0 : Nat) (sz ad av : Nat) : Met l yX8_init vX8_init { frames := 4, cells := 1, slots := 15, locals := 85 } (va_Pc [.ref h0, .ref p0] (fun U => U.heap.size = sz ∧ va_P D vwCl [(h0, .inr (8, [.null, .null, .int 0, .int 0, .int 0, .int 0, .long 0]))] U.heap ∧ va_K D vwCl (ztc ct) U ∧ va_D (fun _ => True) [(h0, .inr (8, [.null, .null, .int 0, .int 0, .int 0, .int 0, .long 0]))] ∧ vk_R RX8 36 zText ad U ∧ zSP ad av 65 fW (va_A [(h0, .inr (8, [.null, .null, .int 0, .int 0, .int 0, .int 0, .long 0]))] sz) U U.heap)) (va_Qv (fun _ : Nat → Nat => True) (fun q t => va_P D vwCl (wX8 ct h0 p0 q) t.heap ∧ va_K D vwCl (ztc ct) t ∧ va_D (va_A [(h0, .inr (8, [.null, .null, .int 0, .int 0, .int 0, .int 0, .long 0]))] sz) (wX8 ct h0 p0 q)) (va_A [(h0, .inr (8, [.null, .null, .int 0, .int 0, .int 0, .int 0, .long 0]))] sz)) 1 15 (va_A [(h0, .inr (8, [.null, .null, .int 0, .int 0, .int 0, .int 0, .long 0]))] sz) := by
  refine Met.ofW (cc := cX8_init) (maxL := 7) (ret := none) (by decide) rfl ?_
  intro p e s m args below meth c s₁ B hml hv
  obtain ⟨rfl, hsz, hP, hK, hD0, hR, hZ⟩ := hv
  have hx := B.exec
  have hb := B.bytes
  have hr := B.returns
  have hts := atoms_spec (ws := vX8_init) B.pre
  have hT : ∀ w ∈ zTB, w.before ([.ref h0, .ref p0] : List Value).toArray s = true := fun w h => hts w (List.mem_cons_of_mem _ h)
  have hown : s.vm.findClass RX8 = some m.cls := findClass_of_methodNamed B.named
  have hlocks := B.notSynchronized
  have hin : meth.name = "<init>" := (name_of_methodNamed B.named B.method).1
  subst hsz
  have hD := hD0.self (sz := s.heap.size)
  generalize hAe : va_A [(h0, .inr (8, [.null, .null, .int 0, .int 0, .int 0, .int 0, .long 0]))] s.heap.size = A at hD hZ ⊢
  have hA : ∀ q : Nat, s.heap.size ≤ q → A q := fun q h => by rw [← hAe]; exact Or.inr h
  have hS : va_S A s.heap s.heap [] := va_S.rf
  have hP : va_P D vwCl [(h0, .inr (8, [.null, .null, .int 0, .int 0, .int 0, .int 0, .long 0]))] s.heap := hP
  have hl := lv_entry ([.ref h0, .ref p0] : List Value) (n := 7) (Nat.le_of_ble_eq_true rfl)
  rw [lg_entry_eq]
  generalize (lg_sl ([.ref h0, .ref p0] : List Value) ++ List.replicate (7 - (lg_sl ([.ref h0, .ref p0] : List Value)).length) Slot.unset).toArray = ls at hl ⊢
  have hl : lv_has ls 7 [(0, .ref h0), (1, .ref p0)] := hl
  refine lv_aload_n hx hb dX8_init_0 rfl (lv_at hl 0 rfl) ?_
  refine W.objInit hx hb hown (hT _ mL_X8_3) (hT _ mI_Obj) (hT _ mC_Obj) rfl (by rw [hml]; exact hl.1) rfl dX8_init_1 (Nat.le_of_ble_eq_true rfl) (Nat.le_of_ble_eq_true rfl) ?_
  refine W.eq (g2 := F0 m 4 ls []) rfl ?_
  refine lv_aload_n hx hb dX8_init_4 rfl (lv_at hl 0 rfl) ?_
  refine lv_bipush (v := (nI 15)) hx hb dX8_init_5 (by decide) ?_
  refine zz_newa (atype := .long) (ty := .long) (n := (nI 15)) (N' := 15) (a0 := (15, .inr (.inl (fun _ => 0)))) hx hb (hT _ mA_long) rfl hK hP hD hS hA 1 rfl (fun _ => rfl) (by decide) (by decide) (Nat.le_of_ble_eq_true rfl) (Nat.le_of_ble_eq_true rfl) (Nat.le_of_ble_eq_true rfl) dX8_init_7 (fun q7 H hP hD hS => ?_)
  have hP : va_P D vwCl [(h0, .inr (8, [.null, .null, .int 0, .int 0, .int 0, .int 0, .long 0])), (q7, .inl (ct 1, 15, .inr (.inl (fun _ => 0))))] H := hP
  have hD : va_D A [(h0, .inr (8, [.null, .null, .int 0, .int 0, .int 0, .int 0, .long 0])), (q7, .inl (ct 1, 15, .inr (.inl (fun _ => 0))))] := hD
  refine va_putF (D := D) (ci := 8) (v := .ref q7) (ty := .array .long) (C := RX8) (T := TX8) (N := 7) hx hb hT mU_X8 tyX8 tyX8_ok nmX8 hown hK hP hD hS 0 rfl rfl 1 (by decide) (hT _ mF_X8_11) (fun _ h9 => h9) rfl hin rfl (by decide +kernel) rfl rfl (Nat.le_of_ble_eq_true rfl) dX8_init_9 (fun H locs hP hD hS => ?_)
  have hP : va_P D vwCl [(h0, .inr (8, [.null, .ref q7, .int 0, .int 0, .int 0, .int 0, .long 0])), (q7, .inl (ct 1, 15, .inr (.inl (fun _ => 0))))] H := hP
  have hD : va_D A [(h0, .inr (8, [.null, .ref q7, .int 0, .int 0, .int 0, .int 0, .long 0])), (q7, .inl (ct 1, 15, .inr (.inl (fun _ => 0))))] := hD
  refine lv_aload_n hx hb dX8_init_12 rfl (lv_at hl 0 rfl) ?_
  refine lv_iconst (v := (nI 0)) hx hb dX8_init_13 (by decide) ?_
  refine va_put (D := D) (ci := 8) (v := .int (nI 0)) (ty := .int) (C := RX8) (T := TX8) (N := 7) hx hb hT mU_X8 tyX8 tyX8_ok nmX8 hown hK hP hD hS 0 rfl rfl 2 (by decide) (hT _ mF_X8_15) (fun _ h9 => h9) rfl (by decide +kernel) rfl rfl (Nat.le_of_ble_eq_true rfl) dX8_init_14 (fun H locs hP hD hS => ?_)
  have hP : va_P D vwCl [(h0, .inr (8, [.null, .ref q7, .int (nI 0), .int 0, .int 0, .int 0, .long 0])), (q7, .inl (ct 1, 15, .inr (.inl (fun _ => 0))))] H := hP
  have hD : va_D A [(h0, .inr (8, [.null, .ref q7, .int (nI 0), .int 0, .int 0, .int 0, .long 0])), (q7, .inl (ct 1, 15, .inr (.inl (fun _ => 0))))] := hD
  refine lv_aload_n hx hb dX8_init_17 rfl (lv_at hl 0 rfl) ?_
  refine lv_iconst (v := (nI 0)) hx hb dX8_init_18 (by decide) ?_
  refine va_put (D := D) (ci := 8) (v := .int (nI 0)) (ty := .int) (C := RX8) (T := TX8) (N := 7) hx hb hT mU_X8 tyX8 tyX8_ok nmX8 hown hK hP hD hS 0 rfl rfl 3 (by decide) (hT _ mF_X8_19) (fun _ h9 => h9) rfl (by decide +kernel) rfl rfl (Nat.le_of_ble_eq_true rfl) dX8_init_19 (fun H locs hP hD hS => ?_)
  have hP : va_P D vwCl [(h0, .inr (8, [.null, .ref q7, .int (nI 0), .int (nI 0), .int 0, .int 0, .long 0])), (q7, .inl (ct 1, 15, .inr (.inl (fun _ => 0))))] H := hP
  have hD : va_D A [(h0, .inr (8, [.null, .ref q7, .int (nI 0), .int (nI 0), .int 0, .int 0, .long 0])), (q7, .inl (ct 1, 15, .inr (.inl (fun _ => 0))))] := hD
  refine lv_aload_n hx hb dX8_init_22 rfl (lv_at hl 0 rfl) ?_
  refine lv_iconst (v := (nI 0)) hx hb dX8_init_23 (by decide) ?_
  refine va_put (D := D) (ci := 8) (v := .int (nI 0)) (ty := .int) (C := RX8) (T := TX8) (N := 7) hx hb hT mU_X8 tyX8 tyX8_ok nmX8 hown hK hP hD hS 0 rfl rfl 4 (by decide) (hT _ mF_X8_22) (fun _ h9 => h9) rfl (by decide +kernel) rfl rfl (Nat.le_of_ble_eq_true rfl) dX8_init_24 (fun H locs hP hD hS => ?_)
  have hP : va_P D vwCl [(h0, .inr (8, [.null, .ref q7, .int (nI 0), .int (nI 0), .int (nI 0), .int 0, .long 0])), (q7, .inl (ct 1, 15, .inr (.inl (fun _ => 0))))] H := hP
  have hD : va_D A [(h0, .inr (8, [.null, .ref q7, .int (nI 0), .int (nI 0), .int (nI 0), .int 0, .long 0])), (q7, .inl (ct 1, 15, .inr (.inl (fun _ => 0))))] := hD
  refine lv_aload_n hx hb dX8_init_27 rfl (lv_at hl 0 rfl) ?_
  refine lv_iconst (v := (nI 0)) hx hb dX8_init_28 (by decide) ?_
  refine va_put (D := D) (ci := 8) (v := .int (nI 0)) (ty := .int) (C := RX8) (T := TX8) (N := 7) hx hb hT mU_X8 tyX8 tyX8_ok nmX8 hown hK hP hD hS 0 rfl rfl 5 (by decide) (hT _ mF_X8_25) (fun _ h9 => h9) rfl (by decide +kernel) rfl rfl (Nat.le_of_ble_eq_true rfl) dX8_init_29 (fun H locs hP hD hS => ?_)
  have hP : va_P D vwCl [(h0, .inr (8, [.null, .ref q7, .int (nI 0), .int (nI 0), .int (nI 0), .int (nI 0), .long 0])), (q7, .inl (ct 1, 15, .inr (.inl (fun _ => 0))))] H := hP
  have hD : va_D A [(h0, .inr (8, [.null, .ref q7, .int (nI 0), .int (nI 0), .int (nI 0), .int (nI 0), .long 0])), (q7, .inl (ct 1, 15, .inr (.inl (fun _ => 0))))] := hD
  refine lv_aload_n hx hb dX8_init_32 rfl (lv_at hl 0 rfl) ?_
  refine lv_lconst (v := (0 : Int64)) hx hb dX8_init_33 (by decide) ?_
  refine va_put (D := D) (ci := 8) (v := .long (0 : Int64)) (ty := .long) (C := RX8) (T := TX8) (N := 7) hx hb hT mU_X8 tyX8 tyX8_ok nmX8 hown hK hP hD hS 0 rfl rfl 6 (by decide) (hT _ mF_X8_28) (fun _ h9 => h9) rfl (by decide +kernel) rfl rfl (Nat.le_of_ble_eq_true rfl) dX8_init_34 (fun H locs hP hD hS => ?_)
  have hP : va_P D vwCl [(h0, .inr (8, [.null, .ref q7, .int (nI 0), .int (nI 0), .int (nI 0), .int (nI 0), .long (0 : Int64)])), (q7, .inl (ct 1, 15, .inr (.inl (fun _ => 0))))] H := hP
  have hD : va_D A [(h0, .inr (8, [.null, .ref q7, .int (nI 0), .int (nI 0), .int (nI 0), .int (nI 0), .long (0 : Int64)])), (q7, .inl (ct 1, 15, .inr (.inl (fun _ => 0))))] := hD
  refine lv_aload_n hx hb dX8_init_37 rfl (lv_at hl 0 rfl) ?_
  refine lv_aload_n hx hb dX8_init_38 rfl (lv_at hl 1 rfl) ?_
  refine va_putF (D := D) (ci := 8) (v := .ref p0) (ty := .object "NeedSteps$Tape") (C := RX8) (T := TX8) (N := 7) hx hb hT mU_X8 tyX8 tyX8_ok nmX8 hown hK hP hD hS 0 rfl rfl 0 (by decide) (hT _ mF_X8_32) (fun _ h9 => h9) rfl hin rfl (by decide +kernel) rfl rfl (Nat.le_of_ble_eq_true rfl) dX8_init_39 (fun H locs hP hD hS => ?_)
  have hP : va_P D vwCl [(h0, .inr (8, [.ref p0, .ref q7, .int (nI 0), .int (nI 0), .int (nI 0), .int (nI 0), .long (0 : Int64)])), (q7, .inl (ct 1, 15, .inr (.inl (fun _ => 0))))] H := hP
  have hD : va_D A [(h0, .inr (8, [.ref p0, .ref q7, .int (nI 0), .int (nI 0), .int (nI 0), .int (nI 0), .long (0 : Int64)])), (q7, .inl (ct 1, 15, .inr (.inl (fun _ => 0))))] := hD
  refine W.widen (k := 1) (n := 15) (Nat.le_of_ble_eq_true rfl) (Nat.le_of_ble_eq_true rfl) ?_
  have done : ∀ (H : Heap) (locs : List Loc) (ls : Array Slot), va_P D vwCl [(h0, .inr (8, [.ref p0, .ref q7, .int (nI 0), .int (nI 0), .int (nI 0), .int (nI 0), .long (0 : Int64)])), (q7, .inl (ct 1, 15, .inr (.inl (tkF 65).2.2)))] H → va_D A [(h0, .inr (8, [.ref p0, .ref q7, .int (nI 0), .int (nI 0), .int (nI 0), .int (nI 0), .long (0 : Int64)])), (q7, .inl (ct 1, 15, .inr (.inl (tkF 65).2.2)))] → va_S A s.heap H locs → W p l e { frames := 4, cells := 1, slots := 15, locals := 85 } s m ([.ref h0, .ref p0] : List Value).toArray below meth c H locs 1 15 (MQ below (va_Qv (fun _ : Nat → Nat => True) (fun q t => va_P D vwCl (wX8 ct h0 p0 q) t.heap ∧ va_K D vwCl (ztc ct) t ∧ va_D A (wX8 ct h0 p0 q)) A) ([.ref h0, .ref p0] : List Value).toArray s 1 15 A) (F0 m 114 ls []) := fun H locs ls hP hD hS => by
    rw [tk_65] at hP hD
    exact W.vret hx hb hr (fun t ht hW => ⟨⟨fun k => ([q7] : List Nat).getD k 0, rfl, trivial, by rw [ht]; exact hP, va_K.moved hW.alike hK, hD⟩, hS.F ht⟩) hS.2.2 dX8_init_114 hlocks
  have loop : ∀ (k i : Nat) (H : Heap) (locs : List Loc) (ls : Array Slot), i + k = 65 → va_P D vwCl [(h0, .inr (8, [.ref p0, .ref q7, .int (nI 0), .int (nI 0), .int (nI 0), .int (nI 0), .long (0 : Int64)])), (q7, .inl (ct 1, 15, .inr (.inl (tkF i).2.2)))] H → va_D A [(h0, .inr (8, [.ref p0, .ref q7, .int (nI 0), .int (nI 0), .int (nI 0), .int (nI 0), .long (0 : Int64)])), (q7, .inl (ct 1, 15, .inr (.inl (tkF i).2.2)))] → va_S A s.heap H locs → lv_has ls 7 [(5, .int (nI i)), (3, .long (tkF i).2.1), (2, .int (nI (tkF i).1)), (0, .ref h0), (1, .ref p0)] → W p l e { frames := 4, cells := 1, slots := 15, locals := 85 } s m ([.ref h0, .ref p0] : List Value).toArray below meth c H locs 1 15 (MQ below (va_Qv (fun _ : Nat → Nat => True) (fun q t => va_P D vwCl (wX8 ct h0 p0 q) t.heap ∧ va_K D vwCl (ztc ct) t ∧ va_D A (wX8 ct h0 p0 q)) A) ([.ref h0, .ref p0] : List Value).toArray s 1 15 A) (F0 m 49 ls []) := by
    intro k
    induction k with
    | zero =>
      intro i H locs ls hi hP hD hS hl
      have ei : i = 65 := by omega
      refine lv_iload hx hb dX8_init_49 (lv_at hl 0 rfl) ?_
      refine va_ldcS hx hb hown hR dX8_init_51 ?_
      have hZH := (hZ.kept hS.2.1).narrow (B := zNo) (fun q h => h.elim)
      refine va_calli (va_runV (As := []) (rest := [.int (nI i)]) ⟨hx, hb, hml, hown, hT⟩ (jLen l (ad := ad) (av := av) (n := 65) (f := fW) (by decide)) (cwV 0 hT (zgV mL_X8_38 mI_S_len mS_S_len mN_S mC_S_len) rfl rfl rfl hdS_len ⟨Nat.le_of_ble_eq_true rfl, Nat.le_of_ble_eq_true rfl⟩) ⟨zblS, by obtain ⟨cell, h1, h2, h3, -⟩ := hZH.1; exact ⟨cell, h1, h2, h3⟩, fun U hU hW => ⟨rfl, zSP.put hU hW.alike hZH⟩⟩ rfl rfl hl.1 rfl (lv_room (Nat.le_of_ble_eq_true rfl)) dX8_init_53 ⟨Nat.le_of_ble_eq_true rfl, Nat.le_of_ble_eq_true rfl⟩) hS (fun q _ h => h.elim) (fun q h => h.elim) (fun r u t H1 locs ht hvm h5 hB hz1 hk1 hS => ?_)
      subst h5
      have hk : ∀ (j : Nat) (x : Nat × va_E), ([(h0, .inr (8, [.ref p0, .ref q7, .int (nI 0), .int (nI 0), .int (nI 0), .int (nI 0), .long (0 : Int64)])), (q7, .inl (ct 1, 15, .inr (.inl (tkF i).2.2)))] : va_W)[j]? = some x → H1[x.1]? = H[x.1]? := fun j x hx => hk1 x.1 ((hP j x hx).lt) (fun h => h.elim)
      have hP := hP.kept hk
      refine lv_icmp_ge (tgt := 114) hx hb dX8_init_56 (by decide) (fun _ => ?_) (fun q => absurd (qle (by omega)) q)
      rw [ei] at hP hD
      exact done H1 locs ls hP hD hS
    | succ k ih =>
      intro i H locs ls hi hP hD hS hl
      have hw := tw_lt i (by omega)
      refine lv_iload hx hb dX8_init_49 (lv_at hl 0 rfl) ?_
      refine va_ldcS hx hb hown hR dX8_init_51 ?_
      have hZH := (hZ.kept hS.2.1).narrow (B := zNo) (fun q h => h.elim)
      refine va_calli (va_runV (As := []) (rest := [.int (nI i)]) ⟨hx, hb, hml, hown, hT⟩ (jLen l (ad := ad) (av := av) (n := 65) (f := fW) (by decide)) (cwV 0 hT (zgV mL_X8_38 mI_S_len mS_S_len mN_S mC_S_len) rfl rfl rfl hdS_len ⟨Nat.le_of_ble_eq_true rfl, Nat.le_of_ble_eq_true rfl⟩) ⟨zblS, by obtain ⟨cell, h1, h2, h3, -⟩ := hZH.1; exact ⟨cell, h1, h2, h3⟩, fun U hU hW => ⟨rfl, zSP.put hU hW.alike hZH⟩⟩ rfl rfl hl.1 rfl (lv_room (Nat.le_of_ble_eq_true rfl)) dX8_init_53 ⟨Nat.le_of_ble_eq_true rfl, Nat.le_of_ble_eq_true rfl⟩) hS (fun q _ h => h.elim) (fun q h => h.elim) (fun r u t H1 locs ht hvm h5 hB hz1 hk1 hS => ?_)
      subst h5
      have hk : ∀ (j : Nat) (x : Nat × va_E), ([(h0, .inr (8, [.ref p0, .ref q7, .int (nI 0), .int (nI 0), .int (nI 0), .int (nI 0), .long (0 : Int64)])), (q7, .inl (ct 1, 15, .inr (.inl (tkF i).2.2)))] : va_W)[j]? = some x → H1[x.1]? = H[x.1]? := fun j x hx => hk1 x.1 ((hP j x hx).lt) (fun h => h.elim)
      have hP := hP.kept hk
      refine lv_icmp_ge (tgt := 114) hx hb dX8_init_56 (by decide) (fun q => absurd q (nl (by omega))) (fun _ => ?_)
      refine lv_iload_n hx hb dX8_init_59 rfl (lv_at hl 2 rfl) ?_
      refine lv_aload_n hx hb dX8_init_60 rfl (lv_at hl 3 rfl) ?_
      refine va_get (D := D) (ci := 8) (v := .ref q7) (C := RX8) (T := TX8) (N := 7) hx hb hT mU_X8 hown hK hP 0 rfl rfl 1 (by decide) (hT _ mF_X8_11) (fun _ h9 => h9) rfl dX8_init_61 ?_
      refine va_alen hx hb hK hP 1 1 rfl rfl (v := nI 15) rfl dX8_init_64 ?_
      refine lv_icmp_ge (tgt := 114) hx hb dX8_init_65 (by decide) (fun q => absurd q (nl (by omega))) (fun _ => ?_)
      refine va_ldcS hx hb hown hR dX8_init_68 ?_
      refine lv_iload hx hb dX8_init_70 (lv_at hl 0 rfl) ?_
      have hZ1 := (hZ.kept hS.2.1).narrow (B := zNo) (fun q h => h.elim)
      refine va_calli (va_runV (As := [.int (nI i)]) (rest := []) ⟨hx, hb, hml, hown, hT⟩ (jChr l (ad := ad) (av := av) (n := 65) (f := fW) (i := i) (by omega) (by decide)) (cwV 1 hT (zgV mL_X8_44 mI_S_chr mS_S_chr mN_S mC_S_chr) rfl rfl rfl hdS_chr ⟨Nat.le_of_ble_eq_true rfl, Nat.le_of_ble_eq_true rfl⟩) ⟨zblS, by obtain ⟨cell, h1, h2, h3, -⟩ := hZ1.1; exact ⟨cell, h1, h2, h3⟩, fun U hU hW => ⟨rfl, zSP.put hU hW.alike hZ1⟩⟩ rfl rfl hl.1 rfl (lv_room (Nat.le_of_ble_eq_true rfl)) dX8_init_72 ⟨Nat.le_of_ble_eq_true rfl, Nat.le_of_ble_eq_true rfl⟩) hS (fun q _ h => h.elim) (fun q h => h.elim) (fun r u t H2 locs ht hvm h5 hB hz1 hk2 hS => ?_)
      subst h5
      have hk' : ∀ (j : Nat) (x : Nat × va_E), ([(h0, .inr (8, [.ref p0, .ref q7, .int (nI 0), .int (nI 0), .int (nI 0), .int (nI 0), .long (0 : Int64)])), (q7, .inl (ct 1, 15, .inr (.inl (tkF i).2.2)))] : va_W)[j]? = some x → H2[x.1]? = H1[x.1]? := fun j x hx => hk2 x.1 ((hP j x hx).lt) (fun h => h.elim)
      have hP := hP.kept hk'
      refine lv_istore (lv' := (6, .int (fW i &&& 255)) :: [(5, .int (nI i)), (3, .long (tkF i).2.1), (2, .int (nI (tkF i).1)), (0, .ref h0), (1, .ref p0)]) hx hb dX8_init_75 hl (by decide) rfl (fun ls hl => ?_)
      refine lv_iload hx hb dX8_init_77 (lv_at hl 0 rfl) ?_
      refine lv_bipush (v := (nI 32)) hx hb dX8_init_79 (by decide) ?_
      refine lv_icmp_ne (tgt := 99) hx hb dX8_init_81 (by decide) (fun q => ?_) (fun q => ?_)
      · have e1 : tkF (i + 1) = ((tkF i).1, ((tkF i).2.1 <<< ((nI 8).toInt64 &&& 63)) ||| (fW i &&& 255).toInt64, (tkF i).2.2) := by
          show tkS i (tkF i) = _
          unfold tkS
          rw [if_neg q]
        refine lv_lload_n hx hb dX8_init_99 rfl (lv_at hl 2 rfl) ?_
        refine lv_bipush (v := (nI 8)) hx hb dX8_init_100 (by decide) ?_
        refine lv_lshl (v := (tkF i).2.1 <<< ((nI 8).toInt64 &&& 63)) hx hb dX8_init_102 rfl ?_
        refine lv_iload hx hb dX8_init_103 (lv_at hl 0 rfl) ?_
        refine lv_i2l hx hb dX8_init_105 rfl ?_
        refine lv_lor hx hb dX8_init_106 ?_
        refine lv_lstore_n (lv' := [(3, .long (((tkF i).2.1 <<< ((nI 8).toInt64 &&& 63)) ||| (fW i &&& 255).toInt64)), (6, .int (fW i &&& 255)), (5, .int (nI i)), (2, .int (nI (tkF i).1)), (0, .ref h0), (1, .ref p0)]) hx hb dX8_init_107 rfl hl (by decide) rfl (fun ls hl => ?_)
        refine lv_iinc (v := nI (i + 1)) (lv' := [(5, .int (nI (i + 1))), (3, .long (((tkF i).2.1 <<< ((nI 8).toInt64 &&& 63)) ||| (fW i &&& 255).toInt64)), (6, .int (fW i &&& 255)), (2, .int (nI (tkF i).1)), (0, .ref h0), (1, .ref p0)]) hx hb dX8_init_108 hl (k := 2) rfl (nadd i 1) (by decide) rfl (fun ls hl => ?_)
        refine lv_goto (tgt := 49) hx hb dX8_init_111 (by decide) ?_
        have hl := lv_sub hl [0, 1, 3, 4, 5] rfl
        refine ih (i + 1) H2 locs ls (by omega) ?_ ?_ hS ?_
        · rw [e1]; exact hP
        · rw [e1]; exact hD
        · rw [e1]; exact hl
      · have e1 : tkF (i + 1) = ((tkF i).1 + 1, 0, vp_updL (tkF i).2.2 (tkF i).1 (tkF i).2.1) := by
          show tkS i (tkF i) = _
          unfold tkS
          rw [if_pos q]
        refine lv_aload_n hx hb dX8_init_84 rfl (lv_at hl 4 rfl) ?_
        refine va_get (D := D) (ci := 8) (v := .ref q7) (C := RX8) (T := TX8) (N := 7) hx hb hT mU_X8 hown hK hP 0 rfl rfl 1 (by decide) (hT _ mF_X8_11) (fun _ h9 => h9) rfl dX8_init_85 ?_
        refine lv_iload_n hx hb dX8_init_88 rfl (lv_at hl 3 rfl) ?_
        refine lv_lload_n hx hb dX8_init_89 rfl (lv_at hl 2 rfl) ?_
        refine va_last hx hb hK hP hD hS 1 1 rfl rfl (vp_in_nI hw (by omega)) dX8_init_90 (fun H locs hP hD hS => ?_)
        rw [nI_clamp (by omega)] at hP hD
        refine lv_iinc (v := nI ((tkF i).1 + 1)) (lv' := [(2, .int (nI ((tkF i).1 + 1))), (6, .int (fW i &&& 255)), (5, .int (nI i)), (3, .long (tkF i).2.1), (0, .ref h0), (1, .ref p0)]) hx hb dX8_init_91 hl (k := 3) rfl (nadd _ 1) (by decide) rfl (fun ls hl => ?_)
        refine lv_lconst (v := (0 : Int64)) hx hb dX8_init_94 (by decide) ?_
        refine lv_lstore_n (lv' := [(3, .long (0 : Int64)), (2, .int (nI ((tkF i).1 + 1))), (6, .int (fW i &&& 255)), (5, .int (nI i)), (0, .ref h0), (1, .ref p0)]) hx hb dX8_init_95 rfl hl (by decide) rfl (fun ls hl => ?_)
        refine lv_goto (tgt := 108) hx hb dX8_init_96 (by decide) ?_
        refine lv_iinc (v := nI (i + 1)) (lv' := [(5, .int (nI (i + 1))), (3, .long (0 : Int64)), (2, .int (nI ((tkF i).1 + 1))), (6, .int (fW i &&& 255)), (0, .ref h0), (1, .ref p0)]) hx hb dX8_init_108 hl (k := 3) rfl (nadd i 1) (by decide) rfl (fun ls hl => ?_)
        refine lv_goto (tgt := 49) hx hb dX8_init_111 (by decide) ?_
        have hl := lv_sub hl [0, 1, 2, 4, 5] rfl
        refine ih (i + 1) H locs ls (by omega) ?_ ?_ hS ?_
        · rw [e1]; exact hP
        · rw [e1]; exact hD
        · rw [e1]; exact hl
  refine lv_iconst (v := (nI 0)) hx hb dX8_init_42 (by decide) ?_
  refine lv_istore_n (lv' := [(2, .int (nI 0)), (0, .ref h0), (1, .ref p0)]) hx hb dX8_init_43 rfl hl (by decide) rfl (fun ls hl => ?_)
  refine lv_lconst (v := (0 : Int64)) hx hb dX8_init_44 (by decide) ?_
  refine lv_lstore_n (lv' := [(3, .long (0 : Int64)), (2, .int (nI 0)), (0, .ref h0), (1, .ref p0)]) hx hb dX8_init_45 rfl hl (by decide) rfl (fun ls hl => ?_)
  refine lv_iconst (v := (nI 0)) hx hb dX8_init_46 (by decide) ?_
  refine lv_istore (lv' := [(5, .int (nI 0)), (3, .long (0 : Int64)), (2, .int (nI 0)), (0, .ref h0), (1, .ref p0)]) hx hb dX8_init_47 hl (by decide) rfl (fun ls hl => ?_)
  exact loop 65 0 H locs ls (by omega) hP hD hS hl
