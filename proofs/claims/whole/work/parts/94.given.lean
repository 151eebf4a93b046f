/-! what the law's start gives -/
def zFL : List Cond := flatC (Jvm.Cond.and given_1 narrow_1)
theorem zt1 {w : Cond} (h : w ∈ tables_1_1) : w ∈ lw_tbl := List.mem_append_right _ (List.mem_append_left _ h)
theorem zt3 {w : Cond} (h : w ∈ tables_1_3) : w ∈ lw_tbl := List.mem_append_right _ (List.mem_append_right _ (List.mem_append_right _ (List.mem_append_left _ h)))
theorem zt5 {w : Cond} (h : w ∈ tables_1_5) : w ∈ lw_tbl := List.mem_append_right _ (List.mem_append_right _ (List.mem_append_right _ (List.mem_append_right _ (List.mem_append_right _ (List.mem_append_left _ h)))))
abbrev tmN : Term := .static "NeedSteps$Machine" "NEEDS" "[I"
abbrev tmW : Term := .static "NeedSteps$Machine" "WANTS" "[I"
abbrev tmS : Term := .string RX8 36
set_option maxRecDepth 20000 in
theorem flN : ∀ j, j < 13 → zFL[12 + j]? = some (Cond.eq (.elem tmN (.int (Int32.ofNat j))) (.int (zneeds j))) := by decide +kernel
set_option maxRecDepth 20000 in
theorem flW : ∀ j, j < 13 → zFL[28 + j]? = some (Cond.eq (.elem tmW (.int (Int32.ofNat j))) (.int (zwants j))) := by decide +kernel
set_option maxRecDepth 20000 in
theorem flS : ∀ j, j < 65 → zFL[58 + j]? = some (Cond.eq (.elem (.field tmS "java/lang/String" "value" "[B") (.int (Int32.ofNat j))) (.int (fW j))) := by decide +kernel
set_option maxRecDepth 20000 in
theorem flO : zFL[4]? = some (Cond.eq (.static "java/lang/String" "COMPACT_STRINGS" "Z") (.int 1)) ∧ zFL[5]? = some (Cond.isRef (.static "jdk/internal/util/Preconditions" "SIOOBE_FORMATTER" "Ljava/util/function/BiFunction;")) ∧ zFL[10]? = some (Cond.arrayOf tmN .int) ∧ zFL[11]? = some (Cond.eq (.length tmN) (.int (Int32.ofNat 13))) ∧ zFL[26]? = some (Cond.arrayOf tmW .int) ∧ zFL[27]? = some (Cond.eq (.length tmW) (.int (Int32.ofNat 13))) ∧ zFL[41]? = some (Cond.isRef (.static Bundle.tN "UNASSIGNED_STACK" Bundle.steD)) ∧ zFL[42]? = some (Cond.isRef (.static Bundle.tN "SUPPRESSED_SENTINEL" Bundle.listD)) ∧ zFL[54]? = some (Cond.exactly tmS "java/lang/String") ∧ zFL[55]? = some (Cond.eq (.field tmS "java/lang/String" "coder" "B") (.int 0)) ∧ zFL[56]? = some (Cond.arrayOf (.field tmS "java/lang/String" "value" "[B") .byte) ∧ zFL[57]? = some (Cond.eq (.length (.field tmS "java/lang/String" "value" "[B")) (.int (Int32.ofNat 65))) ∧ zFL[123]? = some (Cond.exactly (.string RX9 198) "java/lang/String") := by decide +kernel
theorem tbO : (Cond.laysStatic "java/lang/String" "COMPACT_STRINGS" "Z" ∈ lw_tbl ∧ Cond.laysStatic "jdk/internal/util/Preconditions" "SIOOBE_FORMATTER" "Ljava/util/function/BiFunction;" ∈ lw_tbl ∧ Cond.stringRef RX8 36 zText ∈ lw_tbl) ∧ (Cond.methodLinkNest RX9 9 yX7_init RX9 ∈ lw_tbl ∧ Cond.methodLinkNest RX9 18 yX4_init RX9 ∈ lw_tbl ∧ Cond.methodLinkNest RX9 39 yX0_init RX9 ∈ lw_tbl ∧ Cond.methodLinkNest RX9 46 yX6_init RX9 ∈ lw_tbl) ∧ (Cond.laysStatic "NeedSteps$Machine" "NEEDS" "[I" ∈ lw_tbl ∧ Cond.laysStatic "NeedSteps$Machine" "WANTS" "[I" ∈ lw_tbl) ∧ Cond.laysStatic Bundle.tN "UNASSIGNED_STACK" Bundle.steD ∈ lw_tbl ∧ Cond.laysStatic Bundle.tN "SUPPRESSED_SENTINEL" Bundle.listD ∈ lw_tbl ∧ Cond.stringRef RX9 198 "there is no program" ∈ lw_tbl :=
  ⟨⟨zt1 (List.mem_of_getElem? (i := 105) rfl), zt1 (List.mem_of_getElem? (i := 121) rfl), zt1 (List.mem_of_getElem? (i := 95) rfl)⟩, ⟨zt1 (List.mem_of_getElem? (i := 30) rfl), zt1 (List.mem_of_getElem? (i := 44) rfl), zt1 (List.mem_of_getElem? (i := 191) rfl), zt1 (List.mem_of_getElem? (i := 225) rfl)⟩, ⟨zt3 (List.mem_of_getElem? (i := 211) rfl), zt3 (List.mem_of_getElem? (i := 220) rfl)⟩, zt5 (List.mem_of_getElem? (i := 80) rfl), zt5 (List.mem_of_getElem? (i := 82) rfl), zt5 (List.mem_of_getElem? (i := 92) rfl)⟩
theorem tbX : ∀ w ∈ zXB, w ∈ lw_tbl := List.forall_mem_cons.mpr ⟨zt5 (List.mem_of_getElem? (i := 57) rfl), List.forall_mem_cons.mpr ⟨zt5 (List.mem_of_getElem? (i := 59) rfl), List.forall_mem_cons.mpr ⟨zt5 (List.mem_of_getElem? (i := 61) rfl), List.forall_mem_cons.mpr ⟨zt5 (List.mem_of_getElem? (i := 55) rfl), fun _ h => absurd h List.not_mem_nil⟩⟩⟩⟩
theorem mN_Th : Cond.initialized Bundle.tN ∈ lw_tbl := zt1 (List.mem_of_getElem? (i := 16) rfl)
section ZGIV
variable {args : Array Value} {s : State}
theorem zgN (hs : ∀ c ∈ zFL, c.before args s = true) (hts : ∀ w ∈ lw_tbl, w.before args s = true) : ∃ t1 t2 : Nat, (va_Z "NeedSteps$Machine" "NEEDS" "[I" (.ref t1) (zNew s) s s.heap ∧ va_T .int t1 13 (fun k => .int (zneeds k)) (zNew s) s s.heap) ∧ va_Z "NeedSteps$Machine" "WANTS" "[I" (.ref t2) (zNew s) s s.heap ∧ va_T .int t2 13 (fun k => .int (zwants k)) (zNew s) s s.heap := by
  have hA : ∀ a : Nat, a < s.heap.size → ¬ zNew s a := fun a h => Nat.not_le.mpr h
  obtain ⟨f4, f5, f10, f11, f26, f27, f41, f42, f54, f55, f56, f57, f123⟩ := flO
  have hini : (Cond.initialized "NeedSteps$Machine").before args s = true := hts _ (List.mem_filter.mp mN_X2).1
  obtain ⟨t1, h1, h2⟩ := va_Tof (tm := tmN) (N := 13) (f := fun k => .int (zneeds k)) (A := zNew s) (by decide) (hs _ (List.mem_of_getElem? f10)) (va_eqt (hs _ (List.mem_of_getElem? f11))) (fun j hj => va_eqt (hs _ (List.mem_of_getElem? (flN j hj)))) hA
  obtain ⟨t2, h3, h4⟩ := va_Tof (tm := tmW) (N := 13) (f := fun k => .int (zwants k)) (A := zNew s) (by decide) (hs _ (List.mem_of_getElem? f26)) (va_eqt (hs _ (List.mem_of_getElem? f27))) (fun j hj => va_eqt (hs _ (List.mem_of_getElem? (flW j hj)))) hA
  exact ⟨t1, t2, ⟨va_Zof (hts _ tbO.2.2.1.1) hini h1 hA, h2⟩, va_Zof (hts _ tbO.2.2.1.2) hini h3 hA, h4⟩
theorem zgS2 (hs : ∀ c ∈ zFL, c.before args s = true) (hts : ∀ w ∈ lw_tbl, w.before args s = true) : ∃ ad av : Nat, vk_R RX8 36 zText ad s ∧ zSP ad av 65 fW (zNew s) s s.heap := by
  have hA : ∀ a : Nat, a < s.heap.size → ¬ zNew s a := fun a h => Nat.not_le.mpr h
  obtain ⟨f4, f5, f10, f11, f26, f27, f41, f42, f54, f55, f56, f57, f123⟩ := flO
  obtain ⟨a, c, cA, kA, q1, q2, q3, q4, q5, q6, -⟩ := Cond.exactly_spec (args := args) (first := s) (o := none) (s := s) (idx := []) (t := tmS) (cls := "java/lang/String") (hs _ (List.mem_of_getElem? f54))
  obtain ⟨t, ht, hT⟩ := va_Tof (tm := .field tmS "java/lang/String" "value" "[B") (N := 65) (f := fun j => .int (fW j)) (A := zNew s) (by decide) (hs _ (List.mem_of_getElem? f56)) (va_eqt (hs _ (List.mem_of_getElem? f57))) (fun j hj => va_eqt (hs _ (List.mem_of_getElem? (flS j hj)))) hA
  refine ⟨a, t, vk_R.of (hts _ tbO.1.2.2) q1, ⟨cA, q3, q5, by rw [q6]; exact q2, hA a (Array.getElem?_eq_some_iff.mp q3).1⟩, vk_OFof q1 (va_eqt (hs _ (List.mem_of_getElem? f55))) hA, vk_OFof q1 ht hA, hT, ?_, ?_⟩
  · exact va_Zof (hts _ tbO.1.1) (hts _ (List.mem_filter.mp mN_S).1) (va_eqt (hs _ (List.mem_of_getElem? f4))) hA
  · exact va_Zqof (hts _ tbO.1.2.1) (hts _ (List.mem_filter.mp mN_P).1) (hs _ (List.mem_of_getElem? f5)) hA
theorem zgT (hs : ∀ c ∈ zFL, c.before args s = true) (hts : ∀ w ∈ lw_tbl, w.before args s = true) : ∃ sa : Nat, zThr sa (zNew s) s s.heap := by
  have hA : ∀ a : Nat, a < s.heap.size → ¬ zNew s a := fun a h => Nat.not_le.mpr h
  obtain ⟨f4, f5, f10, f11, f26, f27, f41, f42, f54, f55, f56, f57, f123⟩ := flO
  obtain ⟨a, c, cA, kA, q1, q2, q3, q4, q5, q6, -⟩ := Cond.exactly_spec (args := args) (first := s) (o := none) (s := s) (idx := []) (t := .string RX9 198) (cls := "java/lang/String") (hs _ (List.mem_of_getElem? f123))
  refine ⟨a, vk_R.of (hts _ tbO.2.2.2.2.2) q1, vx_Zqof (hts _ tbO.2.2.2.1) (hts _ mN_Th) (hs _ (List.mem_of_getElem? f41)) hA, vx_Zqof (hts _ tbO.2.2.2.2.1) (hts _ mN_Th) (hs _ (List.mem_of_getElem? f42)) hA, fun w hw => va_Nw.of (by revert w; decide +kernel) (hts w (tbX w hw))⟩
theorem zgK (hT : ∀ w ∈ zTB, w.before args s = true) : ∃ (D : va_G) (ct : Nat → ClassId), va_K D vwCl (ztc ct) s := by
  obtain ⟨c0, i0, k0⟩ := u_known hT mU_X0 (hT _ mW_X0)
  obtain ⟨c1, i1, k1⟩ := u_known hT mU_X1 (hT _ mW_X1)
  obtain ⟨c2, i2, k2⟩ := u_known hT mU_X2 (hT _ mW_X2)
  obtain ⟨c3, i3, k3⟩ := u_known hT mU_X3 (hT _ mW_X3)
  obtain ⟨c4, i4, k4⟩ := u_known hT mU_X4 (hT _ mW_X4)
  obtain ⟨c5, i5, k5⟩ := u_known hT mU_X5 (hT _ mW_X5)
  obtain ⟨c6, i6, k6⟩ := u_known hT mU_X6 (hT _ mW_X6)
  obtain ⟨c7, i7, k7⟩ := u_known hT mU_X7 (hT _ mW_X7)
  obtain ⟨c8, i8, k8⟩ := u_known hT mU_X8 (hT _ mW_X8)
  obtain ⟨c9, i9, k9⟩ := u_known hT mU_X9 (hT _ mW_X9)
  obtain ⟨c10, i10, k10⟩ := u_known hT mU_X10 (hT _ mW_X10)
  obtain ⟨dI, a1, a2, a3, a4, a5⟩ := Cond.arrayClass_spec (hT _ mA_int)
  obtain ⟨dL, b1, b2, b3, b4, b5⟩ := Cond.arrayClass_spec (hT _ mA_long)
  obtain ⟨dB, e1, e2, e3, e4, e5⟩ := Cond.arrayClass_spec (hT _ mA_byte)
  obtain ⟨dZ, g1, g2, g3, g4, g5⟩ := Cond.arrayClass_spec (hT _ mA_boolean)
  refine ⟨(fun k => ([c0, c1, c2, c3, c4, c5, c6, c7, c8, c9, c10] : List ClassId).getD k c0, fun k => ([i0, i1, i2, i3, i4, i5, i6, i7, i8, i9, i10] : List (Nat → Nat)).getD k i0), fun k => ([dI, dL, dB, dZ] : List ClassId).getD k dI, ?_, ?_⟩
  · intro k q hq
    match k, hq with
    | 0, hq => cases hq; exact k0
    | 1, hq => cases hq; exact k1
    | 2, hq => cases hq; exact k2
    | 3, hq => cases hq; exact k3
    | 4, hq => cases hq; exact k4
    | 5, hq => cases hq; exact k5
    | 6, hq => cases hq; exact k6
    | 7, hq => cases hq; exact k7
    | 8, hq => cases hq; exact k8
    | 9, hq => cases hq; exact k9
    | 10, hq => cases hq; exact k10
    | k + 11, hq => simp [vwCl] at hq
  · intro k q hq
    match k, hq with
    | 0, hq => cases hq; exact ⟨fun n z => ⟨fun k h => (by cases h), a1, a4, a2, a5⟩, a3⟩
    | 1, hq => cases hq; exact ⟨fun n z => ⟨fun k h => (by cases h), b1, b4, b2, b5⟩, b3⟩
    | 2, hq => cases hq; exact ⟨fun n z => ⟨fun k h => (by cases h), e1, e4, e2, e5⟩, e3⟩
    | 3, hq => cases hq; exact ⟨fun n z => ⟨fun k h => (by cases h), g1, g4, g2, g5⟩, g3⟩
    | k + 4, hq => simp [ztc] at hq
end ZGIV
