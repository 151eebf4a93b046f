set_option maxHeartbeats 4000000 in
set_option maxRecDepth 100000 in
theorem kX3_takeWaiting {g : zG} (l : Launch) (hO : zinjX g) (S : zSt) (r : Int32) (S' : zSt) (h : fX3_takeWaiting S = some (r, S')) : zMi (zYX g) l yX3_takeWaiting vX3_takeWaiting { frames := 0, cells := 0, slots := 0, locals := 0 } ([.ref (zad g 8)] : List Value) S r S' := by
  have hY := zOkX hO
  refine Met.ofW (cc := cX3_takeWaiting) (maxL := 1) (ret := (some .int)) (by decide) rfl ?_
  intro p e s m args below meth c s₁ B hml hv
  obtain ⟨rfl, hP⟩ := hv
  have hx := B.exec
  have hb := B.bytes
  have hr := B.returns
  have hts := atoms_spec (ws := vX3_takeWaiting) B.pre
  have hT : ∀ w ∈ zTB, w.before ([.ref (zad g 8)] : List Value).toArray s = true := fun w h => hts w (List.mem_cons_of_mem _ h)
  have hown : s.vm.findClass RX3 = some m.cls := findClass_of_methodNamed B.named
  have hlocks := B.notSynchronized
  have P0 := hP.2
  have Z : zZ (zYX g) S s s.heap [] := ⟨hP.1, va_S.rf⟩
  have hf : ∀ w ∈ u_ws RX3 TX3 6, w.before ([.ref (zad g 8)] : List Value).toArray s = true := fun w hw => hT w (mU_X3 w hw)
  have L21 := hT _ mF_X3_21
  have L18 := hT _ mF_X3_18
  have hl := lv_entry ([.ref (zad g 8)] : List Value) (n := 1) (Nat.le_of_ble_eq_true rfl)
  rw [lg_entry_eq]
  generalize (lg_sl ([.ref (zad g 8)] : List Value) ++ List.replicate (1 - (lg_sl ([.ref (zad g 8)] : List Value)).length) Slot.unset).toArray = ls at hl ⊢
  have hl : lv_has ls 1 [(0, .ref (zad g 8))] := hl
  unfold fX3_takeWaiting at h
  refine lv_aload_n hx hb dX3_takeWaiting_0 rfl (lv_at hl 0 rfl) ?_
  refine zgX3_5 (v := (zI S 26)) hx hb hf hown P0 Z L21 rfl dX3_takeWaiting_1 ?_
  refine lv_iconst (v := (nI 1)) hx hb dX3_takeWaiting_4 (by decide) ?_
  refine lv_icmp_lt (tgt := 20) hx hb dX3_takeWaiting_5 (by decide) (fun q => ?_) (fun q => ?_)
  · have h := zi_t q h
    refine lv_iconst (v := (-1 : Int32)) hx hb dX3_takeWaiting_20 (by decide) ?_
    exact zr_i hY P0 hx hb hr hlocks h Z dX3_takeWaiting_21
  · have h := zi_f q h
    refine lv_aload_n hx hb dX3_takeWaiting_8 rfl (lv_at hl 0 rfl) ?_
    refine zgX3_5 (v := (zI S 26)) hx hb hf hown P0 Z L21 rfl dX3_takeWaiting_9 ?_
    refine lv_aload_n hx hb dX3_takeWaiting_12 rfl (lv_at hl 0 rfl) ?_
    refine zgX3_4 hx hb hf hown P0 Z L18 dX3_takeWaiting_13 ?_
    refine zaX_35 hx hb P0 Z dX3_takeWaiting_16 ?_
    refine lv_icmp_le (tgt := 22) hx hb dX3_takeWaiting_17 (by decide) (fun q => ?_) (fun q => ?_)
    · have h := zi_t q h
      refine lv_aload_n hx hb dX3_takeWaiting_22 rfl (lv_at hl 0 rfl) ?_
      refine lv_dup hx hb dX3_takeWaiting_23 rfl ?_
      refine zgX3_5 (v := (zI S 26)) hx hb hf hown P0 Z L21 rfl dX3_takeWaiting_24 ?_
      refine lv_iconst (v := (nI 1)) hx hb dX3_takeWaiting_27 (by decide) ?_
      refine lv_isub hx hb dX3_takeWaiting_28 ?_
      refine zpX3_5 hO hx hb hf hown P0 Z L21 dX3_takeWaiting_29 (fun H locs Z => ?_)
      refine lv_aload_n hx hb dX3_takeWaiting_32 rfl (lv_at hl 0 rfl) ?_
      refine zgX3_4 hx hb hf hown P0 Z L18 dX3_takeWaiting_33 ?_
      refine lv_aload_n hx hb dX3_takeWaiting_36 rfl (lv_at hl 0 rfl) ?_
      refine zgX3_5 (v := ((zI S 26) - (nI 1))) hx hb hf hown P0 Z L21 rfl dX3_takeWaiting_37 ?_
      obtain ⟨v1, ev, hin, h⟩ := zld_s h
      refine zlX_35 hx hb P0 Z ev hin dX3_takeWaiting_40 ?_
      exact zr_i hY P0 hx hb hr hlocks h Z dX3_takeWaiting_41
    · have h := zi_f q h
      refine lv_iconst (v := (-1 : Int32)) hx hb dX3_takeWaiting_20 (by decide) ?_
      exact zr_i hY P0 hx hb hr hlocks h Z dX3_takeWaiting_21

set_option maxHeartbeats 4000000 in
set_option maxRecDepth 100000 in
theorem kX4_firstSlotAt {g : zG} (l : Launch) (hO : zinjX g) (a1 : Int32) (S : zSt) (r : Int32) (S' : zSt) (h : fX4_firstSlotAt a1 S = some (r, S')) : zMi (zYX g) l yX4_firstSlotAt vX4_firstSlotAt { frames := 1, cells := 0, slots := 0, locals := 20 } ([.ref (zad g 2), .int a1] : List Value) S r S' := by
  have hY := zOkX hO
  refine Met.ofW (cc := cX4_firstSlotAt) (maxL := 2) (ret := (some .int)) (by decide) rfl ?_
  intro p e s m args below meth c s₁ B hml hv
  obtain ⟨rfl, hP⟩ := hv
  have hx := B.exec
  have hb := B.bytes
  have hr := B.returns
  have hts := atoms_spec (ws := vX4_firstSlotAt) B.pre
  have hT : ∀ w ∈ zTB, w.before ([.ref (zad g 2), .int a1] : List Value).toArray s = true := fun w h => hts w (List.mem_cons_of_mem _ h)
  have hown : s.vm.findClass RX4 = some m.cls := findClass_of_methodNamed B.named
  have hlocks := B.notSynchronized
  have P0 := hP.2
  have Z : zZ (zYX g) S s s.heap [] := ⟨hP.1, va_S.rf⟩
  have hf : ∀ w ∈ u_ws RX4 TX4 12, w.before ([.ref (zad g 2), .int a1] : List Value).toArray s = true := fun w hw => hT w (mU_X4 w hw)
  have L38 := hT _ mF_X4_38
  have hl := lv_entry ([.ref (zad g 2), .int a1] : List Value) (n := 2) (Nat.le_of_ble_eq_true rfl)
  rw [lg_entry_eq]
  generalize (lg_sl ([.ref (zad g 2), .int a1] : List Value) ++ List.replicate (2 - (lg_sl ([.ref (zad g 2), .int a1] : List Value)).length) Slot.unset).toArray = ls at hl ⊢
  have hl : lv_has ls 2 [(0, .ref (zad g 2)), (1, .int a1)] := hl
  unfold fX4_firstSlotAt at h
  refine lv_iload_n hx hb dX4_firstSlotAt_0 rfl (lv_at hl 1 rfl) ?_
  obtain ⟨r1, S2, ec, h⟩ := zbd_s h
  refine zc_Si hY P0 ⟨hx, hb, hml, hown, hT⟩ (As := [.int a1]) (rest := []) (kX4_isDeed l hO a1 S r1 S2 ec) (va_cwS 1 hT (zgS mL_X4_68 mT_X4_isDeed mN_X4 mC_X4_isDeed) rfl rfl rfl hdnX4_isDeed ⟨Nat.le_of_ble_eq_true rfl, Nat.le_of_ble_eq_true rfl⟩) Z rfl hl.1 rfl (Nat.le_of_ble_eq_true rfl) dX4_firstSlotAt_1 (fun H locs Z => ?_)
  refine lv_if_eq (tgt := 16) hx hb dX4_firstSlotAt_4 (by decide) (fun q => ?_) (fun q => ?_)
  · have h := zi_t q h
    refine lv_iconst (v := (nI 0)) hx hb dX4_firstSlotAt_16 (by decide) ?_
    exact zr_i hY P0 hx hb hr hlocks h Z dX4_firstSlotAt_17
  · have h := zi_f q h
    refine lv_aload_n hx hb dX4_firstSlotAt_7 rfl (lv_at hl 0 rfl) ?_
    refine zgX4_8 hx hb hf hown P0 Z L38 dX4_firstSlotAt_8 ?_
    refine lv_iload_n hx hb dX4_firstSlotAt_11 rfl (lv_at hl 1 rfl) ?_
    obtain ⟨v3, ev, hin, h⟩ := zld_s h
    refine zlX_19 hx hb P0 Z ev hin dX4_firstSlotAt_12 ?_
    refine lv_goto (tgt := 17) hx hb dX4_firstSlotAt_13 (by decide) ?_
    exact zr_i hY P0 hx hb hr hlocks h Z dX4_firstSlotAt_17

set_option maxHeartbeats 4000000 in
set_option maxRecDepth 100000 in
theorem kX3_doDeed {g : zG} (l : Launch) (hO : zinjX g) (a1 : Int32) (a2 : Int32) (S : zSt) (r : Unit) (S' : zSt) (h : fX3_doDeed a1 a2 S = some (r, S')) : zMv (zYX g) l yX3_doDeed vX3_doDeed { frames := 2, cells := 0, slots := 0, locals := 49 } ([.ref (zad g 8), .int a1, .int a2] : List Value) S S' := by
  have hY := zOkX hO
  refine Met.ofW (cc := cX3_doDeed) (maxL := 3) (ret := none) (by decide) rfl ?_
  intro p e s m args below meth c s₁ B hml hv
  obtain ⟨rfl, hP⟩ := hv
  have hx := B.exec
  have hb := B.bytes
  have hr := B.returns
  have hts := atoms_spec (ws := vX3_doDeed) B.pre
  have hT : ∀ w ∈ zTB, w.before ([.ref (zad g 8), .int a1, .int a2] : List Value).toArray s = true := fun w h => hts w (List.mem_cons_of_mem _ h)
  have hown : s.vm.findClass RX3 = some m.cls := findClass_of_methodNamed B.named
  have hlocks := B.notSynchronized
  have P0 := hP.2
  have Z : zZ (zYX g) S s s.heap [] := ⟨hP.1, va_S.rf⟩
  have hf : ∀ w ∈ u_ws RX3 TX3 6, w.before ([.ref (zad g 8), .int a1, .int a2] : List Value).toArray s = true := fun w hw => hT w (mU_X3 w hw)
  have L25 := hT _ mF_X3_25
  have L29 := hT _ mF_X3_29
  have L9 := hT _ mF_X3_9
  have L15 := hT _ mF_X3_15
  have B106 : ∀ (y0 : Int32) (S : zSt), fX3_doDeed_106 y0 S = some (r, S') → ∀ (H : Heap) (locs : List Loc), zZ (zYX g) S s H locs → ∀ ls : Array Slot, lv_has ls 3 [] → W p l e (headSpec vX3_doDeed { frames := 2, cells := 0, slots := 0, locals := 49 }).room s m ([.ref (zad g 8), .int a1, .int a2] : List Value).toArray below meth c H locs 0 0 (MQ below (zQv (zYX g) S') ([.ref (zad g 8), .int a1, .int a2] : List Value).toArray s 0 0 (zYX g).2.2.1) (F0 m 106 ls [.int y0, .ref (zad g 8)]) := by
    intro y0 S h H locs Z ls hl
    unfold fX3_doDeed_106 at h
    obtain ⟨r29, S30, ec, h⟩ := zbd_s h
    refine zc_Vv hY P0 ⟨hx, hb, hml, hown, hT⟩ (As := [.int y0]) (rest := []) (kX3_letWait l hO y0 S r29 S30 ec) (cwV 1 hT (zgV mL_X3_66 mI_X3_letWait mS_X3_letWait mN_X3 mC_X3_letWait) rfl rfl rfl hdnX3_letWait ⟨Nat.le_of_ble_eq_true rfl, Nat.le_of_ble_eq_true rfl⟩) (zrecX_8 P0 Z) Z rfl hl.1 rfl (Nat.le_of_ble_eq_true rfl) dX3_doDeed_106 (fun H locs Z => ?_)
    refine lv_goto (tgt := 216) hx hb dX3_doDeed_109 (by decide) ?_
    exact zr_v hY P0 hx hb hr hlocks h Z dX3_doDeed_216
  have B144 : ∀ (y0 : Int32) (S : zSt), fX3_doDeed_144 y0 S = some (r, S') → ∀ (H : Heap) (locs : List Loc), zZ (zYX g) S s H locs → ∀ ls : Array Slot, lv_has ls 3 [] → W p l e (headSpec vX3_doDeed { frames := 2, cells := 0, slots := 0, locals := 49 }).room s m ([.ref (zad g 8), .int a1, .int a2] : List Value).toArray below meth c H locs 0 0 (MQ below (zQv (zYX g) S') ([.ref (zad g 8), .int a1, .int a2] : List Value).toArray s 0 0 (zYX g).2.2.1) (F0 m 144 ls [.int y0, .ref (zad g 8)]) := by
    intro y0 S h H locs Z ls hl
    unfold fX3_doDeed_144 at h
    obtain ⟨r27, S28, ec, h⟩ := zbd_s h
    refine zc_Vv hY P0 ⟨hx, hb, hml, hown, hT⟩ (As := [.int y0]) (rest := []) (kX3_letWait l hO y0 S r27 S28 ec) (cwV 1 hT (zgV mL_X3_66 mI_X3_letWait mS_X3_letWait mN_X3 mC_X3_letWait) rfl rfl rfl hdnX3_letWait ⟨Nat.le_of_ble_eq_true rfl, Nat.le_of_ble_eq_true rfl⟩) (zrecX_8 P0 Z) Z rfl hl.1 rfl (Nat.le_of_ble_eq_true rfl) dX3_doDeed_144 (fun H locs Z => ?_)
    refine lv_goto (tgt := 216) hx hb dX3_doDeed_147 (by decide) ?_
    exact zr_v hY P0 hx hb hr hlocks h Z dX3_doDeed_216
  have B143 : ∀ (S : zSt), fX3_doDeed_143 S = some (r, S') → ∀ (H : Heap) (locs : List Loc), zZ (zYX g) S s H locs → ∀ ls : Array Slot, lv_has ls 3 [] → W p l e (headSpec vX3_doDeed { frames := 2, cells := 0, slots := 0, locals := 49 }).room s m ([.ref (zad g 8), .int a1, .int a2] : List Value).toArray below meth c H locs 0 0 (MQ below (zQv (zYX g) S') ([.ref (zad g 8), .int a1, .int a2] : List Value).toArray s 0 0 (zYX g).2.2.1) (F0 m 143 ls [.ref (zad g 8)]) := by
    intro S h H locs Z ls hl
    unfold fX3_doDeed_143 at h
    refine lv_iconst (v := (-1 : Int32)) hx hb dX3_doDeed_143 (by decide) ?_
    exact B144 (-1 : Int32) S h _ _ Z ls (lv_sub hl [] rfl)
  have B174 : ∀ (y0 : Int32) (S : zSt), fX3_doDeed_174 y0 S = some (r, S') → ∀ (H : Heap) (locs : List Loc), zZ (zYX g) S s H locs → ∀ ls : Array Slot, lv_has ls 3 [] → W p l e (headSpec vX3_doDeed { frames := 2, cells := 0, slots := 0, locals := 49 }).room s m ([.ref (zad g 8), .int a1, .int a2] : List Value).toArray below meth c H locs 0 0 (MQ below (zQv (zYX g) S') ([.ref (zad g 8), .int a1, .int a2] : List Value).toArray s 0 0 (zYX g).2.2.1) (F0 m 174 ls [.int y0, .ref (zad g 8)]) := by
    intro y0 S h H locs Z ls hl
    unfold fX3_doDeed_174 at h
    obtain ⟨r25, S26, ec, h⟩ := zbd_s h
    refine zc_Vv hY P0 ⟨hx, hb, hml, hown, hT⟩ (As := [.int y0]) (rest := []) (kX3_letWait l hO y0 S r25 S26 ec) (cwV 1 hT (zgV mL_X3_66 mI_X3_letWait mS_X3_letWait mN_X3 mC_X3_letWait) rfl rfl rfl hdnX3_letWait ⟨Nat.le_of_ble_eq_true rfl, Nat.le_of_ble_eq_true rfl⟩) (zrecX_8 P0 Z) Z rfl hl.1 rfl (Nat.le_of_ble_eq_true rfl) dX3_doDeed_174 (fun H locs Z => ?_)
    refine lv_goto (tgt := 216) hx hb dX3_doDeed_177 (by decide) ?_
    exact zr_v hY P0 hx hb hr hlocks h Z dX3_doDeed_216
  have B173 : ∀ (S : zSt), fX3_doDeed_173 S = some (r, S') → ∀ (H : Heap) (locs : List Loc), zZ (zYX g) S s H locs → ∀ ls : Array Slot, lv_has ls 3 [] → W p l e (headSpec vX3_doDeed { frames := 2, cells := 0, slots := 0, locals := 49 }).room s m ([.ref (zad g 8), .int a1, .int a2] : List Value).toArray below meth c H locs 0 0 (MQ below (zQv (zYX g) S') ([.ref (zad g 8), .int a1, .int a2] : List Value).toArray s 0 0 (zYX g).2.2.1) (F0 m 173 ls [.ref (zad g 8)]) := by
    intro S h H locs Z ls hl
    unfold fX3_doDeed_173 at h
    refine lv_iconst (v := (-1 : Int32)) hx hb dX3_doDeed_173 (by decide) ?_
    exact B174 (-1 : Int32) S h _ _ Z ls (lv_sub hl [] rfl)
  have hl := lv_entry ([.ref (zad g 8), .int a1, .int a2] : List Value) (n := 3) (Nat.le_of_ble_eq_true rfl)
  rw [lg_entry_eq]
  generalize (lg_sl ([.ref (zad g 8), .int a1, .int a2] : List Value) ++ List.replicate (3 - (lg_sl ([.ref (zad g 8), .int a1, .int a2] : List Value)).length) Slot.unset).toArray = ls at hl ⊢
  have hl : lv_has ls 3 [(0, .ref (zad g 8)), (1, .int a1), (2, .int a2)] := hl
  unfold fX3_doDeed at h
  refine lv_aload_n hx hb dX3_doDeed_0 rfl (lv_at hl 0 rfl) ?_
  refine zgX3_0 hx hb hf hown P0 Z L25 dX3_doDeed_1 ?_
  refine lv_iload_n hx hb dX3_doDeed_4 rfl (lv_at hl 1 rfl) ?_
  obtain ⟨r1, S2, ec, h⟩ := zbd_s h
  refine zc_Vi hY P0 ⟨hx, hb, hml, hown, hT⟩ (As := [.int a1]) (rest := []) (kX4_deedAt l hO a1 S r1 S2 ec) (cwV 1 hT (zgV mL_X3_59 mI_X4_deedAt mS_X4_deedAt mN_X4 mC_X4_deedAt) rfl rfl rfl hdnX4_deedAt ⟨Nat.le_of_ble_eq_true rfl, Nat.le_of_ble_eq_true rfl⟩) (zrecX_2 P0 Z) Z rfl hl.1 rfl (Nat.le_of_ble_eq_true rfl) dX3_doDeed_5 (fun H locs Z => ?_)
  by_cases q0 : r1 = (nI 0)
  · have h := zi_t q0 h
    refine ztbl (off := 48) (tgt := 56) hx hb q0 dX3_doDeed_8 (by decide) (by decide) (by decide) (by decide) ?_
    refine lv_aload_n hx hb dX3_doDeed_56 rfl (lv_at hl 0 rfl) ?_
    refine lv_aload_n hx hb dX3_doDeed_57 rfl (lv_at hl 0 rfl) ?_
    refine zgX3_1 hx hb hf hown P0 Z L29 dX3_doDeed_58 ?_
    refine lv_iconst (v := (nI 0)) hx hb dX3_doDeed_61 (by decide) ?_
    refine lv_iload_n hx hb dX3_doDeed_62 rfl (lv_at hl 2 rfl) ?_
    refine lv_bipush (v := (-3 : Int32)) hx hb dX3_doDeed_63 (by decide) ?_
    obtain ⟨r3, S4, ec, h⟩ := zbd_s h
    refine zc_Vi hY P0 ⟨hx, hb, hml, hown, hT⟩ (As := [.int (nI 0), .int a2, .int (-3 : Int32)]) (rest := [.ref (zad g 8)]) (kX0_add l hO (nI 0) a2 (-3 : Int32) S2 r3 S4 ec) (cwV 3 hT (zgV mL_X3_62 mI_X0_add mS_X0_add mN_X0 mC_X0_add) rfl rfl rfl hdnX0_add ⟨Nat.le_of_ble_eq_true rfl, Nat.le_of_ble_eq_true rfl⟩) (zrecX_5 P0 Z) Z rfl hl.1 rfl (Nat.le_of_ble_eq_true rfl) dX3_doDeed_65 (fun H locs Z => ?_)
    obtain ⟨r5, S6, ec, h⟩ := zbd_s h
    refine zc_Vv hY P0 ⟨hx, hb, hml, hown, hT⟩ (As := [.int r3]) (rest := []) (kX3_letWait l hO r3 S4 r5 S6 ec) (cwV 1 hT (zgV mL_X3_66 mI_X3_letWait mS_X3_letWait mN_X3 mC_X3_letWait) rfl rfl rfl hdnX3_letWait ⟨Nat.le_of_ble_eq_true rfl, Nat.le_of_ble_eq_true rfl⟩) (zrecX_8 P0 Z) Z rfl hl.1 rfl (Nat.le_of_ble_eq_true rfl) dX3_doDeed_68 (fun H locs Z => ?_)
    refine lv_goto (tgt := 216) hx hb dX3_doDeed_71 (by decide) ?_
    exact zr_v hY P0 hx hb hr hlocks h Z dX3_doDeed_216
  have h := zi_f q0 h
  by_cases q1 : r1 = (nI 1)
  · have h := zi_t q1 h
    refine ztbl (off := 66) (tgt := 74) hx hb q1 dX3_doDeed_8 (by decide) (by decide) (by decide) (by decide) ?_
    refine lv_aload_n hx hb dX3_doDeed_74 rfl (lv_at hl 0 rfl) ?_
    refine lv_iload_n hx hb dX3_doDeed_75 rfl (lv_at hl 2 rfl) ?_
    refine lv_bipush (v := (nI 8)) hx hb dX3_doDeed_76 (by decide) ?_
    refine lv_icmp_ne (tgt := 95) hx hb dX3_doDeed_78 (by decide) (fun q => ?_) (fun q => ?_)
    · have h := zi_f q h
      refine lv_aload_n hx hb dX3_doDeed_95 rfl (lv_at hl 0 rfl) ?_
      refine zgX3_1 hx hb hf hown P0 Z L29 dX3_doDeed_96 ?_
      refine lv_iconst (v := (nI 3)) hx hb dX3_doDeed_99 (by decide) ?_
      refine lv_iload_n hx hb dX3_doDeed_100 rfl (lv_at hl 2 rfl) ?_
      refine lv_bipush (v := (-3 : Int32)) hx hb dX3_doDeed_101 (by decide) ?_
      obtain ⟨r7, S8, ec, h⟩ := zbd_s h
      refine zc_Vi hY P0 ⟨hx, hb, hml, hown, hT⟩ (As := [.int (nI 3), .int a2, .int (-3 : Int32)]) (rest := [.ref (zad g 8)]) (kX0_add l hO (nI 3) a2 (-3 : Int32) S2 r7 S8 ec) (cwV 3 hT (zgV mL_X3_62 mI_X0_add mS_X0_add mN_X0 mC_X0_add) rfl rfl rfl hdnX0_add ⟨Nat.le_of_ble_eq_true rfl, Nat.le_of_ble_eq_true rfl⟩) (zrecX_5 P0 Z) Z rfl hl.1 rfl (Nat.le_of_ble_eq_true rfl) dX3_doDeed_103 (fun H locs Z => ?_)
      exact B106 r7 S8 h _ _ Z ls (lv_sub hl [] rfl)
    · have h := zi_t q h
      refine lv_aload_n hx hb dX3_doDeed_81 rfl (lv_at hl 0 rfl) ?_
      refine zgX3_1 hx hb hf hown P0 Z L29 dX3_doDeed_82 ?_
      refine lv_iconst (v := (nI 5)) hx hb dX3_doDeed_85 (by decide) ?_
      refine lv_iconst (v := (nI 0)) hx hb dX3_doDeed_86 (by decide) ?_
      refine lv_bipush (v := (-3 : Int32)) hx hb dX3_doDeed_87 (by decide) ?_
      obtain ⟨r9, S10, ec, h⟩ := zbd_s h
      refine zc_Vi hY P0 ⟨hx, hb, hml, hown, hT⟩ (As := [.int (nI 5), .int (nI 0), .int (-3 : Int32)]) (rest := [.ref (zad g 8)]) (kX0_add l hO (nI 5) (nI 0) (-3 : Int32) S2 r9 S10 ec) (cwV 3 hT (zgV mL_X3_62 mI_X0_add mS_X0_add mN_X0 mC_X0_add) rfl rfl rfl hdnX0_add ⟨Nat.le_of_ble_eq_true rfl, Nat.le_of_ble_eq_true rfl⟩) (zrecX_5 P0 Z) Z rfl hl.1 rfl (Nat.le_of_ble_eq_true rfl) dX3_doDeed_89 (fun H locs Z => ?_)
      refine lv_goto (tgt := 106) hx hb dX3_doDeed_92 (by decide) ?_
      exact B106 r9 S10 h _ _ Z ls (lv_sub hl [] rfl)
  have h := zi_f q1 h
  by_cases q2 : r1 = (nI 2)
  · have h := zi_t q2 h
    refine ztbl (off := 104) (tgt := 112) hx hb q2 dX3_doDeed_8 (by decide) (by decide) (by decide) (by decide) ?_
    refine lv_aload_n hx hb dX3_doDeed_112 rfl (lv_at hl 0 rfl) ?_
    refine lv_iload_n hx hb dX3_doDeed_113 rfl (lv_at hl 2 rfl) ?_
    obtain ⟨r11, S12, ec, h⟩ := zbd_s h
    refine zc_Vv hY P0 ⟨hx, hb, hml, hown, hT⟩ (As := [.int a2]) (rest := []) (kX3_letWait l hO a2 S2 r11 S12 ec) (cwV 1 hT (zgV mL_X3_66 mI_X3_letWait mS_X3_letWait mN_X3 mC_X3_letWait) rfl rfl rfl hdnX3_letWait ⟨Nat.le_of_ble_eq_true rfl, Nat.le_of_ble_eq_true rfl⟩) (zrecX_8 P0 Z) Z rfl hl.1 rfl (Nat.le_of_ble_eq_true rfl) dX3_doDeed_114 (fun H locs Z => ?_)
    refine lv_goto (tgt := 216) hx hb dX3_doDeed_117 (by decide) ?_
    exact zr_v hY P0 hx hb hr hlocks h Z dX3_doDeed_216
  have h := zi_f q2 h
  by_cases q3 : r1 = (nI 3)
  · have h := zi_t q3 h
    refine ztbl (off := 112) (tgt := 120) hx hb q3 dX3_doDeed_8 (by decide) (by decide) (by decide) (by decide) ?_
    refine lv_aload_n hx hb dX3_doDeed_120 rfl (lv_at hl 0 rfl) ?_
    refine lv_iload_n hx hb dX3_doDeed_121 rfl (lv_at hl 2 rfl) ?_
    refine lv_if_lt (tgt := 143) hx hb dX3_doDeed_122 (by decide) (fun q => ?_) (fun q => ?_)
    · have h := zi_t q h
      exact B143 S2 h _ _ Z ls (lv_sub hl [] rfl)
    · have h := zi_f q h
      refine lv_iload_n hx hb dX3_doDeed_125 rfl (lv_at hl 2 rfl) ?_
      refine lv_aload_n hx hb dX3_doDeed_126 rfl (lv_at hl 0 rfl) ?_
      refine zgX3_2 hx hb hf hown P0 Z L9 dX3_doDeed_127 ?_
      refine zaX_33 hx hb P0 Z dX3_doDeed_130 ?_
      refine lv_icmp_ge (tgt := 143) hx hb dX3_doDeed_131 (by decide) (fun q => ?_) (fun q => ?_)
      · have h := zi_t q h
        exact B143 S2 h _ _ Z ls (lv_sub hl [] rfl)
      · have h := zi_f q h
        refine lv_aload_n hx hb dX3_doDeed_134 rfl (lv_at hl 0 rfl) ?_
        refine zgX3_2 hx hb hf hown P0 Z L9 dX3_doDeed_135 ?_
        refine lv_iload_n hx hb dX3_doDeed_138 rfl (lv_at hl 2 rfl) ?_
        obtain ⟨v13, ev, hin, h⟩ := zld_s h
        refine zlX_33 hx hb P0 Z ev hin dX3_doDeed_139 ?_
        refine lv_goto (tgt := 144) hx hb dX3_doDeed_140 (by decide) ?_
        exact B144 v13 S2 h _ _ Z ls (lv_sub hl [] rfl)
  have h := zi_f q3 h
  by_cases q4 : r1 = (nI 4)
  · have h := zi_t q4 h
    refine ztbl (off := 142) (tgt := 150) hx hb q4 dX3_doDeed_8 (by decide) (by decide) (by decide) (by decide) ?_
    refine lv_aload_n hx hb dX3_doDeed_150 rfl (lv_at hl 0 rfl) ?_
    refine lv_iload_n hx hb dX3_doDeed_151 rfl (lv_at hl 2 rfl) ?_
    refine lv_if_lt (tgt := 173) hx hb dX3_doDeed_152 (by decide) (fun q => ?_) (fun q => ?_)
    · have h := zi_t q h
      exact B173 S2 h _ _ Z ls (lv_sub hl [] rfl)
    · have h := zi_f q h
      refine lv_iload_n hx hb dX3_doDeed_155 rfl (lv_at hl 2 rfl) ?_
      refine lv_aload_n hx hb dX3_doDeed_156 rfl (lv_at hl 0 rfl) ?_
      refine zgX3_3 hx hb hf hown P0 Z L15 dX3_doDeed_157 ?_
      refine zaX_34 hx hb P0 Z dX3_doDeed_160 ?_
      refine lv_icmp_ge (tgt := 173) hx hb dX3_doDeed_161 (by decide) (fun q => ?_) (fun q => ?_)
      · have h := zi_t q h
        exact B173 S2 h _ _ Z ls (lv_sub hl [] rfl)
      · have h := zi_f q h
        refine lv_aload_n hx hb dX3_doDeed_164 rfl (lv_at hl 0 rfl) ?_
        refine zgX3_3 hx hb hf hown P0 Z L15 dX3_doDeed_165 ?_
        refine lv_iload_n hx hb dX3_doDeed_168 rfl (lv_at hl 2 rfl) ?_
        obtain ⟨v14, ev, hin, h⟩ := zld_s h
        refine zlX_34 hx hb P0 Z ev hin dX3_doDeed_169 ?_
        refine lv_goto (tgt := 174) hx hb dX3_doDeed_170 (by decide) ?_
        exact B174 v14 S2 h _ _ Z ls (lv_sub hl [] rfl)
  have h := zi_f q4 h
  by_cases q5 : r1 = (nI 5)
  · have h := zi_t q5 h
    refine ztbl (off := 172) (tgt := 180) hx hb q5 dX3_doDeed_8 (by decide) (by decide) (by decide) (by decide) ?_
    refine lv_aload_n hx hb dX3_doDeed_180 rfl (lv_at hl 0 rfl) ?_
    refine lv_iload_n hx hb dX3_doDeed_181 rfl (lv_at hl 2 rfl) ?_
    obtain ⟨r15, S16, ec, h⟩ := zbd_s h
    refine zc_Vv hY P0 ⟨hx, hb, hml, hown, hT⟩ (As := [.int a2]) (rest := []) (kX3_applyWaiting l hO a2 S2 r15 S16 ec) (cwV 1 hT (zgV mL_X3_69 mI_X3_applyWaiting mS_X3_applyWaiting mN_X3 mC_X3_applyWaiting) rfl rfl rfl hdnX3_applyWaiting ⟨Nat.le_of_ble_eq_true rfl, Nat.le_of_ble_eq_true rfl⟩) (zrecX_8 P0 Z) Z rfl hl.1 rfl (Nat.le_of_ble_eq_true rfl) dX3_doDeed_182 (fun H locs Z => ?_)
    refine lv_goto (tgt := 216) hx hb dX3_doDeed_185 (by decide) ?_
    exact zr_v hY P0 hx hb hr hlocks h Z dX3_doDeed_216
  have h := zi_f q5 h
  by_cases q6 : r1 = (nI 6)
  · have h := zi_t q6 h
    refine ztbl (off := 180) (tgt := 188) hx hb q6 dX3_doDeed_8 (by decide) (by decide) (by decide) (by decide) ?_
    refine lv_aload_n hx hb dX3_doDeed_188 rfl (lv_at hl 0 rfl) ?_
    refine lv_aload_n hx hb dX3_doDeed_189 rfl (lv_at hl 0 rfl) ?_
    refine zgX3_0 hx hb hf hown P0 Z L25 dX3_doDeed_190 ?_
    refine lv_iload_n hx hb dX3_doDeed_193 rfl (lv_at hl 1 rfl) ?_
    obtain ⟨r17, S18, ec, h⟩ := zbd_s h
    refine zc_Vi hY P0 ⟨hx, hb, hml, hown, hT⟩ (As := [.int a1]) (rest := [.ref (zad g 8)]) (kX4_firstSlotAt l hO a1 S2 r17 S18 ec) (cwV 1 hT (zgV mL_X3_72 mI_X4_firstSlotAt mS_X4_firstSlotAt mN_X4 mC_X4_firstSlotAt) rfl rfl rfl hdnX4_firstSlotAt ⟨Nat.le_of_ble_eq_true rfl, Nat.le_of_ble_eq_true rfl⟩) (zrecX_2 P0 Z) Z rfl hl.1 rfl (Nat.le_of_ble_eq_true rfl) dX3_doDeed_194 (fun H locs Z => ?_)
    refine lv_iload_n hx hb dX3_doDeed_197 rfl (lv_at hl 2 rfl) ?_
    obtain ⟨r19, S20, ec, h⟩ := zbd_s h
    refine zc_Vv hY P0 ⟨hx, hb, hml, hown, hT⟩ (As := [.int r17, .int a2]) (rest := []) (kX3_addPointers l hO r17 a2 S18 r19 S20 ec) (cwV 2 hT (zgV mL_X3_75 mI_X3_addPointers mS_X3_addPointers mN_X3 mC_X3_addPointers) rfl rfl rfl hdnX3_addPointers ⟨Nat.le_of_ble_eq_true rfl, Nat.le_of_ble_eq_true rfl⟩) (zrecX_8 P0 Z) Z rfl hl.1 rfl (Nat.le_of_ble_eq_true rfl) dX3_doDeed_198 (fun H locs Z => ?_)
    refine lv_goto (tgt := 216) hx hb dX3_doDeed_201 (by decide) ?_
    exact zr_v hY P0 hx hb hr hlocks h Z dX3_doDeed_216
  have h := zi_f q6 h
  by_cases q7 : r1 = (nI 7)
  · have h := zi_t q7 h
    refine ztbl (off := 196) (tgt := 204) hx hb q7 dX3_doDeed_8 (by decide) (by decide) (by decide) (by decide) ?_
    refine lv_aload_n hx hb dX3_doDeed_204 rfl (lv_at hl 0 rfl) ?_
    refine lv_iload_n hx hb dX3_doDeed_205 rfl (lv_at hl 2 rfl) ?_
    refine lv_aload_n hx hb dX3_doDeed_206 rfl (lv_at hl 0 rfl) ?_
    obtain ⟨r21, S22, ec, h⟩ := zbd_s h
    refine zc_Vi hY P0 ⟨hx, hb, hml, hown, hT⟩ (As := []) (rest := [.int a2, .ref (zad g 8)]) (kX3_takeWaiting l hO  S2 r21 S22 ec) (cwV 0 hT (zgV mL_X3_55 mI_X3_takeWaiting mS_X3_takeWaiting mN_X3 mC_X3_takeWaiting) rfl rfl rfl hdnX3_takeWaiting ⟨Nat.le_of_ble_eq_true rfl, Nat.le_of_ble_eq_true rfl⟩) (zrecX_8 P0 Z) Z rfl hl.1 rfl (Nat.le_of_ble_eq_true rfl) dX3_doDeed_207 (fun H locs Z => ?_)
    obtain ⟨r23, S24, ec, h⟩ := zbd_s h
    refine zc_Vv hY P0 ⟨hx, hb, hml, hown, hT⟩ (As := [.int a2, .int r21]) (rest := []) (kX3_bind l hO a2 r21 S22 r23 S24 ec) (cwV 2 hT (zgV mL_X3_78 mI_X3_bind mS_X3_bind mN_X3 mC_X3_bind) rfl rfl rfl hdnX3_bind ⟨Nat.le_of_ble_eq_true rfl, Nat.le_of_ble_eq_true rfl⟩) (zrecX_8 P0 Z) Z rfl hl.1 rfl (Nat.le_of_ble_eq_true rfl) dX3_doDeed_210 (fun H locs Z => ?_)
    refine lv_goto (tgt := 216) hx hb dX3_doDeed_213 (by decide) ?_
    exact zr_v hY P0 hx hb hr hlocks h Z dX3_doDeed_216
  have h := zi_f q7 h
  have u0 : ¬ r1.toInt = 0 := lv_neT q0 (by decide)
  have u1 : ¬ r1.toInt = 1 := lv_neT q1 (by decide)
  have u2 : ¬ r1.toInt = 2 := lv_neT q2 (by decide)
  have u3 : ¬ r1.toInt = 3 := lv_neT q3 (by decide)
  have u4 : ¬ r1.toInt = 4 := lv_neT q4 (by decide)
  have u5 : ¬ r1.toInt = 5 := lv_neT q5 (by decide)
  have u6 : ¬ r1.toInt = 6 := lv_neT q6 (by decide)
  have u7 : ¬ r1.toInt = 7 := lv_neT q7 (by decide)
  refine lv_tableOut (tgt := 216) hx hb dX3_doDeed_8 (by omega) (by decide) ?_
  exact zr_v hY P0 hx hb hr hlocks h Z dX3_doDeed_216

set_option maxHeartbeats 4000000 in
set_option maxRecDepth 100000 in
theorem kX4_beginOf {g : zG} (l : Launch) (hO : zinjX g) (a1 : Int32) (S : zSt) (r : Int32) (S' : zSt) (h : fX4_beginOf a1 S = some (r, S')) : zMi (zYX g) l yX4_beginOf vX4_beginOf { frames := 1, cells := 0, slots := 0, locals := 20 } ([.ref (zad g 2), .int a1] : List Value) S r S' := by
  have hY := zOkX hO
  refine Met.ofW (cc := cX4_beginOf) (maxL := 2) (ret := (some .int)) (by decide) rfl ?_
  intro p e s m args below meth c s₁ B hml hv
  obtain ⟨rfl, hP⟩ := hv
  have hx := B.exec
  have hb := B.bytes
  have hr := B.returns
  have hts := atoms_spec (ws := vX4_beginOf) B.pre
  have hT : ∀ w ∈ zTB, w.before ([.ref (zad g 2), .int a1] : List Value).toArray s = true := fun w h => hts w (List.mem_cons_of_mem _ h)
  have hown : s.vm.findClass RX4 = some m.cls := findClass_of_methodNamed B.named
  have hlocks := B.notSynchronized
  have P0 := hP.2
  have Z : zZ (zYX g) S s s.heap [] := ⟨hP.1, va_S.rf⟩
  have hf : ∀ w ∈ u_ws RX4 TX4 12, w.before ([.ref (zad g 2), .int a1] : List Value).toArray s = true := fun w hw => hT w (mU_X4 w hw)
  have L19 := hT _ mF_X4_19
  have hl := lv_entry ([.ref (zad g 2), .int a1] : List Value) (n := 2) (Nat.le_of_ble_eq_true rfl)
  rw [lg_entry_eq]
  generalize (lg_sl ([.ref (zad g 2), .int a1] : List Value) ++ List.replicate (2 - (lg_sl ([.ref (zad g 2), .int a1] : List Value)).length) Slot.unset).toArray = ls at hl ⊢
  have hl : lv_has ls 2 [(0, .ref (zad g 2)), (1, .int a1)] := hl
  unfold fX4_beginOf at h
  refine lv_iload_n hx hb dX4_beginOf_0 rfl (lv_at hl 1 rfl) ?_
  obtain ⟨r1, S2, ec, h⟩ := zbd_s h
  refine zc_Si hY P0 ⟨hx, hb, hml, hown, hT⟩ (As := [.int a1]) (rest := []) (kX4_isDefinition l hO a1 S r1 S2 ec) (va_cwS 1 hT (zgS mL_X4_60 mT_X4_isDefinition mN_X4 mC_X4_isDefinition) rfl rfl rfl hdnX4_isDefinition ⟨Nat.le_of_ble_eq_true rfl, Nat.le_of_ble_eq_true rfl⟩) Z rfl hl.1 rfl (Nat.le_of_ble_eq_true rfl) dX4_beginOf_1 (fun H locs Z => ?_)
  refine lv_if_eq (tgt := 16) hx hb dX4_beginOf_4 (by decide) (fun q => ?_) (fun q => ?_)
  · have h := zi_t q h
    refine lv_iconst (v := (nI 0)) hx hb dX4_beginOf_16 (by decide) ?_
    exact zr_i hY P0 hx hb hr hlocks h Z dX4_beginOf_17
  · have h := zi_f q h
    refine lv_aload_n hx hb dX4_beginOf_7 rfl (lv_at hl 0 rfl) ?_
    refine zgX4_2 hx hb hf hown P0 Z L19 dX4_beginOf_8 ?_
    refine lv_iload_n hx hb dX4_beginOf_11 rfl (lv_at hl 1 rfl) ?_
    obtain ⟨v3, ev, hin, h⟩ := zld_s h
    refine zlX_14 hx hb P0 Z ev hin dX4_beginOf_12 ?_
    refine lv_goto (tgt := 17) hx hb dX4_beginOf_13 (by decide) ?_
    exact zr_i hY P0 hx hb hr hlocks h Z dX4_beginOf_17

set_option maxHeartbeats 4000000 in
set_option maxRecDepth 100000 in
theorem kX4_endOf {g : zG} (l : Launch) (hO : zinjX g) (a1 : Int32) (S : zSt) (r : Int32) (S' : zSt) (h : fX4_endOf a1 S = some (r, S')) : zMi (zYX g) l yX4_endOf vX4_endOf { frames := 1, cells := 0, slots := 0, locals := 20 } ([.ref (zad g 2), .int a1] : List Value) S r S' := by
  have hY := zOkX hO
  refine Met.ofW (cc := cX4_endOf) (maxL := 2) (ret := (some .int)) (by decide) rfl ?_
  intro p e s m args below meth c s₁ B hml hv
  obtain ⟨rfl, hP⟩ := hv
  have hx := B.exec
  have hb := B.bytes
  have hr := B.returns
  have hts := atoms_spec (ws := vX4_endOf) B.pre
  have hT : ∀ w ∈ zTB, w.before ([.ref (zad g 2), .int a1] : List Value).toArray s = true := fun w h => hts w (List.mem_cons_of_mem _ h)
  have hown : s.vm.findClass RX4 = some m.cls := findClass_of_methodNamed B.named
  have hlocks := B.notSynchronized
  have P0 := hP.2
  have Z : zZ (zYX g) S s s.heap [] := ⟨hP.1, va_S.rf⟩
  have hf : ∀ w ∈ u_ws RX4 TX4 12, w.before ([.ref (zad g 2), .int a1] : List Value).toArray s = true := fun w hw => hT w (mU_X4 w hw)
  have L22 := hT _ mF_X4_22
  have hl := lv_entry ([.ref (zad g 2), .int a1] : List Value) (n := 2) (Nat.le_of_ble_eq_true rfl)
  rw [lg_entry_eq]
  generalize (lg_sl ([.ref (zad g 2), .int a1] : List Value) ++ List.replicate (2 - (lg_sl ([.ref (zad g 2), .int a1] : List Value)).length) Slot.unset).toArray = ls at hl ⊢
  have hl : lv_has ls 2 [(0, .ref (zad g 2)), (1, .int a1)] := hl
  unfold fX4_endOf at h
  refine lv_iload_n hx hb dX4_endOf_0 rfl (lv_at hl 1 rfl) ?_
  obtain ⟨r1, S2, ec, h⟩ := zbd_s h
  refine zc_Si hY P0 ⟨hx, hb, hml, hown, hT⟩ (As := [.int a1]) (rest := []) (kX4_isDefinition l hO a1 S r1 S2 ec) (va_cwS 1 hT (zgS mL_X4_60 mT_X4_isDefinition mN_X4 mC_X4_isDefinition) rfl rfl rfl hdnX4_isDefinition ⟨Nat.le_of_ble_eq_true rfl, Nat.le_of_ble_eq_true rfl⟩) Z rfl hl.1 rfl (Nat.le_of_ble_eq_true rfl) dX4_endOf_1 (fun H locs Z => ?_)
  refine lv_if_eq (tgt := 16) hx hb dX4_endOf_4 (by decide) (fun q => ?_) (fun q => ?_)
  · have h := zi_t q h
    refine lv_iconst (v := (nI 0)) hx hb dX4_endOf_16 (by decide) ?_
    exact zr_i hY P0 hx hb hr hlocks h Z dX4_endOf_17
  · have h := zi_f q h
    refine lv_aload_n hx hb dX4_endOf_7 rfl (lv_at hl 0 rfl) ?_
    refine zgX4_3 hx hb hf hown P0 Z L22 dX4_endOf_8 ?_
    refine lv_iload_n hx hb dX4_endOf_11 rfl (lv_at hl 1 rfl) ?_
    obtain ⟨v3, ev, hin, h⟩ := zld_s h
    refine zlX_15 hx hb P0 Z ev hin dX4_endOf_12 ?_
    refine lv_goto (tgt := 17) hx hb dX4_endOf_13 (by decide) ?_
    exact zr_i hY P0 hx hb hr hlocks h Z dX4_endOf_17

set_option maxHeartbeats 4000000 in
set_option maxRecDepth 100000 in
theorem kX3_make {g : zG} (l : Launch) (hO : zinjX g) (a1 : Int32) (S : zSt) (r : Int32) (S' : zSt) (h : fX3_make a1 S = some (r, S')) : zMi (zYX g) l yX3_make vX3_make { frames := 3, cells := 0, slots := 0, locals := 71 } ([.ref (zad g 8), .int a1] : List Value) S r S' := by
  have hY := zOkX hO
  refine Met.ofW (cc := cX3_make) (maxL := 4) (ret := (some .int)) (by decide) rfl ?_
  intro p e s m args below meth c s₁ B hml hv
  obtain ⟨rfl, hP⟩ := hv
  have hx := B.exec
  have hb := B.bytes
  have hr := B.returns
  have hts := atoms_spec (ws := vX3_make) B.pre
  have hT : ∀ w ∈ zTB, w.before ([.ref (zad g 8), .int a1] : List Value).toArray s = true := fun w h => hts w (List.mem_cons_of_mem _ h)
  have hown : s.vm.findClass RX3 = some m.cls := findClass_of_methodNamed B.named
  have hlocks := B.notSynchronized
  have P0 := hP.2
  have Z : zZ (zYX g) S s s.heap [] := ⟨hP.1, va_S.rf⟩
  have hf : ∀ w ∈ u_ws RX3 TX3 6, w.before ([.ref (zad g 8), .int a1] : List Value).toArray s = true := fun w hw => hT w (mU_X3 w hw)
  have L21 := hT _ mF_X3_21
  have L29 := hT _ mF_X3_29
  have L25 := hT _ mF_X3_25
  have B31 : ∀ (n : Nat) (x2 : Int32) (x3 : Int32) (S : zSt), fX3_make_31L n (x2, x3, S) = some (r, S') → ∀ (H : Heap) (locs : List Loc), zZ (zYX g) S s H locs → ∀ ls : Array Slot, lv_has ls 4 [(0, .ref (zad g 8)), (2, .int x2), (3, .int x3)] → W p l e (headSpec vX3_make { frames := 3, cells := 0, slots := 0, locals := 71 }).room s m ([.ref (zad g 8), .int a1] : List Value).toArray below meth c H locs 0 0 (MQ below (zQi (zYX g) r S') ([.ref (zad g 8), .int a1] : List Value).toArray s 0 0 (zYX g).2.2.1) (F0 m 31 ls []) := by
    intro n
    induction n with
    | zero => intro x2 x3 S h; exact absurd h (fun h => nomatch h)
    | succ n K31 =>
      intro x2 x3 S h H locs Z ls hl
      have h : fX3_make_31 (fX3_make_31L n) x2 x3 S = some (r, S') := h
      unfold fX3_make_31 at h
      refine lv_iload_n hx hb dX3_make_31 rfl (lv_at hl 2 rfl) ?_
      refine lv_iload_n hx hb dX3_make_32 rfl (lv_at hl 1 rfl) ?_
      refine lv_icmp_ge (tgt := 55) hx hb dX3_make_33 (by decide) (fun q => ?_) (fun q => ?_)
      · have h := zi_t q h
        refine lv_aload_n hx hb dX3_make_55 rfl (lv_at hl 0 rfl) ?_
        obtain ⟨r7, S8, ec, h⟩ := zbd_s h
        refine zc_Vi hY P0 ⟨hx, hb, hml, hown, hT⟩ (As := []) (rest := []) (kX3_takeWaiting l hO  S r7 S8 ec) (cwV 0 hT (zgV mL_X3_55 mI_X3_takeWaiting mS_X3_takeWaiting mN_X3 mC_X3_takeWaiting) rfl rfl rfl hdnX3_takeWaiting ⟨Nat.le_of_ble_eq_true rfl, Nat.le_of_ble_eq_true rfl⟩) (zrecX_8 P0 Z) Z rfl hl.1 rfl (Nat.le_of_ble_eq_true rfl) dX3_make_56 (fun H locs Z => ?_)
        exact zr_i hY P0 hx hb hr hlocks h Z dX3_make_59
      · have h := zi_f q h
        refine lv_aload_n hx hb dX3_make_36 rfl (lv_at hl 0 rfl) ?_
        refine lv_iload_n hx hb dX3_make_37 rfl (lv_at hl 2 rfl) ?_
        refine lv_aload_n hx hb dX3_make_38 rfl (lv_at hl 0 rfl) ?_
        refine zgX3_0 hx hb hf hown P0 Z L25 dX3_make_39 ?_
        refine lv_iload_n hx hb dX3_make_42 rfl (lv_at hl 2 rfl) ?_
        obtain ⟨r9, S10, ec, h⟩ := zbd_s h
        refine zc_Vi hY P0 ⟨hx, hb, hml, hown, hT⟩ (As := [.int x3]) (rest := [.int x3, .ref (zad g 8)]) (kX4_aboutAt l hO x3 S r9 S10 ec) (cwV 1 hT (zgV mL_X3_48 mI_X4_aboutAt mS_X4_aboutAt mN_X4 mC_X4_aboutAt) rfl rfl rfl hdnX4_aboutAt ⟨Nat.le_of_ble_eq_true rfl, Nat.le_of_ble_eq_true rfl⟩) (zrecX_2 P0 Z) Z rfl hl.1 rfl (Nat.le_of_ble_eq_true rfl) dX3_make_43 (fun H locs Z => ?_)
        obtain ⟨r11, S12, ec, h⟩ := zbd_s h
        refine zc_Vv hY P0 ⟨hx, hb, hml, hown, hT⟩ (As := [.int x3, .int r9]) (rest := []) (kX3_doDeed l hO x3 r9 S10 r11 S12 ec) (cwV 2 hT (zgV mL_X3_51 mI_X3_doDeed mS_X3_doDeed mN_X3 mC_X3_doDeed) rfl rfl rfl hdnX3_doDeed ⟨Nat.le_of_ble_eq_true rfl, Nat.le_of_ble_eq_true rfl⟩) (zrecX_8 P0 Z) Z rfl hl.1 rfl (Nat.le_of_ble_eq_true rfl) dX3_make_46 (fun H locs Z => ?_)
        refine lv_iinc (v := (x3 + (nI 1))) (lv' := [(3, .int (x3 + (nI 1))), (0, .ref (zad g 8)), (2, .int x2)]) hx hb dX3_make_49 hl (k := 2) rfl rfl (by decide) rfl (fun ls hl => ?_)
        refine lv_goto (tgt := 31) hx hb dX3_make_52 (by decide) ?_
        exact K31 x2 (x3 + (nI 1)) S12 h _ _ Z ls (lv_sub hl [1, 2, 0] rfl)
  have hl := lv_entry ([.ref (zad g 8), .int a1] : List Value) (n := 4) (Nat.le_of_ble_eq_true rfl)
  rw [lg_entry_eq]
  generalize (lg_sl ([.ref (zad g 8), .int a1] : List Value) ++ List.replicate (4 - (lg_sl ([.ref (zad g 8), .int a1] : List Value)).length) Slot.unset).toArray = ls at hl ⊢
  have hl : lv_has ls 4 [(0, .ref (zad g 8)), (1, .int a1)] := hl
  unfold fX3_make at h
  refine lv_aload_n hx hb dX3_make_0 rfl (lv_at hl 0 rfl) ?_
  refine lv_iconst (v := (nI 0)) hx hb dX3_make_1 (by decide) ?_
  refine zpX3_5 hO hx hb hf hown P0 Z L21 dX3_make_2 (fun H locs Z => ?_)
  refine lv_aload_n hx hb dX3_make_5 rfl (lv_at hl 0 rfl) ?_
  refine zgX3_1 hx hb hf hown P0 Z L29 dX3_make_6 ?_
  refine lv_iload_n hx hb dX3_make_9 rfl (lv_at hl 1 rfl) ?_
  obtain ⟨r1, S2, ec, h⟩ := zbd_s h
  refine zc_Vv hY P0 ⟨hx, hb, hml, hown, hT⟩ (As := [.int a1]) (rest := []) (kX0_workFor l hO a1 (wI S 26 (nI 0)) r1 S2 ec) (cwV 1 hT (zgV mL_X3_33 mI_X0_workFor mS_X0_workFor mN_X0 mC_X0_workFor) rfl rfl rfl hdnX0_workFor ⟨Nat.le_of_ble_eq_true rfl, Nat.le_of_ble_eq_true rfl⟩) (zrecX_5 P0 Z) Z rfl hl.1 rfl (Nat.le_of_ble_eq_true rfl) dX3_make_10 (fun H locs Z => ?_)
  refine lv_aload_n hx hb dX3_make_13 rfl (lv_at hl 0 rfl) ?_
  refine zgX3_0 hx hb hf hown P0 Z L25 dX3_make_14 ?_
  refine lv_iload_n hx hb dX3_make_17 rfl (lv_at hl 1 rfl) ?_
  obtain ⟨r3, S4, ec, h⟩ := zbd_s h
  refine zc_Vi hY P0 ⟨hx, hb, hml, hown, hT⟩ (As := [.int a1]) (rest := []) (kX4_endOf l hO a1 S2 r3 S4 ec) (cwV 1 hT (zgV mL_X3_39 mI_X4_endOf mS_X4_endOf mN_X4 mC_X4_endOf) rfl rfl rfl hdnX4_endOf ⟨Nat.le_of_ble_eq_true rfl, Nat.le_of_ble_eq_true rfl⟩) (zrecX_2 P0 Z) Z rfl hl.1 rfl (Nat.le_of_ble_eq_true rfl) dX3_make_18 (fun H locs Z => ?_)
  refine lv_istore_n (lv' := [(2, .int r3), (0, .ref (zad g 8)), (1, .int a1)]) hx hb dX3_make_21 rfl hl (by decide) rfl (fun ls hl => ?_)
  refine lv_aload_n hx hb dX3_make_22 rfl (lv_at hl 1 rfl) ?_
  refine zgX3_0 hx hb hf hown P0 Z L25 dX3_make_23 ?_
  refine lv_iload_n hx hb dX3_make_26 rfl (lv_at hl 2 rfl) ?_
  obtain ⟨r5, S6, ec, h⟩ := zbd_s h
  refine zc_Vi hY P0 ⟨hx, hb, hml, hown, hT⟩ (As := [.int a1]) (rest := []) (kX4_beginOf l hO a1 S4 r5 S6 ec) (cwV 1 hT (zgV mL_X3_45 mI_X4_beginOf mS_X4_beginOf mN_X4 mC_X4_beginOf) rfl rfl rfl hdnX4_beginOf ⟨Nat.le_of_ble_eq_true rfl, Nat.le_of_ble_eq_true rfl⟩) (zrecX_2 P0 Z) Z rfl hl.1 rfl (Nat.le_of_ble_eq_true rfl) dX3_make_27 (fun H locs Z => ?_)
  refine lv_istore_n (lv' := [(3, .int r5), (2, .int r3), (0, .ref (zad g 8)), (1, .int a1)]) hx hb dX3_make_30 rfl hl (by decide) rfl (fun ls hl => ?_)
  exact B31 zFU r3 r5 S6 h _ _ Z ls (lv_sub hl [2, 1, 0] rfl)

set_option maxHeartbeats 4000000 in
set_option maxRecDepth 100000 in
theorem kX6_pop {g : zG} (l : Launch) (hO : zinjX g) (a1 : Int32) (S : zSt) (r : Unit) (S' : zSt) (h : fX6_pop a1 S = some (r, S')) : zMv (zYX g) l yX6_pop vX6_pop { frames := 2, cells := 0, slots := 0, locals := 41 } ([.ref (zad g 6), .int a1] : List Value) S S' := by
  have hY := zOkX hO
  refine Met.ofW (cc := cX6_pop) (maxL := 2) (ret := none) (by decide) rfl ?_
  intro p e s m args below meth c s₁ B hml hv
  obtain ⟨rfl, hP⟩ := hv
  have hx := B.exec
  have hb := B.bytes
  have hr := B.returns
  have hts := atoms_spec (ws := vX6_pop) B.pre
  have hT : ∀ w ∈ zTB, w.before ([.ref (zad g 6), .int a1] : List Value).toArray s = true := fun w h => hts w (List.mem_cons_of_mem _ h)
  have hown : s.vm.findClass RX6 = some m.cls := findClass_of_methodNamed B.named
  have hlocks := B.notSynchronized
  have P0 := hP.2
  have Z : zZ (zYX g) S s s.heap [] := ⟨hP.1, va_S.rf⟩
  have hf : ∀ w ∈ u_ws RX6 TX6 4, w.before ([.ref (zad g 6), .int a1] : List Value).toArray s = true := fun w hw => hT w (mU_X6 w hw)
  have L18 := hT _ mF_X6_18
  have hl := lv_entry ([.ref (zad g 6), .int a1] : List Value) (n := 2) (Nat.le_of_ble_eq_true rfl)
  rw [lg_entry_eq]
  generalize (lg_sl ([.ref (zad g 6), .int a1] : List Value) ++ List.replicate (2 - (lg_sl ([.ref (zad g 6), .int a1] : List Value)).length) Slot.unset).toArray = ls at hl ⊢
  have hl : lv_has ls 2 [(0, .ref (zad g 6)), (1, .int a1)] := hl
  unfold fX6_pop at h
  refine lv_aload_n hx hb dX6_pop_0 rfl (lv_at hl 0 rfl) ?_
  refine lv_dup hx hb dX6_pop_1 rfl ?_
  refine zgX6_2 (v := (zI S 19)) hx hb hf hown P0 Z L18 rfl dX6_pop_2 ?_
  refine lv_iload_n hx hb dX6_pop_5 rfl (lv_at hl 1 rfl) ?_
  refine lv_aload_n hx hb dX6_pop_6 rfl (lv_at hl 0 rfl) ?_
  obtain ⟨r1, S2, ec, h⟩ := zbd_s h
  refine zc_Vi hY P0 ⟨hx, hb, hml, hown, hT⟩ (As := []) (rest := [.int a1, .int (zI S 19), .ref (zad g 6)]) (kX6_height l hO  S r1 S2 ec) (cwV 0 hT (zgV mL_X6_33 mI_X6_height mS_X6_height mN_X6 mC_X6_height) rfl rfl rfl hdnX6_height ⟨Nat.le_of_ble_eq_true rfl, Nat.le_of_ble_eq_true rfl⟩) (zrecX_6 P0 Z) Z rfl hl.1 rfl (Nat.le_of_ble_eq_true rfl) dX6_pop_7 (fun H locs Z => ?_)
  refine lv_icmp_ge (tgt := 17) hx hb dX6_pop_10 (by decide) (fun q => ?_) (fun q => ?_)
  · have h := zi_t q h
    refine lv_aload_n hx hb dX6_pop_17 rfl (lv_at hl 0 rfl) ?_
    obtain ⟨r3, S4, ec, h⟩ := zbd_s h
    refine zc_Vi hY P0 ⟨hx, hb, hml, hown, hT⟩ (As := []) (rest := [.int (zI S 19), .ref (zad g 6)]) (kX6_height l hO  S2 r3 S4 ec) (cwV 0 hT (zgV mL_X6_33 mI_X6_height mS_X6_height mN_X6 mC_X6_height) rfl rfl rfl hdnX6_height ⟨Nat.le_of_ble_eq_true rfl, Nat.le_of_ble_eq_true rfl⟩) (zrecX_6 P0 Z) Z rfl hl.1 rfl (Nat.le_of_ble_eq_true rfl) dX6_pop_18 (fun H locs Z => ?_)
    refine lv_isub hx hb dX6_pop_21 ?_
    refine zpX6_2 hO hx hb hf hown P0 Z L18 dX6_pop_22 (fun H locs Z => ?_)
    exact zr_v hY P0 hx hb hr hlocks h Z dX6_pop_25
  · have h := zi_f q h
    refine lv_iload_n hx hb dX6_pop_13 rfl (lv_at hl 1 rfl) ?_
    refine lv_goto (tgt := 21) hx hb dX6_pop_14 (by decide) ?_
    refine lv_isub hx hb dX6_pop_21 ?_
    refine zpX6_2 hO hx hb hf hown P0 Z L18 dX6_pop_22 (fun H locs Z => ?_)
    exact zr_v hY P0 hx hb hr hlocks h Z dX6_pop_25

set_option maxHeartbeats 4000000 in
set_option maxRecDepth 100000 in
theorem kX2_makeFunction {g : zG} (l : Launch) (hO : zinjX g) (a1 : Int32) (S : zSt) (r : Unit) (S' : zSt) (h : fX2_makeFunction a1 S = some (r, S')) : zMv (zYX g) l yX2_makeFunction vX2_makeFunction { frames := 4, cells := 0, slots := 0, locals := 94 } ([.ref (zad g 7), .int a1] : List Value) S S' := by
  have hY := zOkX hO
  refine Met.ofW (cc := cX2_makeFunction) (maxL := 5) (ret := none) (by decide) rfl ?_
  intro p e s m args below meth c s₁ B hml hv
  obtain ⟨rfl, hP⟩ := hv
  have hx := B.exec
  have hb := B.bytes
  have hr := B.returns
  have hts := atoms_spec (ws := vX2_makeFunction) B.pre
  have hT : ∀ w ∈ zTB, w.before ([.ref (zad g 7), .int a1] : List Value).toArray s = true := fun w h => hts w (List.mem_cons_of_mem _ h)
  have hown : s.vm.findClass RX2 = some m.cls := findClass_of_methodNamed B.named
  have hlocks := B.notSynchronized
  have P0 := hP.2
  have Z : zZ (zYX g) S s s.heap [] := ⟨hP.1, va_S.rf⟩
  have hf : ∀ w ∈ u_ws RX2 TX2 11, w.before ([.ref (zad g 7), .int a1] : List Value).toArray s = true := fun w hw => hT w (mU_X2 w hw)
  have L34 := hT _ mF_X2_34
  have L42 := hT _ mF_X2_42
  have L51 := hT _ mF_X2_51
  have L38 := hT _ mF_X2_38
  have L9 := hT _ mF_X2_9
  have L15 := hT _ mF_X2_15
  have B11 : ∀ (n : Nat) (x1 : Int32) (x2 : Int32) (x3 : Int32) (S : zSt), fX2_makeFunction_11L n (x1, x2, x3, S) = some (r, S') → ∀ (H : Heap) (locs : List Loc), zZ (zYX g) S s H locs → ∀ ls : Array Slot, lv_has ls 5 [(0, .ref (zad g 7)), (1, .int x1), (2, .int x2), (3, .int x3)] → W p l e (headSpec vX2_makeFunction { frames := 4, cells := 0, slots := 0, locals := 94 }).room s m ([.ref (zad g 7), .int a1] : List Value).toArray below meth c H locs 0 0 (MQ below (zQv (zYX g) S') ([.ref (zad g 7), .int a1] : List Value).toArray s 0 0 (zYX g).2.2.1) (F0 m 11 ls []) := by
    intro n
    induction n with
    | zero => intro x1 x2 x3 S h; exact absurd h (fun h => nomatch h)
    | succ n K11 =>
      intro x1 x2 x3 S h H locs Z ls hl
      have h : fX2_makeFunction_11 (fX2_makeFunction_11L n) x1 x2 x3 S = some (r, S') := h
      unfold fX2_makeFunction_11 at h
      refine lv_iload_n hx hb dX2_makeFunction_11 rfl (lv_at hl 3 rfl) ?_
      refine lv_iload_n hx hb dX2_makeFunction_12 rfl (lv_at hl 2 rfl) ?_
      refine lv_icmp_gt (tgt := 37) hx hb dX2_makeFunction_13 (by decide) (fun q => ?_) (fun q => ?_)
      · have h := zi_t q h
        refine lv_aload_n hx hb dX2_makeFunction_37 rfl (lv_at hl 0 rfl) ?_
        refine zgX2_2 hx hb hf hown P0 Z L42 dX2_makeFunction_38 ?_
        refine lv_iload_n hx hb dX2_makeFunction_41 rfl (lv_at hl 2 rfl) ?_
        obtain ⟨r3, S4, ec, h⟩ := zbd_s h
        refine zc_Vi hY P0 ⟨hx, hb, hml, hown, hT⟩ (As := [.int x2]) (rest := []) (kX6_fromTop l hO x2 S r3 S4 ec) (cwV 1 hT (zgV mL_X2_84 mI_X6_fromTop mS_X6_fromTop mN_X6 mC_X6_fromTop) rfl rfl rfl hdnX6_fromTop ⟨Nat.le_of_ble_eq_true rfl, Nat.le_of_ble_eq_true rfl⟩) (zrecX_6 P0 Z) Z rfl hl.1 rfl (Nat.le_of_ble_eq_true rfl) dX2_makeFunction_42 (fun H locs Z => ?_)
        refine lv_istore_n (lv' := [(3, .int r3), (0, .ref (zad g 7)), (1, .int x1), (2, .int x2)]) hx hb dX2_makeFunction_45 rfl hl (by decide) rfl (fun ls hl => ?_)
        refine lv_aload_n hx hb dX2_makeFunction_46 rfl (lv_at hl 1 rfl) ?_
        refine zgX2_3 hx hb hf hown P0 Z L51 dX2_makeFunction_47 ?_
        refine lv_iload_n hx hb dX2_makeFunction_50 rfl (lv_at hl 2 rfl) ?_
        obtain ⟨r5, S6, ec, h⟩ := zbd_s h
        refine zc_Vi hY P0 ⟨hx, hb, hml, hown, hT⟩ (As := [.int x1]) (rest := []) (kX3_make l hO x1 S4 r5 S6 ec) (cwV 1 hT (zgV mL_X2_190 mI_X3_make mS_X3_make mN_X3 mC_X3_make) rfl rfl rfl hdnX3_make ⟨Nat.le_of_ble_eq_true rfl, Nat.le_of_ble_eq_true rfl⟩) (zrecX_8 P0 Z) Z rfl hl.1 rfl (Nat.le_of_ble_eq_true rfl) dX2_makeFunction_51 (fun H locs Z => ?_)
        refine lv_istore (lv' := [(4, .int r5), (3, .int r3), (0, .ref (zad g 7)), (1, .int x1), (2, .int x2)]) hx hb dX2_makeFunction_54 hl (by decide) rfl (fun ls hl => ?_)
        refine lv_aload_n hx hb dX2_makeFunction_56 rfl (lv_at hl 2 rfl) ?_
        refine zgX2_1 hx hb hf hown P0 Z L38 dX2_makeFunction_57 ?_
        refine lv_iload_n hx hb dX2_makeFunction_60 rfl (lv_at hl 1 rfl) ?_
        refine lv_bipush (v := (nI 6)) hx hb dX2_makeFunction_61 (by decide) ?_
        refine lv_iload hx hb dX2_makeFunction_63 (lv_at hl 0 rfl) ?_
        refine lv_bipush (v := (-3 : Int32)) hx hb dX2_makeFunction_65 (by decide) ?_
        obtain ⟨r7, S8, ec, h⟩ := zbd_s h
        refine zc_Vv hY P0 ⟨hx, hb, hml, hown, hT⟩ (As := [.int r3, .int (nI 6), .int r5, .int (-3 : Int32)]) (rest := []) (kX0_become l hO r3 (nI 6) r5 (-3 : Int32) S6 r7 S8 ec) (cwV 4 hT (zgV mL_X2_193 mI_X0_become mS_X0_become mN_X0 mC_X0_become) rfl rfl rfl hdnX0_become ⟨Nat.le_of_ble_eq_true rfl, Nat.le_of_ble_eq_true rfl⟩) (zrecX_5 P0 Z) Z rfl hl.1 rfl (Nat.le_of_ble_eq_true rfl) dX2_makeFunction_67 (fun H locs Z => ?_)
        refine lv_aload_n hx hb dX2_makeFunction_70 rfl (lv_at hl 2 rfl) ?_
        refine zgX2_2 hx hb hf hown P0 Z L42 dX2_makeFunction_71 ?_
        refine lv_iload_n hx hb dX2_makeFunction_74 rfl (lv_at hl 4 rfl) ?_
        refine lv_iconst (v := (nI 1)) hx hb dX2_makeFunction_75 (by decide) ?_
        refine lv_iadd hx hb dX2_makeFunction_76 ?_
        obtain ⟨r9, S10, ec, h⟩ := zbd_s h
        refine zc_Vv hY P0 ⟨hx, hb, hml, hown, hT⟩ (As := [.int (x2 + (nI 1))]) (rest := []) (kX6_pop l hO (x2 + (nI 1)) S8 r9 S10 ec) (cwV 1 hT (zgV mL_X2_168 mI_X6_pop mS_X6_pop mN_X6 mC_X6_pop) rfl rfl rfl hdnX6_pop ⟨Nat.le_of_ble_eq_true rfl, Nat.le_of_ble_eq_true rfl⟩) (zrecX_6 P0 Z) Z rfl hl.1 rfl (Nat.le_of_ble_eq_true rfl) dX2_makeFunction_77 (fun H locs Z => ?_)
        refine lv_aload_n hx hb dX2_makeFunction_80 rfl (lv_at hl 2 rfl) ?_
        refine zgX2_2 hx hb hf hown P0 Z L42 dX2_makeFunction_81 ?_
        refine lv_iload hx hb dX2_makeFunction_84 (lv_at hl 0 rfl) ?_
        obtain ⟨r11, S12, ec, h⟩ := zbd_s h
        refine zc_Vv hY P0 ⟨hx, hb, hml, hown, hT⟩ (As := [.int r5]) (rest := []) (kX6_push l hO r5 S10 r11 S12 ec) (cwV 1 hT (zgV mL_X2_171 mI_X6_push mS_X6_push mN_X6 mC_X6_push) rfl rfl rfl hdnX6_push ⟨Nat.le_of_ble_eq_true rfl, Nat.le_of_ble_eq_true rfl⟩) (zrecX_6 P0 Z) Z rfl hl.1 rfl (Nat.le_of_ble_eq_true rfl) dX2_makeFunction_86 (fun H locs Z => ?_)
        refine lv_iload_n hx hb dX2_makeFunction_89 rfl (lv_at hl 3 rfl) ?_
        refine lv_if_lt (tgt := 126) hx hb dX2_makeFunction_90 (by decide) (fun q => ?_) (fun q => ?_)
        · have h := zi_t q h
          exact zr_v hY P0 hx hb hr hlocks h Z dX2_makeFunction_126
        · have h := zi_f q h
          refine lv_iload_n hx hb dX2_makeFunction_93 rfl (lv_at hl 3 rfl) ?_
          refine lv_bipush (v := (nI 20)) hx hb dX2_makeFunction_94 (by decide) ?_
          refine lv_icmp_ge (tgt := 126) hx hb dX2_makeFunction_96 (by decide) (fun q => ?_) (fun q => ?_)
          · have h := zi_t q h
            exact zr_v hY P0 hx hb hr hlocks h Z dX2_makeFunction_126
          · have h := zi_f q h
            refine lv_aload_n hx hb dX2_makeFunction_99 rfl (lv_at hl 2 rfl) ?_
            refine zgX2_4 hx hb hf hown P0 Z L9 dX2_makeFunction_100 ?_
            refine lv_iload_n hx hb dX2_makeFunction_103 rfl (lv_at hl 3 rfl) ?_
            refine lv_dup2_11 hx hb dX2_makeFunction_104 rfl rfl ?_
            obtain ⟨v13, ev, hin, h⟩ := zld_s h
            refine zlX_31 hx hb P0 Z ev hin dX2_makeFunction_105 ?_
            refine lv_iconst (v := (nI 1)) hx hb dX2_makeFunction_106 (by decide) ?_
            refine lv_iadd hx hb dX2_makeFunction_107 ?_
            obtain ⟨hin, h⟩ := zck_s h
            refine zsX_31 hO hx hb P0 Z hin dX2_makeFunction_108 (fun H locs Z => ?_)
            refine lv_aload_n hx hb dX2_makeFunction_109 rfl (lv_at hl 2 rfl) ?_
            refine zgX2_5 hx hb hf hown P0 Z L15 dX2_makeFunction_110 ?_
            refine lv_iload_n hx hb dX2_makeFunction_113 rfl (lv_at hl 3 rfl) ?_
            refine lv_dup2_11 hx hb dX2_makeFunction_114 rfl rfl ?_
            obtain ⟨v14, ev, hin, h⟩ := zld_s h
            refine zlX_32 hx hb P0 Z ev hin dX2_makeFunction_115 ?_
            refine lv_aload_n hx hb dX2_makeFunction_116 rfl (lv_at hl 2 rfl) ?_
            refine zgX2_0 hx hb hf hown P0 Z L34 dX2_makeFunction_117 ?_
            refine lv_iload_n hx hb dX2_makeFunction_120 rfl (lv_at hl 3 rfl) ?_
            obtain ⟨r15, S16, ec, h⟩ := zbd_s h
            refine zc_Vi hY P0 ⟨hx, hb, hml, hown, hT⟩ (As := [.int x1]) (rest := [.int v14, .int x1, .ref (zad g 32)]) (kX4_nodesOf l hO x1 (wA S12 31 (x1.toNatClampNeg) (v13 + (nI 1))) r15 S16 ec) (cwV 1 hT (zgV mL_X2_163 mI_X4_nodesOf mS_X4_nodesOf mN_X4 mC_X4_nodesOf) rfl rfl rfl hdnX4_nodesOf ⟨Nat.le_of_ble_eq_true rfl, Nat.le_of_ble_eq_true rfl⟩) (zrecX_2 P0 Z) Z rfl hl.1 rfl (Nat.le_of_ble_eq_true rfl) dX2_makeFunction_121 (fun H locs Z => ?_)
            refine lv_iadd hx hb dX2_makeFunction_124 ?_
            obtain ⟨hin, h⟩ := zck_s h
            refine zsX_32 hO hx hb P0 Z hin dX2_makeFunction_125 (fun H locs Z => ?_)
            exact zr_v hY P0 hx hb hr hlocks h Z dX2_makeFunction_126
      · have h := zi_f q h
        refine lv_aload_n hx hb dX2_makeFunction_16 rfl (lv_at hl 0 rfl) ?_
        refine zgX2_3 hx hb hf hown P0 Z L51 dX2_makeFunction_17 ?_
        refine lv_iload_n hx hb dX2_makeFunction_20 rfl (lv_at hl 3 rfl) ?_
        refine lv_iconst (v := (nI 1)) hx hb dX2_makeFunction_21 (by decide) ?_
        refine lv_isub hx hb dX2_makeFunction_22 ?_
        refine lv_aload_n hx hb dX2_makeFunction_23 rfl (lv_at hl 0 rfl) ?_
        refine lv_iload_n hx hb dX2_makeFunction_24 rfl (lv_at hl 3 rfl) ?_
        obtain ⟨r17, S18, ec, h⟩ := zbd_s h
        refine zc_Vi hY P0 ⟨hx, hb, hml, hown, hT⟩ (As := [.int x3]) (rest := [.int (x3 - (nI 1)), .ref (zad g 8)]) (kX2_secondBelow l hO x3 S r17 S18 ec) (cwV 1 hT (zgV mL_X2_128 mI_X2_secondBelow mS_X2_secondBelow mN_X2 mC_X2_secondBelow) rfl rfl rfl hdnX2_secondBelow ⟨Nat.le_of_ble_eq_true rfl, Nat.le_of_ble_eq_true rfl⟩) (zrecX_7 P0 Z) Z rfl hl.1 rfl (Nat.le_of_ble_eq_true rfl) dX2_makeFunction_25 (fun H locs Z => ?_)
        obtain ⟨r19, S20, ec, h⟩ := zbd_s h
        refine zc_Vv hY P0 ⟨hx, hb, hml, hown, hT⟩ (As := [.int (x3 - (nI 1)), .int r17]) (rest := []) (kX3_give l hO (x3 - (nI 1)) r17 S18 r19 S20 ec) (cwV 2 hT (zgV mL_X2_187 mI_X3_give mS_X3_give mN_X3 mC_X3_give) rfl rfl rfl hdnX3_give ⟨Nat.le_of_ble_eq_true rfl, Nat.le_of_ble_eq_true rfl⟩) (zrecX_8 P0 Z) Z rfl hl.1 rfl (Nat.le_of_ble_eq_true rfl) dX2_makeFunction_28 (fun H locs Z => ?_)
        refine lv_iinc (v := (x3 + (nI 1))) (lv' := [(3, .int (x3 + (nI 1))), (0, .ref (zad g 7)), (1, .int x1), (2, .int x2)]) hx hb dX2_makeFunction_31 hl (k := 3) rfl rfl (by decide) rfl (fun ls hl => ?_)
        refine lv_goto (tgt := 11) hx hb dX2_makeFunction_34 (by decide) ?_
        exact K11 x1 x2 (x3 + (nI 1)) S20 h _ _ Z ls (lv_sub hl [1, 2, 3, 0] rfl)
  have hl := lv_entry ([.ref (zad g 7), .int a1] : List Value) (n := 5) (Nat.le_of_ble_eq_true rfl)
  rw [lg_entry_eq]
  generalize (lg_sl ([.ref (zad g 7), .int a1] : List Value) ++ List.replicate (5 - (lg_sl ([.ref (zad g 7), .int a1] : List Value)).length) Slot.unset).toArray = ls at hl ⊢
  have hl : lv_has ls 5 [(0, .ref (zad g 7)), (1, .int a1)] := hl
  unfold fX2_makeFunction at h
  refine lv_aload_n hx hb dX2_makeFunction_0 rfl (lv_at hl 0 rfl) ?_
  refine zgX2_0 hx hb hf hown P0 Z L34 dX2_makeFunction_1 ?_
  refine lv_iload_n hx hb dX2_makeFunction_4 rfl (lv_at hl 1 rfl) ?_
  obtain ⟨r1, S2, ec, h⟩ := zbd_s h
  refine zc_Vi hY P0 ⟨hx, hb, hml, hown, hT⟩ (As := [.int a1]) (rest := []) (kX4_parametersOf l hO a1 S r1 S2 ec) (cwV 1 hT (zgV mL_X2_107 mI_X4_parametersOf mS_X4_parametersOf mN_X4 mC_X4_parametersOf) rfl rfl rfl hdnX4_parametersOf ⟨Nat.le_of_ble_eq_true rfl, Nat.le_of_ble_eq_true rfl⟩) (zrecX_2 P0 Z) Z rfl hl.1 rfl (Nat.le_of_ble_eq_true rfl) dX2_makeFunction_5 (fun H locs Z => ?_)
  refine lv_istore_n (lv' := [(2, .int r1), (0, .ref (zad g 7)), (1, .int a1)]) hx hb dX2_makeFunction_8 rfl hl (by decide) rfl (fun ls hl => ?_)
  refine lv_iconst (v := (nI 1)) hx hb dX2_makeFunction_9 (by decide) ?_
  refine lv_istore_n (lv' := [(3, .int (nI 1)), (2, .int r1), (0, .ref (zad g 7)), (1, .int a1)]) hx hb dX2_makeFunction_10 rfl hl (by decide) rfl (fun ls hl => ?_)
  exact B11 zFU a1 r1 (nI 1) S2 h _ _ Z ls (lv_sub hl [2, 3, 1, 0] rfl)

set_option maxHeartbeats 4000000 in
set_option maxRecDepth 100000 in
theorem kX2_calculate {g : zG} (l : Launch) (hO : zinjX g) (a0 : Int32) (a1 : Int32) (a2 : Int32) (S : zSt) (r : Int32) (S' : zSt) (h : fX2_calculate a0 a1 a2 S = some (r, S')) : zMi (zYX g) l yX2_calculate vX2_calculate { frames := 0, cells := 0, slots := 0, locals := 0 } ([.int a0, .int a1, .int a2] : List Value) S r S' := by
  have hY := zOkX hO
  refine Met.ofW (cc := cX2_calculate) (maxL := 3) (ret := (some .int)) (by decide) rfl ?_
  intro p e s m args below meth c s₁ B hml hv
  obtain ⟨rfl, hP⟩ := hv
  have hx := B.exec
  have hb := B.bytes
  have hr := B.returns
  have hts := atoms_spec (ws := vX2_calculate) B.pre
  have hT : ∀ w ∈ zTB, w.before ([.int a0, .int a1, .int a2] : List Value).toArray s = true := fun w h => hts w (List.mem_cons_of_mem _ h)
  have hown : s.vm.findClass RX2 = some m.cls := findClass_of_methodNamed B.named
  have hlocks := B.notSynchronized
  have P0 := hP.2
  have Z : zZ (zYX g) S s s.heap [] := ⟨hP.1, va_S.rf⟩
  have hl := lv_entry ([.int a0, .int a1, .int a2] : List Value) (n := 3) (Nat.le_of_ble_eq_true rfl)
  rw [lg_entry_eq]
  generalize (lg_sl ([.int a0, .int a1, .int a2] : List Value) ++ List.replicate (3 - (lg_sl ([.int a0, .int a1, .int a2] : List Value)).length) Slot.unset).toArray = ls at hl ⊢
  have hl : lv_has ls 3 [(0, .int a0), (1, .int a1), (2, .int a2)] := hl
  unfold fX2_calculate at h
  refine lv_iload_n hx hb dX2_calculate_0 rfl (lv_at hl 0 rfl) ?_
  by_cases q0 : a0 = (nI 0)
  · have h := zi_t q0 h
    refine ztbl (off := 39) (tgt := 40) hx hb q0 dX2_calculate_1 (by decide) (by decide) (by decide) (by decide) ?_
    refine lv_iload_n hx hb dX2_calculate_40 rfl (lv_at hl 1 rfl) ?_
    refine lv_iload_n hx hb dX2_calculate_41 rfl (lv_at hl 2 rfl) ?_
    refine lv_iadd hx hb dX2_calculate_42 ?_
    exact zr_i hY P0 hx hb hr hlocks h Z dX2_calculate_43
  have h := zi_f q0 h
  by_cases q1 : a0 = (nI 1)
  · have h := zi_t q1 h
    refine ztbl (off := 43) (tgt := 44) hx hb q1 dX2_calculate_1 (by decide) (by decide) (by decide) (by decide) ?_
    refine lv_iload_n hx hb dX2_calculate_44 rfl (lv_at hl 1 rfl) ?_
    refine lv_iload_n hx hb dX2_calculate_45 rfl (lv_at hl 2 rfl) ?_
    refine lv_isub hx hb dX2_calculate_46 ?_
    exact zr_i hY P0 hx hb hr hlocks h Z dX2_calculate_47
  have h := zi_f q1 h
  by_cases q2 : a0 = (nI 2)
  · have h := zi_t q2 h
    refine ztbl (off := 47) (tgt := 48) hx hb q2 dX2_calculate_1 (by decide) (by decide) (by decide) (by decide) ?_
    refine lv_iload_n hx hb dX2_calculate_48 rfl (lv_at hl 1 rfl) ?_
    refine lv_iload_n hx hb dX2_calculate_49 rfl (lv_at hl 2 rfl) ?_
    refine lv_imul hx hb dX2_calculate_50 ?_
    exact zr_i hY P0 hx hb hr hlocks h Z dX2_calculate_51
  have h := zi_f q2 h
  by_cases q3 : a0 = (nI 3)
  · have h := zi_t q3 h
    refine ztbl (off := 51) (tgt := 52) hx hb q3 dX2_calculate_1 (by decide) (by decide) (by decide) (by decide) ?_
    refine lv_iload_n hx hb dX2_calculate_52 rfl (lv_at hl 2 rfl) ?_
    refine lv_if_ne (tgt := 60) hx hb dX2_calculate_53 (by decide) (fun q => ?_) (fun q => ?_)
    · have h := zi_f q h
      refine lv_iload_n hx hb dX2_calculate_60 rfl (lv_at hl 1 rfl) ?_
      refine lv_iload_n hx hb dX2_calculate_61 rfl (lv_at hl 2 rfl) ?_
      obtain ⟨hn, h⟩ := zdv_s h
      refine lv_idiv hx hb dX2_calculate_62 hn ?_
      exact zr_i hY P0 hx hb hr hlocks h Z dX2_calculate_63
    · have h := zi_t q h
      refine lv_iconst (v := (nI 0)) hx hb dX2_calculate_56 (by decide) ?_
      refine lv_goto (tgt := 63) hx hb dX2_calculate_57 (by decide) ?_
      exact zr_i hY P0 hx hb hr hlocks h Z dX2_calculate_63
  have h := zi_f q3 h
  by_cases q4 : a0 = (nI 4)
  · have h := zi_t q4 h
    refine ztbl (off := 63) (tgt := 64) hx hb q4 dX2_calculate_1 (by decide) (by decide) (by decide) (by decide) ?_
    refine lv_iload_n hx hb dX2_calculate_64 rfl (lv_at hl 1 rfl) ?_
    refine lv_iload_n hx hb dX2_calculate_65 rfl (lv_at hl 2 rfl) ?_
    refine lv_icmp_ge (tgt := 73) hx hb dX2_calculate_66 (by decide) (fun q => ?_) (fun q => ?_)
    · have h := zi_t q h
      refine lv_iconst (v := (nI 0)) hx hb dX2_calculate_73 (by decide) ?_
      exact zr_i hY P0 hx hb hr hlocks h Z dX2_calculate_74
    · have h := zi_f q h
      refine lv_iconst (v := (nI 1)) hx hb dX2_calculate_69 (by decide) ?_
      refine lv_goto (tgt := 74) hx hb dX2_calculate_70 (by decide) ?_
      exact zr_i hY P0 hx hb hr hlocks h Z dX2_calculate_74
  have h := zi_f q4 h
  by_cases q5 : a0 = (nI 5)
  · have h := zi_t q5 h
    refine ztbl (off := 74) (tgt := 75) hx hb q5 dX2_calculate_1 (by decide) (by decide) (by decide) (by decide) ?_
    refine lv_iload_n hx hb dX2_calculate_75 rfl (lv_at hl 1 rfl) ?_
    refine lv_iload_n hx hb dX2_calculate_76 rfl (lv_at hl 2 rfl) ?_
    refine lv_icmp_ne (tgt := 84) hx hb dX2_calculate_77 (by decide) (fun q => ?_) (fun q => ?_)
    · have h := zi_f q h
      refine lv_iconst (v := (nI 0)) hx hb dX2_calculate_84 (by decide) ?_
      exact zr_i hY P0 hx hb hr hlocks h Z dX2_calculate_85
    · have h := zi_t q h
      refine lv_iconst (v := (nI 1)) hx hb dX2_calculate_80 (by decide) ?_
      refine lv_goto (tgt := 85) hx hb dX2_calculate_81 (by decide) ?_
      exact zr_i hY P0 hx hb hr hlocks h Z dX2_calculate_85
  have h := zi_f q5 h
  have u0 : ¬ a0.toInt = 0 := lv_neT q0 (by decide)
  have u1 : ¬ a0.toInt = 1 := lv_neT q1 (by decide)
  have u2 : ¬ a0.toInt = 2 := lv_neT q2 (by decide)
  have u3 : ¬ a0.toInt = 3 := lv_neT q3 (by decide)
  have u4 : ¬ a0.toInt = 4 := lv_neT q4 (by decide)
  have u5 : ¬ a0.toInt = 5 := lv_neT q5 (by decide)
  refine lv_tableOut (tgt := 86) hx hb dX2_calculate_1 (by omega) (by decide) ?_
  refine lv_iconst (v := (nI 0)) hx hb dX2_calculate_86 (by decide) ?_
  exact zr_i hY P0 hx hb hr hlocks h Z dX2_calculate_87

set_option maxHeartbeats 4000000 in
set_option maxRecDepth 100000 in
theorem kX2_workOut {g : zG} (l : Launch) (hO : zinjX g) (a1 : Int32) (a2 : Int32) (S : zSt) (r : Unit) (S' : zSt) (h : fX2_workOut a1 a2 S = some (r, S')) : zMv (zYX g) l yX2_workOut vX2_workOut { frames := 4, cells := 0, slots := 0, locals := 83 } ([.ref (zad g 7), .int a1, .int a2] : List Value) S S' := by
  have hY := zOkX hO
  refine Met.ofW (cc := cX2_workOut) (maxL := 4) (ret := none) (by decide) rfl ?_
  intro p e s m args below meth c s₁ B hml hv
  obtain ⟨rfl, hP⟩ := hv
  have hx := B.exec
  have hb := B.bytes
  have hr := B.returns
  have hts := atoms_spec (ws := vX2_workOut) B.pre
  have hT : ∀ w ∈ zTB, w.before ([.ref (zad g 7), .int a1, .int a2] : List Value).toArray s = true := fun w h => hts w (List.mem_cons_of_mem _ h)
  have hown : s.vm.findClass RX2 = some m.cls := findClass_of_methodNamed B.named
  have hlocks := B.notSynchronized
  have P0 := hP.2
  have Z : zZ (zYX g) S s s.heap [] := ⟨hP.1, va_S.rf⟩
  have hf : ∀ w ∈ u_ws RX2 TX2 11, w.before ([.ref (zad g 7), .int a1, .int a2] : List Value).toArray s = true := fun w hw => hT w (mU_X2 w hw)
  have L38 := hT _ mF_X2_38
  have L28 := hT _ mF_X2_28
  have L31 := hT _ mF_X2_31
  have L42 := hT _ mF_X2_42
  have B225 : ∀ (x1 : Int32) (x2 : Int32) (S : zSt), fX2_workOut_225 x1 x2 S = some (r, S') → ∀ (H : Heap) (locs : List Loc), zZ (zYX g) S s H locs → ∀ ls : Array Slot, lv_has ls 4 [(0, .ref (zad g 7)), (1, .int x1), (2, .int x2)] → W p l e (headSpec vX2_workOut { frames := 4, cells := 0, slots := 0, locals := 83 }).room s m ([.ref (zad g 7), .int a1, .int a2] : List Value).toArray below meth c H locs 0 0 (MQ below (zQv (zYX g) S') ([.ref (zad g 7), .int a1, .int a2] : List Value).toArray s 0 0 (zYX g).2.2.1) (F0 m 225 ls []) := by
    intro x1 x2 S h H locs Z ls hl
    unfold fX2_workOut_225 at h
    refine lv_aload_n hx hb dX2_workOut_225 rfl (lv_at hl 0 rfl) ?_
    refine zgX2_2 hx hb hf hown P0 Z L42 dX2_workOut_226 ?_
    refine lv_iload_n hx hb dX2_workOut_229 rfl (lv_at hl 1 rfl) ?_
    obtain ⟨r35, S36, ec, h⟩ := zbd_s h
    refine zc_Si hY P0 ⟨hx, hb, hml, hown, hT⟩ (As := [.int x1]) (rest := [.ref (zad g 6)]) (kX2_needsOf l hO x1 S r35 S36 ec) (va_cwS 1 hT (zgS mL_X2_113 mT_X2_needsOf mN_X2 mC_X2_needsOf) rfl rfl rfl hdnX2_needsOf ⟨Nat.le_of_ble_eq_true rfl, Nat.le_of_ble_eq_true rfl⟩) Z rfl hl.1 rfl (Nat.le_of_ble_eq_true rfl) dX2_workOut_230 (fun H locs Z => ?_)
    refine lv_iconst (v := (nI 1)) hx hb dX2_workOut_233 (by decide) ?_
    refine lv_iadd hx hb dX2_workOut_234 ?_
    obtain ⟨r37, S38, ec, h⟩ := zbd_s h
    refine zc_Vv hY P0 ⟨hx, hb, hml, hown, hT⟩ (As := [.int (r35 + (nI 1))]) (rest := []) (kX6_pop l hO (r35 + (nI 1)) S36 r37 S38 ec) (cwV 1 hT (zgV mL_X2_168 mI_X6_pop mS_X6_pop mN_X6 mC_X6_pop) rfl rfl rfl hdnX6_pop ⟨Nat.le_of_ble_eq_true rfl, Nat.le_of_ble_eq_true rfl⟩) (zrecX_6 P0 Z) Z rfl hl.1 rfl (Nat.le_of_ble_eq_true rfl) dX2_workOut_235 (fun H locs Z => ?_)
    refine lv_aload_n hx hb dX2_workOut_238 rfl (lv_at hl 0 rfl) ?_
    refine zgX2_2 hx hb hf hown P0 Z L42 dX2_workOut_239 ?_
    refine lv_iload_n hx hb dX2_workOut_242 rfl (lv_at hl 2 rfl) ?_
    obtain ⟨r39, S40, ec, h⟩ := zbd_s h
    refine zc_Vv hY P0 ⟨hx, hb, hml, hown, hT⟩ (As := [.int x2]) (rest := []) (kX6_push l hO x2 S38 r39 S40 ec) (cwV 1 hT (zgV mL_X2_171 mI_X6_push mS_X6_push mN_X6 mC_X6_push) rfl rfl rfl hdnX6_push ⟨Nat.le_of_ble_eq_true rfl, Nat.le_of_ble_eq_true rfl⟩) (zrecX_6 P0 Z) Z rfl hl.1 rfl (Nat.le_of_ble_eq_true rfl) dX2_workOut_243 (fun H locs Z => ?_)
    exact zr_v hY P0 hx hb hr hlocks h Z dX2_workOut_246
  have B73 : ∀ (x1 : Int32) (x2 : Int32) (y0 : Int32) (y2 : Int32) (y3 : Int32) (S : zSt), fX2_workOut_73 x1 x2 y0 y2 y3 S = some (r, S') → ∀ (H : Heap) (locs : List Loc), zZ (zYX g) S s H locs → ∀ ls : Array Slot, lv_has ls 4 [(0, .ref (zad g 7)), (1, .int x1), (2, .int x2)] → W p l e (headSpec vX2_workOut { frames := 4, cells := 0, slots := 0, locals := 83 }).room s m ([.ref (zad g 7), .int a1, .int a2] : List Value).toArray below meth c H locs 0 0 (MQ below (zQv (zYX g) S') ([.ref (zad g 7), .int a1, .int a2] : List Value).toArray s 0 0 (zYX g).2.2.1) (F0 m 73 ls [.int y0, .ref (zad g 7), .int y2, .int y3, .ref (zad g 5)]) := by
    intro x1 x2 y0 y2 y3 S h H locs Z ls hl
    unfold fX2_workOut_73 at h
    obtain ⟨r41, S42, ec, h⟩ := zbd_s h
    refine zc_Vi hY P0 ⟨hx, hb, hml, hown, hT⟩ (As := [.int y0]) (rest := [.int y2, .int y3, .ref (zad g 5)]) (kX2_secondBelow l hO y0 S r41 S42 ec) (cwV 1 hT (zgV mL_X2_128 mI_X2_secondBelow mS_X2_secondBelow mN_X2 mC_X2_secondBelow) rfl rfl rfl hdnX2_secondBelow ⟨Nat.le_of_ble_eq_true rfl, Nat.le_of_ble_eq_true rfl⟩) (zrecX_7 P0 Z) Z rfl hl.1 rfl (Nat.le_of_ble_eq_true rfl) dX2_workOut_73 (fun H locs Z => ?_)
    refine lv_bipush (v := (-3 : Int32)) hx hb dX2_workOut_76 (by decide) ?_
    obtain ⟨r43, S44, ec, h⟩ := zbd_s h
    refine zc_Vv hY P0 ⟨hx, hb, hml, hown, hT⟩ (As := [.int y3, .int y2, .int r41, .int (-3 : Int32)]) (rest := []) (kX0_become l hO y3 y2 r41 (-3 : Int32) S42 r43 S44 ec) (cwV 4 hT (zgV mL_X2_193 mI_X0_become mS_X0_become mN_X0 mC_X0_become) rfl rfl rfl hdnX0_become ⟨Nat.le_of_ble_eq_true rfl, Nat.le_of_ble_eq_true rfl⟩) (zrecX_5 P0 Z) Z rfl hl.1 rfl (Nat.le_of_ble_eq_true rfl) dX2_workOut_78 (fun H locs Z => ?_)
    refine lv_goto (tgt := 225) hx hb dX2_workOut_81 (by decide) ?_
    exact B225 x1 x2 S44 h _ _ Z ls (lv_sub hl [0, 1, 2] rfl)
  have B190 : ∀ (x1 : Int32) (x2 : Int32) (y0 : Int32) (y1 : Int32) (y2 : Int32) (S : zSt), fX2_workOut_190 x1 x2 y0 y1 y2 S = some (r, S') → ∀ (H : Heap) (locs : List Loc), zZ (zYX g) S s H locs → ∀ ls : Array Slot, lv_has ls 4 [(0, .ref (zad g 7)), (1, .int x1), (2, .int x2)] → W p l e (headSpec vX2_workOut { frames := 4, cells := 0, slots := 0, locals := 83 }).room s m ([.ref (zad g 7), .int a1, .int a2] : List Value).toArray below meth c H locs 0 0 (MQ below (zQv (zYX g) S') ([.ref (zad g 7), .int a1, .int a2] : List Value).toArray s 0 0 (zYX g).2.2.1) (F0 m 190 ls [.int y0, .int y1, .int y2, .ref (zad g 5)]) := by
    intro x1 x2 y0 y1 y2 S h H locs Z ls hl
    unfold fX2_workOut_190 at h
    refine lv_bipush (v := (-3 : Int32)) hx hb dX2_workOut_190 (by decide) ?_
    obtain ⟨r33, S34, ec, h⟩ := zbd_s h
    refine zc_Vv hY P0 ⟨hx, hb, hml, hown, hT⟩ (As := [.int y2, .int y1, .int y0, .int (-3 : Int32)]) (rest := []) (kX0_become l hO y2 y1 y0 (-3 : Int32) S r33 S34 ec) (cwV 4 hT (zgV mL_X2_193 mI_X0_become mS_X0_become mN_X0 mC_X0_become) rfl rfl rfl hdnX0_become ⟨Nat.le_of_ble_eq_true rfl, Nat.le_of_ble_eq_true rfl⟩) (zrecX_5 P0 Z) Z rfl hl.1 rfl (Nat.le_of_ble_eq_true rfl) dX2_workOut_192 (fun H locs Z => ?_)
    refine lv_goto (tgt := 225) hx hb dX2_workOut_195 (by decide) ?_
    exact B225 x1 x2 S34 h _ _ Z ls (lv_sub hl [0, 1, 2] rfl)
  have hl := lv_entry ([.ref (zad g 7), .int a1, .int a2] : List Value) (n := 4) (Nat.le_of_ble_eq_true rfl)
  rw [lg_entry_eq]
  generalize (lg_sl ([.ref (zad g 7), .int a1, .int a2] : List Value) ++ List.replicate (4 - (lg_sl ([.ref (zad g 7), .int a1, .int a2] : List Value)).length) Slot.unset).toArray = ls at hl ⊢
  have hl : lv_has ls 4 [(0, .ref (zad g 7)), (1, .int a1), (2, .int a2)] := hl
  unfold fX2_workOut at h
  refine lv_aload_n hx hb dX2_workOut_0 rfl (lv_at hl 0 rfl) ?_
  refine zgX2_1 hx hb hf hown P0 Z L38 dX2_workOut_1 ?_
  refine lv_aload_n hx hb dX2_workOut_4 rfl (lv_at hl 0 rfl) ?_
  refine zgX2_9 (v := (zI S 24)) hx hb hf hown P0 Z L28 rfl dX2_workOut_5 ?_
  obtain ⟨r1, S2, ec, h⟩ := zbd_s h
  refine zc_Vi hY P0 ⟨hx, hb, hml, hown, hT⟩ (As := [.int (zI S 24)]) (rest := []) (kX0_firstOf l hO (zI S 24) S r1 S2 ec) (cwV 1 hT (zgV mL_X2_91 mI_X0_firstOf mS_X0_firstOf mN_X0 mC_X0_firstOf) rfl rfl rfl hdnX0_firstOf ⟨Nat.le_of_ble_eq_true rfl, Nat.le_of_ble_eq_true rfl⟩) (zrecX_5 P0 Z) Z rfl hl.1 rfl (Nat.le_of_ble_eq_true rfl) dX2_workOut_8 (fun H locs Z => ?_)
  refine lv_istore_n (lv' := [(3, .int r1), (0, .ref (zad g 7)), (1, .int a1), (2, .int a2)]) hx hb dX2_workOut_11 rfl hl (by decide) rfl (fun ls hl => ?_)
  refine lv_iload_n hx hb dX2_workOut_12 rfl (lv_at hl 2 rfl) ?_
  by_cases q6 : a1 = (nI 6)
  · have h := zi_t q6 h
    refine ztbl (off := 43) (tgt := 56) hx hb q6 dX2_workOut_13 (by decide) (by decide) (by decide) (by decide) ?_
    refine lv_aload_n hx hb dX2_workOut_56 rfl (lv_at hl 1 rfl) ?_
    refine zgX2_1 hx hb hf hown P0 Z L38 dX2_workOut_57 ?_
    refine lv_iload_n hx hb dX2_workOut_60 rfl (lv_at hl 3 rfl) ?_
    refine lv_bipush (v := (nI 6)) hx hb dX2_workOut_61 (by decide) ?_
    refine lv_aload_n hx hb dX2_workOut_63 rfl (lv_at hl 1 rfl) ?_
    refine lv_iload_n hx hb dX2_workOut_64 rfl (lv_at hl 0 rfl) ?_
    refine lv_if_eq (tgt := 72) hx hb dX2_workOut_65 (by decide) (fun q => ?_) (fun q => ?_)
    · have h := zi_t q h
      refine lv_iconst (v := (nI 3)) hx hb dX2_workOut_72 (by decide) ?_
      exact B73 a1 a2 (nI 3) (nI 6) a2 S2 h _ _ Z ls (lv_sub hl [1, 2, 3] rfl)
    · have h := zi_f q h
      refine lv_iconst (v := (nI 2)) hx hb dX2_workOut_68 (by decide) ?_
      refine lv_goto (tgt := 73) hx hb dX2_workOut_69 (by decide) ?_
      exact B73 a1 a2 (nI 2) (nI 6) a2 S2 h _ _ Z ls (lv_sub hl [1, 2, 3] rfl)
  have h := zi_f q6 h
  by_cases q7 : a1 = (nI 7)
  · have h := zi_t q7 h
    refine ztbl (off := 71) (tgt := 84) hx hb q7 dX2_workOut_13 (by decide) (by decide) (by decide) (by decide) ?_
    refine lv_aload_n hx hb dX2_workOut_84 rfl (lv_at hl 1 rfl) ?_
    refine zgX2_1 hx hb hf hown P0 Z L38 dX2_workOut_85 ?_
    refine lv_iload_n hx hb dX2_workOut_88 rfl (lv_at hl 3 rfl) ?_
    refine lv_iconst (v := (nI 4)) hx hb dX2_workOut_89 (by decide) ?_
    refine lv_aload_n hx hb dX2_workOut_90 rfl (lv_at hl 1 rfl) ?_
    refine lv_iconst (v := (nI 1)) hx hb dX2_workOut_91 (by decide) ?_
    obtain ⟨r3, S4, ec, h⟩ := zbd_s h
    refine zc_Vi hY P0 ⟨hx, hb, hml, hown, hT⟩ (As := [.int (nI 1)]) (rest := [.int (nI 4), .int a2, .ref (zad g 5)]) (kX2_secondBelow l hO (nI 1) S2 r3 S4 ec) (cwV 1 hT (zgV mL_X2_128 mI_X2_secondBelow mS_X2_secondBelow mN_X2 mC_X2_secondBelow) rfl rfl rfl hdnX2_secondBelow ⟨Nat.le_of_ble_eq_true rfl, Nat.le_of_ble_eq_true rfl⟩) (zrecX_7 P0 Z) Z rfl hl.1 rfl (Nat.le_of_ble_eq_true rfl) dX2_workOut_92 (fun H locs Z => ?_)
    refine lv_aload_n hx hb dX2_workOut_95 rfl (lv_at hl 1 rfl) ?_
    refine lv_iconst (v := (nI 2)) hx hb dX2_workOut_96 (by decide) ?_
    obtain ⟨r5, S6, ec, h⟩ := zbd_s h
    refine zc_Vi hY P0 ⟨hx, hb, hml, hown, hT⟩ (As := [.int (nI 2)]) (rest := [.int r3, .int (nI 4), .int a2, .ref (zad g 5)]) (kX2_secondBelow l hO (nI 2) S4 r5 S6 ec) (cwV 1 hT (zgV mL_X2_128 mI_X2_secondBelow mS_X2_secondBelow mN_X2 mC_X2_secondBelow) rfl rfl rfl hdnX2_secondBelow ⟨Nat.le_of_ble_eq_true rfl, Nat.le_of_ble_eq_true rfl⟩) (zrecX_7 P0 Z) Z rfl hl.1 rfl (Nat.le_of_ble_eq_true rfl) dX2_workOut_97 (fun H locs Z => ?_)
    obtain ⟨r7, S8, ec, h⟩ := zbd_s h
    refine zc_Vv hY P0 ⟨hx, hb, hml, hown, hT⟩ (As := [.int a2, .int (nI 4), .int r3, .int r5]) (rest := []) (kX0_become l hO a2 (nI 4) r3 r5 S6 r7 S8 ec) (cwV 4 hT (zgV mL_X2_193 mI_X0_become mS_X0_become mN_X0 mC_X0_become) rfl rfl rfl hdnX0_become ⟨Nat.le_of_ble_eq_true rfl, Nat.le_of_ble_eq_true rfl⟩) (zrecX_5 P0 Z) Z rfl hl.1 rfl (Nat.le_of_ble_eq_true rfl) dX2_workOut_100 (fun H locs Z => ?_)
    refine lv_goto (tgt := 225) hx hb dX2_workOut_103 (by decide) ?_
    exact B225 a1 a2 S8 h _ _ Z ls (lv_sub hl [1, 2, 3] rfl)
  have h := zi_f q7 h
  by_cases q9 : a1 = (nI 9)
  · have h := zi_t q9 h
    refine ztbl (off := 93) (tgt := 106) hx hb q9 dX2_workOut_13 (by decide) (by decide) (by decide) (by decide) ?_
    refine lv_aload_n hx hb dX2_workOut_106 rfl (lv_at hl 1 rfl) ?_
    refine zgX2_1 hx hb hf hown P0 Z L38 dX2_workOut_107 ?_
    refine lv_iload_n hx hb dX2_workOut_110 rfl (lv_at hl 3 rfl) ?_
    refine lv_bipush (v := (nI 6)) hx hb dX2_workOut_111 (by decide) ?_
    refine lv_iload_n hx hb dX2_workOut_113 rfl (lv_at hl 0 rfl) ?_
    refine lv_bipush (v := (-3 : Int32)) hx hb dX2_workOut_114 (by decide) ?_
    obtain ⟨r15, S16, ec, h⟩ := zbd_s h
    refine zc_Vv hY P0 ⟨hx, hb, hml, hown, hT⟩ (As := [.int a2, .int (nI 6), .int r1, .int (-3 : Int32)]) (rest := []) (kX0_become l hO a2 (nI 6) r1 (-3 : Int32) S2 r15 S16 ec) (cwV 4 hT (zgV mL_X2_193 mI_X0_become mS_X0_become mN_X0 mC_X0_become) rfl rfl rfl hdnX0_become ⟨Nat.le_of_ble_eq_true rfl, Nat.le_of_ble_eq_true rfl⟩) (zrecX_5 P0 Z) Z rfl hl.1 rfl (Nat.le_of_ble_eq_true rfl) dX2_workOut_116 (fun H locs Z => ?_)
    refine lv_goto (tgt := 225) hx hb dX2_workOut_119 (by decide) ?_
    exact B225 a1 a2 S16 h _ _ Z ls (lv_sub hl [1, 2, 3] rfl)
  have h := zi_f q9 h
  by_cases q10 : a1 = (nI 10)
  · have h := zi_t q10 h
    refine ztbl (off := 109) (tgt := 122) hx hb q10 dX2_workOut_13 (by decide) (by decide) (by decide) (by decide) ?_
    refine lv_aload_n hx hb dX2_workOut_122 rfl (lv_at hl 1 rfl) ?_
    refine zgX2_1 hx hb hf hown P0 Z L38 dX2_workOut_123 ?_
    refine lv_iload_n hx hb dX2_workOut_126 rfl (lv_at hl 3 rfl) ?_
    refine lv_bipush (v := (nI 6)) hx hb dX2_workOut_127 (by decide) ?_
    refine lv_aload_n hx hb dX2_workOut_129 rfl (lv_at hl 1 rfl) ?_
    refine zgX2_1 hx hb hf hown P0 Z L38 dX2_workOut_130 ?_
    refine lv_aload_n hx hb dX2_workOut_133 rfl (lv_at hl 1 rfl) ?_
    refine zgX2_9 (v := (zI S2 24)) hx hb hf hown P0 Z L28 rfl dX2_workOut_134 ?_
    obtain ⟨r17, S18, ec, h⟩ := zbd_s h
    refine zc_Vi hY P0 ⟨hx, hb, hml, hown, hT⟩ (As := [.int (zI S2 24)]) (rest := [.int (nI 6), .int a2, .ref (zad g 5)]) (kX0_secondOf l hO (zI S2 24) S2 r17 S18 ec) (cwV 1 hT (zgV mL_X2_150 mI_X0_secondOf mS_X0_secondOf mN_X0 mC_X0_secondOf) rfl rfl rfl hdnX0_secondOf ⟨Nat.le_of_ble_eq_true rfl, Nat.le_of_ble_eq_true rfl⟩) (zrecX_5 P0 Z) Z rfl hl.1 rfl (Nat.le_of_ble_eq_true rfl) dX2_workOut_137 (fun H locs Z => ?_)
    refine lv_bipush (v := (-3 : Int32)) hx hb dX2_workOut_140 (by decide) ?_
    obtain ⟨r19, S20, ec, h⟩ := zbd_s h
    refine zc_Vv hY P0 ⟨hx, hb, hml, hown, hT⟩ (As := [.int a2, .int (nI 6), .int r17, .int (-3 : Int32)]) (rest := []) (kX0_become l hO a2 (nI 6) r17 (-3 : Int32) S18 r19 S20 ec) (cwV 4 hT (zgV mL_X2_193 mI_X0_become mS_X0_become mN_X0 mC_X0_become) rfl rfl rfl hdnX0_become ⟨Nat.le_of_ble_eq_true rfl, Nat.le_of_ble_eq_true rfl⟩) (zrecX_5 P0 Z) Z rfl hl.1 rfl (Nat.le_of_ble_eq_true rfl) dX2_workOut_142 (fun H locs Z => ?_)
    refine lv_goto (tgt := 225) hx hb dX2_workOut_145 (by decide) ?_
    exact B225 a1 a2 S20 h _ _ Z ls (lv_sub hl [1, 2, 3] rfl)
  have h := zi_f q10 h
  by_cases q11 : a1 = (nI 11)
  · have h := zi_t q11 h
    refine ztbl (off := 155) (tgt := 168) hx hb q11 dX2_workOut_13 (by decide) (by decide) (by decide) (by decide) ?_
    refine lv_aload_n hx hb dX2_workOut_168 rfl (lv_at hl 1 rfl) ?_
    refine zgX2_1 hx hb hf hown P0 Z L38 dX2_workOut_169 ?_
    refine lv_iload_n hx hb dX2_workOut_172 rfl (lv_at hl 3 rfl) ?_
    refine lv_iconst (v := (nI 0)) hx hb dX2_workOut_173 (by decide) ?_
    refine lv_aload_n hx hb dX2_workOut_174 rfl (lv_at hl 1 rfl) ?_
    refine lv_aload_n hx hb dX2_workOut_175 rfl (lv_at hl 1 rfl) ?_
    refine zgX2_9 (v := (zI S2 24)) hx hb hf hown P0 Z L28 rfl dX2_workOut_176 ?_
    obtain ⟨r21, S22, ec, h⟩ := zbd_s h
    refine zc_Vi hY P0 ⟨hx, hb, hml, hown, hT⟩ (As := [.int (zI S2 24)]) (rest := [.int (nI 0), .int a2, .ref (zad g 5)]) (kX2_isNil l hO (zI S2 24) S2 r21 S22 ec) (cwV 1 hT (zgV mL_X2_147 mI_X2_isNil mS_X2_isNil mN_X2 mC_X2_isNil) rfl rfl rfl hdnX2_isNil ⟨Nat.le_of_ble_eq_true rfl, Nat.le_of_ble_eq_true rfl⟩) (zrecX_7 P0 Z) Z rfl hl.1 rfl (Nat.le_of_ble_eq_true rfl) dX2_workOut_179 (fun H locs Z => ?_)
    refine lv_if_eq (tgt := 189) hx hb dX2_workOut_182 (by decide) (fun q => ?_) (fun q => ?_)
    · have h := zi_t q h
      refine lv_iconst (v := (nI 0)) hx hb dX2_workOut_189 (by decide) ?_
      exact B190 a1 a2 (nI 0) (nI 0) a2 S22 h _ _ Z ls (lv_sub hl [1, 2, 3] rfl)
    · have h := zi_f q h
      refine lv_iconst (v := (nI 1)) hx hb dX2_workOut_185 (by decide) ?_
      refine lv_goto (tgt := 190) hx hb dX2_workOut_186 (by decide) ?_
      exact B190 a1 a2 (nI 1) (nI 0) a2 S22 h _ _ Z ls (lv_sub hl [1, 2, 3] rfl)
  have h := zi_f q11 h
  by_cases q12 : a1 = (nI 12)
  · have h := zi_t q12 h
    refine ztbl (off := 135) (tgt := 148) hx hb q12 dX2_workOut_13 (by decide) (by decide) (by decide) (by decide) ?_
    refine lv_aload_n hx hb dX2_workOut_148 rfl (lv_at hl 1 rfl) ?_
    refine zgX2_1 hx hb hf hown P0 Z L38 dX2_workOut_149 ?_
    refine lv_iload_n hx hb dX2_workOut_152 rfl (lv_at hl 3 rfl) ?_
    refine lv_bipush (v := (nI 6)) hx hb dX2_workOut_153 (by decide) ?_
    refine lv_aload_n hx hb dX2_workOut_155 rfl (lv_at hl 1 rfl) ?_
    refine lv_iconst (v := (nI 2)) hx hb dX2_workOut_156 (by decide) ?_
    obtain ⟨r23, S24, ec, h⟩ := zbd_s h
    refine zc_Vi hY P0 ⟨hx, hb, hml, hown, hT⟩ (As := [.int (nI 2)]) (rest := [.int (nI 6), .int a2, .ref (zad g 5)]) (kX2_secondBelow l hO (nI 2) S2 r23 S24 ec) (cwV 1 hT (zgV mL_X2_128 mI_X2_secondBelow mS_X2_secondBelow mN_X2 mC_X2_secondBelow) rfl rfl rfl hdnX2_secondBelow ⟨Nat.le_of_ble_eq_true rfl, Nat.le_of_ble_eq_true rfl⟩) (zrecX_7 P0 Z) Z rfl hl.1 rfl (Nat.le_of_ble_eq_true rfl) dX2_workOut_157 (fun H locs Z => ?_)
    refine lv_bipush (v := (-3 : Int32)) hx hb dX2_workOut_160 (by decide) ?_
    obtain ⟨r25, S26, ec, h⟩ := zbd_s h
    refine zc_Vv hY P0 ⟨hx, hb, hml, hown, hT⟩ (As := [.int a2, .int (nI 6), .int r23, .int (-3 : Int32)]) (rest := []) (kX0_become l hO a2 (nI 6) r23 (-3 : Int32) S24 r25 S26 ec) (cwV 4 hT (zgV mL_X2_193 mI_X0_become mS_X0_become mN_X0 mC_X0_become) rfl rfl rfl hdnX0_become ⟨Nat.le_of_ble_eq_true rfl, Nat.le_of_ble_eq_true rfl⟩) (zrecX_5 P0 Z) Z rfl hl.1 rfl (Nat.le_of_ble_eq_true rfl) dX2_workOut_162 (fun H locs Z => ?_)
    refine lv_goto (tgt := 225) hx hb dX2_workOut_165 (by decide) ?_
    exact B225 a1 a2 S26 h _ _ Z ls (lv_sub hl [1, 2, 3] rfl)
  have h := zi_f q12 h
  by_cases q8 : a1 = (nI 8)
  · refine ztbl (off := 185) (tgt := 198) hx hb q8 dX2_workOut_13 (by decide) (by decide) (by decide) (by decide) ?_
    refine lv_aload_n hx hb dX2_workOut_198 rfl (lv_at hl 1 rfl) ?_
    refine zgX2_1 hx hb hf hown P0 Z L38 dX2_workOut_199 ?_
    refine lv_iload_n hx hb dX2_workOut_202 rfl (lv_at hl 3 rfl) ?_
    refine lv_iconst (v := (nI 0)) hx hb dX2_workOut_203 (by decide) ?_
    refine lv_iload_n hx hb dX2_workOut_204 rfl (lv_at hl 2 rfl) ?_
    refine lv_iload_n hx hb dX2_workOut_205 rfl (lv_at hl 0 rfl) ?_
    refine lv_aload_n hx hb dX2_workOut_206 rfl (lv_at hl 1 rfl) ?_
    refine zgX2_1 hx hb hf hown P0 Z L38 dX2_workOut_207 ?_
    refine lv_aload_n hx hb dX2_workOut_210 rfl (lv_at hl 1 rfl) ?_
    refine zgX2_10 (v := (zI S2 25)) hx hb hf hown P0 Z L31 rfl dX2_workOut_211 ?_
    obtain ⟨r9, S10, ec, h⟩ := zbd_s h
    refine zc_Vi hY P0 ⟨hx, hb, hml, hown, hT⟩ (As := [.int (zI S2 25)]) (rest := [.int r1, .int a1, .int (nI 0), .int a2, .ref (zad g 5)]) (kX0_firstOf l hO (zI S2 25) S2 r9 S10 ec) (cwV 1 hT (zgV mL_X2_91 mI_X0_firstOf mS_X0_firstOf mN_X0 mC_X0_firstOf) rfl rfl rfl hdnX0_firstOf ⟨Nat.le_of_ble_eq_true rfl, Nat.le_of_ble_eq_true rfl⟩) (zrecX_5 P0 Z) Z rfl hl.1 rfl (Nat.le_of_ble_eq_true rfl) dX2_workOut_214 (fun H locs Z => ?_)
    obtain ⟨r11, S12, ec, h⟩ := zbd_s h
    refine zc_Si hY P0 ⟨hx, hb, hml, hown, hT⟩ (As := [.int a1, .int r1, .int r9]) (rest := [.int (nI 0), .int a2, .ref (zad g 5)]) (kX2_calculate l hO a1 r1 r9 S10 r11 S12 ec) (va_cwS 3 hT (zgS mL_X2_197 mT_X2_calculate mN_X2 mC_X2_calculate) rfl rfl rfl hdnX2_calculate ⟨Nat.le_of_ble_eq_true rfl, Nat.le_of_ble_eq_true rfl⟩) Z rfl hl.1 rfl (Nat.le_of_ble_eq_true rfl) dX2_workOut_217 (fun H locs Z => ?_)
    refine lv_bipush (v := (-3 : Int32)) hx hb dX2_workOut_220 (by decide) ?_
    obtain ⟨r13, S14, ec, h⟩ := zbd_s h
    refine zc_Vv hY P0 ⟨hx, hb, hml, hown, hT⟩ (As := [.int a2, .int (nI 0), .int r11, .int (-3 : Int32)]) (rest := []) (kX0_become l hO a2 (nI 0) r11 (-3 : Int32) S12 r13 S14 ec) (cwV 4 hT (zgV mL_X2_193 mI_X0_become mS_X0_become mN_X0 mC_X0_become) rfl rfl rfl hdnX0_become ⟨Nat.le_of_ble_eq_true rfl, Nat.le_of_ble_eq_true rfl⟩) (zrecX_5 P0 Z) Z rfl hl.1 rfl (Nat.le_of_ble_eq_true rfl) dX2_workOut_222 (fun H locs Z => ?_)
    exact B225 a1 a2 S14 h _ _ Z ls (lv_sub hl [1, 2, 3] rfl)
  have u6 : ¬ a1.toInt = 6 := lv_neT q6 (by decide)
  have u7 : ¬ a1.toInt = 7 := lv_neT q7 (by decide)
  have u8 : ¬ a1.toInt = 8 := lv_neT q8 (by decide)
  have u9 : ¬ a1.toInt = 9 := lv_neT q9 (by decide)
  have u10 : ¬ a1.toInt = 10 := lv_neT q10 (by decide)
  have u11 : ¬ a1.toInt = 11 := lv_neT q11 (by decide)
  have u12 : ¬ a1.toInt = 12 := lv_neT q12 (by decide)
  refine lv_tableOut (tgt := 198) hx hb dX2_workOut_13 (by omega) (by decide) ?_
  refine lv_aload_n hx hb dX2_workOut_198 rfl (lv_at hl 1 rfl) ?_
  refine zgX2_1 hx hb hf hown P0 Z L38 dX2_workOut_199 ?_
  refine lv_iload_n hx hb dX2_workOut_202 rfl (lv_at hl 3 rfl) ?_
  refine lv_iconst (v := (nI 0)) hx hb dX2_workOut_203 (by decide) ?_
  refine lv_iload_n hx hb dX2_workOut_204 rfl (lv_at hl 2 rfl) ?_
  refine lv_iload_n hx hb dX2_workOut_205 rfl (lv_at hl 0 rfl) ?_
  refine lv_aload_n hx hb dX2_workOut_206 rfl (lv_at hl 1 rfl) ?_
  refine zgX2_1 hx hb hf hown P0 Z L38 dX2_workOut_207 ?_
  refine lv_aload_n hx hb dX2_workOut_210 rfl (lv_at hl 1 rfl) ?_
  refine zgX2_10 (v := (zI S2 25)) hx hb hf hown P0 Z L31 rfl dX2_workOut_211 ?_
  obtain ⟨r27, S28, ec, h⟩ := zbd_s h
  refine zc_Vi hY P0 ⟨hx, hb, hml, hown, hT⟩ (As := [.int (zI S2 25)]) (rest := [.int r1, .int a1, .int (nI 0), .int a2, .ref (zad g 5)]) (kX0_firstOf l hO (zI S2 25) S2 r27 S28 ec) (cwV 1 hT (zgV mL_X2_91 mI_X0_firstOf mS_X0_firstOf mN_X0 mC_X0_firstOf) rfl rfl rfl hdnX0_firstOf ⟨Nat.le_of_ble_eq_true rfl, Nat.le_of_ble_eq_true rfl⟩) (zrecX_5 P0 Z) Z rfl hl.1 rfl (Nat.le_of_ble_eq_true rfl) dX2_workOut_214 (fun H locs Z => ?_)
  obtain ⟨r29, S30, ec, h⟩ := zbd_s h
  refine zc_Si hY P0 ⟨hx, hb, hml, hown, hT⟩ (As := [.int a1, .int r1, .int r27]) (rest := [.int (nI 0), .int a2, .ref (zad g 5)]) (kX2_calculate l hO a1 r1 r27 S28 r29 S30 ec) (va_cwS 3 hT (zgS mL_X2_197 mT_X2_calculate mN_X2 mC_X2_calculate) rfl rfl rfl hdnX2_calculate ⟨Nat.le_of_ble_eq_true rfl, Nat.le_of_ble_eq_true rfl⟩) Z rfl hl.1 rfl (Nat.le_of_ble_eq_true rfl) dX2_workOut_217 (fun H locs Z => ?_)
  refine lv_bipush (v := (-3 : Int32)) hx hb dX2_workOut_220 (by decide) ?_
  obtain ⟨r31, S32, ec, h⟩ := zbd_s h
  refine zc_Vv hY P0 ⟨hx, hb, hml, hown, hT⟩ (As := [.int a2, .int (nI 0), .int r29, .int (-3 : Int32)]) (rest := []) (kX0_become l hO a2 (nI 0) r29 (-3 : Int32) S30 r31 S32 ec) (cwV 4 hT (zgV mL_X2_193 mI_X0_become mS_X0_become mN_X0 mC_X0_become) rfl rfl rfl hdnX0_become ⟨Nat.le_of_ble_eq_true rfl, Nat.le_of_ble_eq_true rfl⟩) (zrecX_5 P0 Z) Z rfl hl.1 rfl (Nat.le_of_ble_eq_true rfl) dX2_workOut_222 (fun H locs Z => ?_)
  exact B225 a1 a2 S32 h _ _ Z ls (lv_sub hl [1, 2, 3] rfl)

set_option maxHeartbeats 4000000 in
set_option maxRecDepth 100000 in
theorem kX6_putOnDump {g : zG} (l : Launch) (hO : zinjX g) (a1 : Int32) (S : zSt) (r : Unit) (S' : zSt) (h : fX6_putOnDump a1 S = some (r, S')) : zMv (zYX g) l yX6_putOnDump vX6_putOnDump { frames := 1, cells := 0, slots := 0, locals := 21 } ([.ref (zad g 6), .int a1] : List Value) S S' := by
  have hY := zOkX hO
  refine Met.ofW (cc := cX6_putOnDump) (maxL := 2) (ret := none) (by decide) rfl ?_
  intro p e s m args below meth c s₁ B hml hv
  obtain ⟨rfl, hP⟩ := hv
  have hx := B.exec
  have hb := B.bytes
  have hr := B.returns
  have hts := atoms_spec (ws := vX6_putOnDump) B.pre
  have hT : ∀ w ∈ zTB, w.before ([.ref (zad g 6), .int a1] : List Value).toArray s = true := fun w h => hts w (List.mem_cons_of_mem _ h)
  have hown : s.vm.findClass RX6 = some m.cls := findClass_of_methodNamed B.named
  have hlocks := B.notSynchronized
  have P0 := hP.2
  have Z : zZ (zYX g) S s s.heap [] := ⟨hP.1, va_S.rf⟩
  have hf : ∀ w ∈ u_ws RX6 TX6 4, w.before ([.ref (zad g 6), .int a1] : List Value).toArray s = true := fun w hw => hT w (mU_X6 w hw)
  have L22 := hT _ mF_X6_22
  have L15 := hT _ mF_X6_15
  have L18 := hT _ mF_X6_18
  have hl := lv_entry ([.ref (zad g 6), .int a1] : List Value) (n := 2) (Nat.le_of_ble_eq_true rfl)
  rw [lg_entry_eq]
  generalize (lg_sl ([.ref (zad g 6), .int a1] : List Value) ++ List.replicate (2 - (lg_sl ([.ref (zad g 6), .int a1] : List Value)).length) Slot.unset).toArray = ls at hl ⊢
  have hl : lv_has ls 2 [(0, .ref (zad g 6)), (1, .int a1)] := hl
  unfold fX6_putOnDump at h
  refine lv_aload_n hx hb dX6_putOnDump_0 rfl (lv_at hl 0 rfl) ?_
  obtain ⟨r1, S2, ec, h⟩ := zbd_s h
  refine zc_Vi hY P0 ⟨hx, hb, hml, hown, hT⟩ (As := []) (rest := []) (kX6_hasRoom l hO  S r1 S2 ec) (cwV 0 hT (zgV mL_X6_40 mI_X6_hasRoom mS_X6_hasRoom mN_X6 mC_X6_hasRoom) rfl rfl rfl hdnX6_hasRoom ⟨Nat.le_of_ble_eq_true rfl, Nat.le_of_ble_eq_true rfl⟩) (zrecX_6 P0 Z) Z rfl hl.1 rfl (Nat.le_of_ble_eq_true rfl) dX6_putOnDump_1 (fun H locs Z => ?_)
  refine lv_if_eq (tgt := 52) hx hb dX6_putOnDump_4 (by decide) (fun q => ?_) (fun q => ?_)
  · have h := zi_t q h
    exact zr_v hY P0 hx hb hr hlocks h Z dX6_putOnDump_52
  · have h := zi_f q h
    refine lv_aload_n hx hb dX6_putOnDump_7 rfl (lv_at hl 0 rfl) ?_
    refine zgX6_3 (v := (zI S2 20)) hx hb hf hown P0 Z L22 rfl dX6_putOnDump_8 ?_
    refine lv_if_lt (tgt := 52) hx hb dX6_putOnDump_11 (by decide) (fun q => ?_) (fun q => ?_)
    · have h := zi_t q h
      exact zr_v hY P0 hx hb hr hlocks h Z dX6_putOnDump_52
    · have h := zi_f q h
      refine lv_aload_n hx hb dX6_putOnDump_14 rfl (lv_at hl 0 rfl) ?_
      refine zgX6_3 (v := (zI S2 20)) hx hb hf hown P0 Z L22 rfl dX6_putOnDump_15 ?_
      refine lv_sipush (v := (nI 599)) hx hb dX6_putOnDump_18 (by decide) ?_
      refine lv_icmp_ge (tgt := 52) hx hb dX6_putOnDump_21 (by decide) (fun q => ?_) (fun q => ?_)
      · have h := zi_t q h
        exact zr_v hY P0 hx hb hr hlocks h Z dX6_putOnDump_52
      · have h := zi_f q h
        refine lv_aload_n hx hb dX6_putOnDump_24 rfl (lv_at hl 0 rfl) ?_
        refine lv_dup hx hb dX6_putOnDump_25 rfl ?_
        refine zgX6_3 (v := (zI S2 20)) hx hb hf hown P0 Z L22 rfl dX6_putOnDump_26 ?_
        refine lv_iconst (v := (nI 1)) hx hb dX6_putOnDump_29 (by decide) ?_
        refine lv_iadd hx hb dX6_putOnDump_30 ?_
        refine zpX6_3 hO hx hb hf hown P0 Z L22 dX6_putOnDump_31 (fun H locs Z => ?_)
        refine lv_aload_n hx hb dX6_putOnDump_34 rfl (lv_at hl 0 rfl) ?_
        refine zgX6_1 hx hb hf hown P0 Z L15 dX6_putOnDump_35 ?_
        refine lv_aload_n hx hb dX6_putOnDump_38 rfl (lv_at hl 0 rfl) ?_
        refine zgX6_3 (v := ((zI S2 20) + (nI 1))) hx hb hf hown P0 Z L22 rfl dX6_putOnDump_39 ?_
        refine lv_aload_n hx hb dX6_putOnDump_42 rfl (lv_at hl 0 rfl) ?_
        refine zgX6_2 (v := (zI S2 19)) hx hb hf hown P0 Z L18 rfl dX6_putOnDump_43 ?_
        obtain ⟨hin, h⟩ := zck_s h
        refine zsX_30 hO hx hb P0 Z hin dX6_putOnDump_46 (fun H locs Z => ?_)
        refine lv_aload_n hx hb dX6_putOnDump_47 rfl (lv_at hl 0 rfl) ?_
        refine lv_iload_n hx hb dX6_putOnDump_48 rfl (lv_at hl 1 rfl) ?_
        obtain ⟨r3, S4, ec, h⟩ := zbd_s h
        refine zc_Vv hY P0 ⟨hx, hb, hml, hown, hT⟩ (As := [.int a1]) (rest := []) (kX6_push l hO a1 (wA (wI S2 20 ((zI S2 20) + (nI 1))) 30 (((zI S2 20) + (nI 1)).toNatClampNeg) (zI S2 19)) r3 S4 ec) (cwV 1 hT (zgV mL_X6_25 mI_X6_push mS_X6_push mN_X6 mC_X6_push) rfl rfl rfl hdnX6_push ⟨Nat.le_of_ble_eq_true rfl, Nat.le_of_ble_eq_true rfl⟩) (zrecX_6 P0 Z) Z rfl hl.1 rfl (Nat.le_of_ble_eq_true rfl) dX6_putOnDump_49 (fun H locs Z => ?_)
        exact zr_v hY P0 hx hb hr hlocks h Z dX6_putOnDump_52

set_option maxHeartbeats 4000000 in
set_option maxRecDepth 100000 in
theorem kX6_takeFromDump {g : zG} (l : Launch) (hO : zinjX g) (S : zSt) (r : Unit) (S' : zSt) (h : fX6_takeFromDump S = some (r, S')) : zMv (zYX g) l yX6_takeFromDump vX6_takeFromDump { frames := 1, cells := 0, slots := 0, locals := 21 } ([.ref (zad g 6)] : List Value) S S' := by
  have hY := zOkX hO
  refine Met.ofW (cc := cX6_takeFromDump) (maxL := 1) (ret := none) (by decide) rfl ?_
  intro p e s m args below meth c s₁ B hml hv
  obtain ⟨rfl, hP⟩ := hv
  have hx := B.exec
  have hb := B.bytes
  have hr := B.returns
  have hts := atoms_spec (ws := vX6_takeFromDump) B.pre
  have hT : ∀ w ∈ zTB, w.before ([.ref (zad g 6)] : List Value).toArray s = true := fun w h => hts w (List.mem_cons_of_mem _ h)
  have hown : s.vm.findClass RX6 = some m.cls := findClass_of_methodNamed B.named
  have hlocks := B.notSynchronized
  have P0 := hP.2
  have Z : zZ (zYX g) S s s.heap [] := ⟨hP.1, va_S.rf⟩
  have hf : ∀ w ∈ u_ws RX6 TX6 4, w.before ([.ref (zad g 6)] : List Value).toArray s = true := fun w hw => hT w (mU_X6 w hw)
  have L22 := hT _ mF_X6_22
  have L18 := hT _ mF_X6_18
  have hl := lv_entry ([.ref (zad g 6)] : List Value) (n := 1) (Nat.le_of_ble_eq_true rfl)
  rw [lg_entry_eq]
  generalize (lg_sl ([.ref (zad g 6)] : List Value) ++ List.replicate (1 - (lg_sl ([.ref (zad g 6)] : List Value)).length) Slot.unset).toArray = ls at hl ⊢
  have hl : lv_has ls 1 [(0, .ref (zad g 6))] := hl
  unfold fX6_takeFromDump at h
  refine lv_aload_n hx hb dX6_takeFromDump_0 rfl (lv_at hl 0 rfl) ?_
  refine zgX6_3 (v := (zI S 20)) hx hb hf hown P0 Z L22 rfl dX6_takeFromDump_1 ?_
  refine lv_if_le (tgt := 29) hx hb dX6_takeFromDump_4 (by decide) (fun q => ?_) (fun q => ?_)
  · have h := zi_t q h
    exact zr_v hY P0 hx hb hr hlocks h Z dX6_takeFromDump_29
  · have h := zi_f q h
    refine lv_aload_n hx hb dX6_takeFromDump_7 rfl (lv_at hl 0 rfl) ?_
    refine lv_aload_n hx hb dX6_takeFromDump_8 rfl (lv_at hl 0 rfl) ?_
    refine lv_aload_n hx hb dX6_takeFromDump_9 rfl (lv_at hl 0 rfl) ?_
    refine zgX6_3 (v := (zI S 20)) hx hb hf hown P0 Z L22 rfl dX6_takeFromDump_10 ?_
    obtain ⟨r1, S2, ec, h⟩ := zbd_s h
    refine zc_Vi hY P0 ⟨hx, hb, hml, hown, hT⟩ (As := [.int (zI S 20)]) (rest := [.ref (zad g 6)]) (kX6_beginOf l hO (zI S 20) S r1 S2 ec) (cwV 1 hT (zgV mL_X6_29 mI_X6_beginOf mS_X6_beginOf mN_X6 mC_X6_beginOf) rfl rfl rfl hdnX6_beginOf ⟨Nat.le_of_ble_eq_true rfl, Nat.le_of_ble_eq_true rfl⟩) (zrecX_6 P0 Z) Z rfl hl.1 rfl (Nat.le_of_ble_eq_true rfl) dX6_takeFromDump_13 (fun H locs Z => ?_)
    refine zpX6_2 hO hx hb hf hown P0 Z L18 dX6_takeFromDump_16 (fun H locs Z => ?_)
    refine lv_aload_n hx hb dX6_takeFromDump_19 rfl (lv_at hl 0 rfl) ?_
    refine lv_dup hx hb dX6_takeFromDump_20 rfl ?_
    refine zgX6_3 (v := (zI S2 20)) hx hb hf hown P0 Z L22 rfl dX6_takeFromDump_21 ?_
    refine lv_iconst (v := (nI 1)) hx hb dX6_takeFromDump_24 (by decide) ?_
    refine lv_isub hx hb dX6_takeFromDump_25 ?_
    refine zpX6_3 hO hx hb hf hown P0 Z L22 dX6_takeFromDump_26 (fun H locs Z => ?_)
    exact zr_v hY P0 hx hb hr hlocks h Z dX6_takeFromDump_29

set_option maxHeartbeats 4000000 in
set_option maxRecDepth 100000 in
theorem kX2_perform {g : zG} (l : Launch) (hO : zinjX g) (a1 : Int32) (S : zSt) (r : Unit) (S' : zSt) (h : fX2_perform a1 S = some (r, S')) : zMv (zYX g) l yX2_perform vX2_perform { frames := 5, cells := 0, slots := 0, locals := 118 } ([.ref (zad g 7), .int a1] : List Value) S S' := by
  have hY := zOkX hO
  refine Met.ofW (cc := cX2_perform) (maxL := 4) (ret := none) (by decide) rfl ?_
  intro p e s m args below meth c s₁ B hml hv
  obtain ⟨rfl, hP⟩ := hv
  have hx := B.exec
  have hb := B.bytes
  have hr := B.returns
  have hts := atoms_spec (ws := vX2_perform) B.pre
  have hT : ∀ w ∈ zTB, w.before ([.ref (zad g 7), .int a1] : List Value).toArray s = true := fun w h => hts w (List.mem_cons_of_mem _ h)
  have hown : s.vm.findClass RX2 = some m.cls := findClass_of_methodNamed B.named
  have hlocks := B.notSynchronized
  have P0 := hP.2
  have Z : zZ (zYX g) S s s.heap [] := ⟨hP.1, va_S.rf⟩
  have hf : ∀ w ∈ u_ws RX2 TX2 11, w.before ([.ref (zad g 7), .int a1] : List Value).toArray s = true := fun w hw => hT w (mU_X2 w hw)
  have L42 := hT _ mF_X2_42
  have L38 := hT _ mF_X2_38
  have L25 := hT _ mF_X2_25
  have hl := lv_entry ([.ref (zad g 7), .int a1] : List Value) (n := 4) (Nat.le_of_ble_eq_true rfl)
  rw [lg_entry_eq]
  generalize (lg_sl ([.ref (zad g 7), .int a1] : List Value) ++ List.replicate (4 - (lg_sl ([.ref (zad g 7), .int a1] : List Value)).length) Slot.unset).toArray = ls at hl ⊢
  have hl : lv_has ls 4 [(0, .ref (zad g 7)), (1, .int a1)] := hl
  unfold fX2_perform at h
  refine lv_aload_n hx hb dX2_perform_0 rfl (lv_at hl 0 rfl) ?_
  refine zgX2_2 hx hb hf hown P0 Z L42 dX2_perform_1 ?_
  refine lv_iconst (v := (nI 0)) hx hb dX2_perform_4 (by decide) ?_
  obtain ⟨r1, S2, ec, h⟩ := zbd_s h
  refine zc_Vi hY P0 ⟨hx, hb, hml, hown, hT⟩ (As := [.int (nI 0)]) (rest := []) (kX6_fromTop l hO (nI 0) S r1 S2 ec) (cwV 1 hT (zgV mL_X2_84 mI_X6_fromTop mS_X6_fromTop mN_X6 mC_X6_fromTop) rfl rfl rfl hdnX6_fromTop ⟨Nat.le_of_ble_eq_true rfl, Nat.le_of_ble_eq_true rfl⟩) (zrecX_6 P0 Z) Z rfl hl.1 rfl (Nat.le_of_ble_eq_true rfl) dX2_perform_5 (fun H locs Z => ?_)
  refine lv_istore_n (lv' := [(2, .int r1), (0, .ref (zad g 7)), (1, .int a1)]) hx hb dX2_perform_8 rfl hl (by decide) rfl (fun ls hl => ?_)
  refine lv_aload_n hx hb dX2_perform_9 rfl (lv_at hl 1 rfl) ?_
  refine zgX2_1 hx hb hf hown P0 Z L38 dX2_perform_10 ?_
  refine lv_iload_n hx hb dX2_perform_13 rfl (lv_at hl 0 rfl) ?_
  obtain ⟨r3, S4, ec, h⟩ := zbd_s h
  refine zc_Vi hY P0 ⟨hx, hb, hml, hown, hT⟩ (As := [.int r1]) (rest := []) (kX0_firstOf l hO r1 S2 r3 S4 ec) (cwV 1 hT (zgV mL_X2_91 mI_X0_firstOf mS_X0_firstOf mN_X0 mC_X0_firstOf) rfl rfl rfl hdnX0_firstOf ⟨Nat.le_of_ble_eq_true rfl, Nat.le_of_ble_eq_true rfl⟩) (zrecX_5 P0 Z) Z rfl hl.1 rfl (Nat.le_of_ble_eq_true rfl) dX2_perform_14 (fun H locs Z => ?_)
  refine lv_istore_n (lv' := [(3, .int r3), (2, .int r1), (0, .ref (zad g 7)), (1, .int a1)]) hx hb dX2_perform_17 rfl hl (by decide) rfl (fun ls hl => ?_)
  refine lv_iload_n hx hb dX2_perform_18 rfl (lv_at hl 3 rfl) ?_
  by_cases q0 : a1 = (nI 0)
  · have h := zi_t q0 h
    refine ztbl (off := 33) (tgt := 52) hx hb q0 dX2_perform_19 (by decide) (by decide) (by decide) (by decide) ?_
    refine lv_aload_n hx hb dX2_perform_52 rfl (lv_at hl 2 rfl) ?_
    refine zgX2_2 hx hb hf hown P0 Z L42 dX2_perform_53 ?_
    refine lv_iconst (v := (nI 1)) hx hb dX2_perform_56 (by decide) ?_
    obtain ⟨r5, S6, ec, h⟩ := zbd_s h
    refine zc_Vv hY P0 ⟨hx, hb, hml, hown, hT⟩ (As := [.int (nI 1)]) (rest := []) (kX6_pop l hO (nI 1) S4 r5 S6 ec) (cwV 1 hT (zgV mL_X2_168 mI_X6_pop mS_X6_pop mN_X6 mC_X6_pop) rfl rfl rfl hdnX6_pop ⟨Nat.le_of_ble_eq_true rfl, Nat.le_of_ble_eq_true rfl⟩) (zrecX_6 P0 Z) Z rfl hl.1 rfl (Nat.le_of_ble_eq_true rfl) dX2_perform_57 (fun H locs Z => ?_)
    refine lv_aload_n hx hb dX2_perform_60 rfl (lv_at hl 2 rfl) ?_
    refine zgX2_2 hx hb hf hown P0 Z L42 dX2_perform_61 ?_
    refine lv_iload_n hx hb dX2_perform_64 rfl (lv_at hl 0 rfl) ?_
    obtain ⟨r7, S8, ec, h⟩ := zbd_s h
    refine zc_Vv hY P0 ⟨hx, hb, hml, hown, hT⟩ (As := [.int r3]) (rest := []) (kX6_push l hO r3 S6 r7 S8 ec) (cwV 1 hT (zgV mL_X2_171 mI_X6_push mS_X6_push mN_X6 mC_X6_push) rfl rfl rfl hdnX6_push ⟨Nat.le_of_ble_eq_true rfl, Nat.le_of_ble_eq_true rfl⟩) (zrecX_6 P0 Z) Z rfl hl.1 rfl (Nat.le_of_ble_eq_true rfl) dX2_perform_65 (fun H locs Z => ?_)
    refine lv_goto (tgt := 130) hx hb dX2_perform_68 (by decide) ?_
    exact zr_v hY P0 hx hb hr hlocks h Z dX2_perform_130
  have h := zi_f q0 h
  by_cases q1 : a1 = (nI 1)
  · have h := zi_t q1 h
    refine ztbl (off := 52) (tgt := 71) hx hb q1 dX2_perform_19 (by decide) (by decide) (by decide) (by decide) ?_
    refine lv_aload_n hx hb dX2_perform_71 rfl (lv_at hl 2 rfl) ?_
    refine zgX2_2 hx hb hf hown P0 Z L42 dX2_perform_72 ?_
    refine lv_iload_n hx hb dX2_perform_75 rfl (lv_at hl 0 rfl) ?_
    obtain ⟨r9, S10, ec, h⟩ := zbd_s h
    refine zc_Vv hY P0 ⟨hx, hb, hml, hown, hT⟩ (As := [.int r3]) (rest := []) (kX6_push l hO r3 S4 r9 S10 ec) (cwV 1 hT (zgV mL_X2_171 mI_X6_push mS_X6_push mN_X6 mC_X6_push) rfl rfl rfl hdnX6_push ⟨Nat.le_of_ble_eq_true rfl, Nat.le_of_ble_eq_true rfl⟩) (zrecX_6 P0 Z) Z rfl hl.1 rfl (Nat.le_of_ble_eq_true rfl) dX2_perform_76 (fun H locs Z => ?_)
    refine lv_goto (tgt := 130) hx hb dX2_perform_79 (by decide) ?_
    exact zr_v hY P0 hx hb hr hlocks h Z dX2_perform_130
  have h := zi_f q1 h
  by_cases q2 : a1 = (nI 2)
  · have h := zi_t q2 h
    refine ztbl (off := 63) (tgt := 82) hx hb q2 dX2_perform_19 (by decide) (by decide) (by decide) (by decide) ?_
    refine lv_aload_n hx hb dX2_perform_82 rfl (lv_at hl 2 rfl) ?_
    refine lv_iload_n hx hb dX2_perform_83 rfl (lv_at hl 0 rfl) ?_
    obtain ⟨r11, S12, ec, h⟩ := zbd_s h
    refine zc_Vv hY P0 ⟨hx, hb, hml, hown, hT⟩ (As := [.int r3]) (rest := []) (kX2_makeFunction l hO r3 S4 r11 S12 ec) (cwV 1 hT (zgV mL_X2_174 mI_X2_makeFunction mS_X2_makeFunction mN_X2 mC_X2_makeFunction) rfl rfl rfl hdnX2_makeFunction ⟨Nat.le_of_ble_eq_true rfl, Nat.le_of_ble_eq_true rfl⟩) (zrecX_7 P0 Z) Z rfl hl.1 rfl (Nat.le_of_ble_eq_true rfl) dX2_perform_84 (fun H locs Z => ?_)
    refine lv_goto (tgt := 130) hx hb dX2_perform_87 (by decide) ?_
    exact zr_v hY P0 hx hb hr hlocks h Z dX2_perform_130
  have h := zi_f q2 h
  by_cases q3 : a1 = (nI 3)
  · have h := zi_t q3 h
    refine ztbl (off := 71) (tgt := 90) hx hb q3 dX2_perform_19 (by decide) (by decide) (by decide) (by decide) ?_
    refine lv_aload_n hx hb dX2_perform_90 rfl (lv_at hl 2 rfl) ?_
    refine zgX2_2 hx hb hf hown P0 Z L42 dX2_perform_91 ?_
    refine lv_aload_n hx hb dX2_perform_94 rfl (lv_at hl 2 rfl) ?_
    refine zgX2_8 (v := (zI S4 23)) hx hb hf hown P0 Z L25 rfl dX2_perform_95 ?_
    obtain ⟨r13, S14, ec, h⟩ := zbd_s h
    refine zc_Vv hY P0 ⟨hx, hb, hml, hown, hT⟩ (As := [.int (zI S4 23)]) (rest := []) (kX6_putOnDump l hO (zI S4 23) S4 r13 S14 ec) (cwV 1 hT (zgV mL_X2_177 mI_X6_putOnDump mS_X6_putOnDump mN_X6 mC_X6_putOnDump) rfl rfl rfl hdnX6_putOnDump ⟨Nat.le_of_ble_eq_true rfl, Nat.le_of_ble_eq_true rfl⟩) (zrecX_6 P0 Z) Z rfl hl.1 rfl (Nat.le_of_ble_eq_true rfl) dX2_perform_98 (fun H locs Z => ?_)
    refine lv_goto (tgt := 130) hx hb dX2_perform_101 (by decide) ?_
    exact zr_v hY P0 hx hb hr hlocks h Z dX2_perform_130
  have h := zi_f q3 h
  by_cases q4 : a1 = (nI 4)
  · have h := zi_t q4 h
    refine ztbl (off := 85) (tgt := 104) hx hb q4 dX2_perform_19 (by decide) (by decide) (by decide) (by decide) ?_
    refine lv_aload_n hx hb dX2_perform_104 rfl (lv_at hl 2 rfl) ?_
    refine lv_iload_n hx hb dX2_perform_105 rfl (lv_at hl 0 rfl) ?_
    refine lv_aload_n hx hb dX2_perform_106 rfl (lv_at hl 2 rfl) ?_
    refine zgX2_2 hx hb hf hown P0 Z L42 dX2_perform_107 ?_
    refine lv_iload_n hx hb dX2_perform_110 rfl (lv_at hl 0 rfl) ?_
    obtain ⟨r15, S16, ec, h⟩ := zbd_s h
    refine zc_Si hY P0 ⟨hx, hb, hml, hown, hT⟩ (As := [.int r3]) (rest := [.ref (zad g 6), .int r3, .ref (zad g 7)]) (kX2_needsOf l hO r3 S4 r15 S16 ec) (va_cwS 1 hT (zgS mL_X2_113 mT_X2_needsOf mN_X2 mC_X2_needsOf) rfl rfl rfl hdnX2_needsOf ⟨Nat.le_of_ble_eq_true rfl, Nat.le_of_ble_eq_true rfl⟩) Z rfl hl.1 rfl (Nat.le_of_ble_eq_true rfl) dX2_perform_111 (fun H locs Z => ?_)
    obtain ⟨r17, S18, ec, h⟩ := zbd_s h
    refine zc_Vi hY P0 ⟨hx, hb, hml, hown, hT⟩ (As := [.int r15]) (rest := [.int r3, .ref (zad g 7)]) (kX6_fromTop l hO r15 S16 r17 S18 ec) (cwV 1 hT (zgV mL_X2_84 mI_X6_fromTop mS_X6_fromTop mN_X6 mC_X6_fromTop) rfl rfl rfl hdnX6_fromTop ⟨Nat.le_of_ble_eq_true rfl, Nat.le_of_ble_eq_true rfl⟩) (zrecX_6 P0 Z) Z rfl hl.1 rfl (Nat.le_of_ble_eq_true rfl) dX2_perform_114 (fun H locs Z => ?_)
    obtain ⟨r19, S20, ec, h⟩ := zbd_s h
    refine zc_Vv hY P0 ⟨hx, hb, hml, hown, hT⟩ (As := [.int r3, .int r17]) (rest := []) (kX2_workOut l hO r3 r17 S18 r19 S20 ec) (cwV 2 hT (zgV mL_X2_180 mI_X2_workOut mS_X2_workOut mN_X2 mC_X2_workOut) rfl rfl rfl hdnX2_workOut ⟨Nat.le_of_ble_eq_true rfl, Nat.le_of_ble_eq_true rfl⟩) (zrecX_7 P0 Z) Z rfl hl.1 rfl (Nat.le_of_ble_eq_true rfl) dX2_perform_117 (fun H locs Z => ?_)
    refine lv_goto (tgt := 130) hx hb dX2_perform_120 (by decide) ?_
    exact zr_v hY P0 hx hb hr hlocks h Z dX2_perform_130
  have h := zi_f q4 h
  have u0 : ¬ a1.toInt = 0 := lv_neT q0 (by decide)
  have u1 : ¬ a1.toInt = 1 := lv_neT q1 (by decide)
  have u2 : ¬ a1.toInt = 2 := lv_neT q2 (by decide)
  have u3 : ¬ a1.toInt = 3 := lv_neT q3 (by decide)
  have u4 : ¬ a1.toInt = 4 := lv_neT q4 (by decide)
  refine lv_tableOut (tgt := 123) hx hb dX2_perform_19 (by omega) (by decide) ?_
  refine lv_aload_n hx hb dX2_perform_123 rfl (lv_at hl 2 rfl) ?_
  refine zgX2_2 hx hb hf hown P0 Z L42 dX2_perform_124 ?_
  obtain ⟨r21, S22, ec, h⟩ := zbd_s h
  refine zc_Vv hY P0 ⟨hx, hb, hml, hown, hT⟩ (As := []) (rest := []) (kX6_takeFromDump l hO  S4 r21 S22 ec) (cwV 0 hT (zgV mL_X2_184 mI_X6_takeFromDump mS_X6_takeFromDump mN_X6 mC_X6_takeFromDump) rfl rfl rfl hdnX6_takeFromDump ⟨Nat.le_of_ble_eq_true rfl, Nat.le_of_ble_eq_true rfl⟩) (zrecX_6 P0 Z) Z rfl hl.1 rfl (Nat.le_of_ble_eq_true rfl) dX2_perform_127 (fun H locs Z => ?_)
  exact zr_v hY P0 hx hb hr hlocks h Z dX2_perform_130

set_option maxHeartbeats 4000000 in
set_option maxRecDepth 100000 in
theorem kX2_attempt {g : zG} (l : Launch) (hO : zinjX g) (S : zSt) (r : Int32) (S' : zSt) (h : fX2_attempt S = some (r, S')) : zMi (zYX g) l yX2_attempt vX2_attempt { frames := 6, cells := 0, slots := 0, locals := 141 } ([.ref (zad g 7)] : List Value) S r S' := by
  have hY := zOkX hO
  refine Met.ofW (cc := cX2_attempt) (maxL := 2) (ret := (some .int)) (by decide) rfl ?_
  intro p e s m args below meth c s₁ B hml hv
  obtain ⟨rfl, hP⟩ := hv
  have hx := B.exec
  have hb := B.bytes
  have hr := B.returns
  have hts := atoms_spec (ws := vX2_attempt) B.pre
  have hT : ∀ w ∈ zTB, w.before ([.ref (zad g 7)] : List Value).toArray s = true := fun w h => hts w (List.mem_cons_of_mem _ h)
  have hown : s.vm.findClass RX2 = some m.cls := findClass_of_methodNamed B.named
  have hlocks := B.notSynchronized
  have P0 := hP.2
  have Z : zZ (zYX g) S s s.heap [] := ⟨hP.1, va_S.rf⟩
  have hf : ∀ w ∈ u_ws RX2 TX2 11, w.before ([.ref (zad g 7)] : List Value).toArray s = true := fun w hw => hT w (mU_X2 w hw)
  have L18 := hT _ mF_X2_18
  have hl := lv_entry ([.ref (zad g 7)] : List Value) (n := 2) (Nat.le_of_ble_eq_true rfl)
  rw [lg_entry_eq]
  generalize (lg_sl ([.ref (zad g 7)] : List Value) ++ List.replicate (2 - (lg_sl ([.ref (zad g 7)] : List Value)).length) Slot.unset).toArray = ls at hl ⊢
  have hl : lv_has ls 2 [(0, .ref (zad g 7))] := hl
  unfold fX2_attempt at h
  refine lv_aload_n hx hb dX2_attempt_0 rfl (lv_at hl 0 rfl) ?_
  obtain ⟨r1, S2, ec, h⟩ := zbd_s h
  refine zc_Vi hY P0 ⟨hx, hb, hml, hown, hT⟩ (As := []) (rest := []) (kX2_look l hO  S r1 S2 ec) (cwV 0 hT (zgV mL_X2_94 mI_X2_look mS_X2_look mN_X2 mC_X2_look) rfl rfl rfl hdnX2_look ⟨Nat.le_of_ble_eq_true rfl, Nat.le_of_ble_eq_true rfl⟩) (zrecX_7 P0 Z) Z rfl hl.1 rfl (Nat.le_of_ble_eq_true rfl) dX2_attempt_1 (fun H locs Z => ?_)
  refine lv_istore_n (lv' := [(1, .int r1), (0, .ref (zad g 7))]) hx hb dX2_attempt_4 rfl hl (by decide) rfl (fun ls hl => ?_)
  refine lv_iload_n hx hb dX2_attempt_5 rfl (lv_at hl 0 rfl) ?_
  refine lv_bipush (v := (nI 6)) hx hb dX2_attempt_6 (by decide) ?_
  refine lv_icmp_ne (tgt := 13) hx hb dX2_attempt_8 (by decide) (fun q => ?_) (fun q => ?_)
  · have h := zi_f q h
    refine lv_iload_n hx hb dX2_attempt_13 rfl (lv_at hl 0 rfl) ?_
    refine lv_bipush (v := (nI 7)) hx hb dX2_attempt_14 (by decide) ?_
    refine lv_icmp_ne (tgt := 21) hx hb dX2_attempt_16 (by decide) (fun q => ?_) (fun q => ?_)
    · have h := zi_f q h
      refine lv_aload_n hx hb dX2_attempt_21 rfl (lv_at hl 1 rfl) ?_
      refine zgX2_6 (v := (zI S2 21)) hx hb hf hown P0 Z L18 rfl dX2_attempt_22 ?_
      refine lv_sipush (v := (nI 5000)) hx hb dX2_attempt_25 (by decide) ?_
      refine lv_icmp_ge (tgt := 39) hx hb dX2_attempt_28 (by decide) (fun q => ?_) (fun q => ?_)
      · have h := zi_t q h
        refine lv_iconst (v := (nI 3)) hx hb dX2_attempt_39 (by decide) ?_
        exact zr_i hY P0 hx hb hr hlocks h Z dX2_attempt_40
      · have h := zi_f q h
        refine lv_aload_n hx hb dX2_attempt_31 rfl (lv_at hl 1 rfl) ?_
        refine lv_iload_n hx hb dX2_attempt_32 rfl (lv_at hl 0 rfl) ?_
        obtain ⟨r3, S4, ec, h⟩ := zbd_s h
        refine zc_Vi hY P0 ⟨hx, hb, hml, hown, hT⟩ (As := [.int r1]) (rest := []) (kX2_hasRoomFor l hO r1 S2 r3 S4 ec) (cwV 1 hT (zgV mL_X2_97 mI_X2_hasRoomFor mS_X2_hasRoomFor mN_X2 mC_X2_hasRoomFor) rfl rfl rfl hdnX2_hasRoomFor ⟨Nat.le_of_ble_eq_true rfl, Nat.le_of_ble_eq_true rfl⟩) (zrecX_7 P0 Z) Z rfl hl.1 rfl (Nat.le_of_ble_eq_true rfl) dX2_attempt_33 (fun H locs Z => ?_)
        refine lv_if_ne (tgt := 41) hx hb dX2_attempt_36 (by decide) (fun q => ?_) (fun q => ?_)
        · have h := zi_f q h
          refine lv_aload_n hx hb dX2_attempt_41 rfl (lv_at hl 1 rfl) ?_
          refine lv_iload_n hx hb dX2_attempt_42 rfl (lv_at hl 0 rfl) ?_
          obtain ⟨r5, S6, ec, h⟩ := zbd_s h
          refine zc_Vv hY P0 ⟨hx, hb, hml, hown, hT⟩ (As := [.int r1]) (rest := []) (kX2_perform l hO r1 S4 r5 S6 ec) (cwV 1 hT (zgV mL_X2_101 mI_X2_perform mS_X2_perform mN_X2 mC_X2_perform) rfl rfl rfl hdnX2_perform ⟨Nat.le_of_ble_eq_true rfl, Nat.le_of_ble_eq_true rfl⟩) (zrecX_7 P0 Z) Z rfl hl.1 rfl (Nat.le_of_ble_eq_true rfl) dX2_attempt_43 (fun H locs Z => ?_)
          refine lv_aload_n hx hb dX2_attempt_46 rfl (lv_at hl 1 rfl) ?_
          refine lv_dup hx hb dX2_attempt_47 rfl ?_
          refine zgX2_6 (v := (zI S6 21)) hx hb hf hown P0 Z L18 rfl dX2_attempt_48 ?_
          refine lv_iconst (v := (nI 1)) hx hb dX2_attempt_51 (by decide) ?_
          refine lv_iadd hx hb dX2_attempt_52 ?_
          refine zpX2_6 hO hx hb hf hown P0 Z L18 dX2_attempt_53 (fun H locs Z => ?_)
          refine lv_iconst (v := (nI 0)) hx hb dX2_attempt_56 (by decide) ?_
          exact zr_i hY P0 hx hb hr hlocks h Z dX2_attempt_57
        · have h := zi_t q h
          refine lv_iconst (v := (nI 3)) hx hb dX2_attempt_39 (by decide) ?_
          exact zr_i hY P0 hx hb hr hlocks h Z dX2_attempt_40
    · have h := zi_t q h
      refine lv_iconst (v := (nI 2)) hx hb dX2_attempt_19 (by decide) ?_
      exact zr_i hY P0 hx hb hr hlocks h Z dX2_attempt_20
  · have h := zi_t q h
    refine lv_iconst (v := (nI 1)) hx hb dX2_attempt_11 (by decide) ?_
    exact zr_i hY P0 hx hb hr hlocks h Z dX2_attempt_12

set_option maxHeartbeats 4000000 in
set_option maxRecDepth 100000 in
theorem kX2_errorFound {g : zG} (l : Launch) (hO : zinjX g) (S : zSt) (r : Int32) (S' : zSt) (h : fX2_errorFound S = some (r, S')) : zMi (zYX g) l yX2_errorFound vX2_errorFound { frames := 0, cells := 0, slots := 0, locals := 0 } ([.ref (zad g 7)] : List Value) S r S' := by
  have hY := zOkX hO
  refine Met.ofW (cc := cX2_errorFound) (maxL := 1) (ret := (some .int)) (by decide) rfl ?_
  intro p e s m args below meth c s₁ B hml hv
  obtain ⟨rfl, hP⟩ := hv
  have hx := B.exec
  have hb := B.bytes
  have hr := B.returns
  have hts := atoms_spec (ws := vX2_errorFound) B.pre
  have hT : ∀ w ∈ zTB, w.before ([.ref (zad g 7)] : List Value).toArray s = true := fun w h => hts w (List.mem_cons_of_mem _ h)
  have hown : s.vm.findClass RX2 = some m.cls := findClass_of_methodNamed B.named
  have hlocks := B.notSynchronized
  have P0 := hP.2
  have Z : zZ (zYX g) S s s.heap [] := ⟨hP.1, va_S.rf⟩
  have hf : ∀ w ∈ u_ws RX2 TX2 11, w.before ([.ref (zad g 7)] : List Value).toArray s = true := fun w hw => hT w (mU_X2 w hw)
  have L22 := hT _ mF_X2_22
  have hl := lv_entry ([.ref (zad g 7)] : List Value) (n := 1) (Nat.le_of_ble_eq_true rfl)
  rw [lg_entry_eq]
  generalize (lg_sl ([.ref (zad g 7)] : List Value) ++ List.replicate (1 - (lg_sl ([.ref (zad g 7)] : List Value)).length) Slot.unset).toArray = ls at hl ⊢
  have hl : lv_has ls 1 [(0, .ref (zad g 7))] := hl
  unfold fX2_errorFound at h
  refine lv_aload_n hx hb dX2_errorFound_0 rfl (lv_at hl 0 rfl) ?_
  refine zgX2_7 (v := (zI S 22)) hx hb hf hown P0 Z L22 rfl dX2_errorFound_1 ?_
  exact zr_i hY P0 hx hb hr hlocks h Z dX2_errorFound_4

set_option maxHeartbeats 4000000 in
set_option maxRecDepth 100000 in
theorem kX2_wouldMake {g : zG} (l : Launch) (hO : zinjX g) (a1 : Int32) (S : zSt) (r : Int32) (S' : zSt) (h : fX2_wouldMake a1 S = some (r, S')) : zMi (zYX g) l yX2_wouldMake vX2_wouldMake { frames := 6, cells := 0, slots := 0, locals := 130 } ([.ref (zad g 7), .int a1] : List Value) S r S' := by
  have hY := zOkX hO
  refine Met.ofW (cc := cX2_wouldMake) (maxL := 3) (ret := (some .boolean)) (by decide) rfl ?_
  intro p e s m args below meth c s₁ B hml hv
  obtain ⟨rfl, hP⟩ := hv
  have hx := B.exec
  have hb := B.bytes
  have hr := B.returns
  have hts := atoms_spec (ws := vX2_wouldMake) B.pre
  have hT : ∀ w ∈ zTB, w.before ([.ref (zad g 7), .int a1] : List Value).toArray s = true := fun w h => hts w (List.mem_cons_of_mem _ h)
  have hown : s.vm.findClass RX2 = some m.cls := findClass_of_methodNamed B.named
  have hlocks := B.notSynchronized
  have P0 := hP.2
  have Z : zZ (zYX g) S s s.heap [] := ⟨hP.1, va_S.rf⟩
  have hf : ∀ w ∈ u_ws RX2 TX2 11, w.before ([.ref (zad g 7), .int a1] : List Value).toArray s = true := fun w hw => hT w (mU_X2 w hw)
  have L42 := hT _ mF_X2_42
  have L38 := hT _ mF_X2_38
  have hl := lv_entry ([.ref (zad g 7), .int a1] : List Value) (n := 3) (Nat.le_of_ble_eq_true rfl)
  rw [lg_entry_eq]
  generalize (lg_sl ([.ref (zad g 7), .int a1] : List Value) ++ List.replicate (3 - (lg_sl ([.ref (zad g 7), .int a1] : List Value)).length) Slot.unset).toArray = ls at hl ⊢
  have hl : lv_has ls 3 [(0, .ref (zad g 7)), (1, .int a1)] := hl
  unfold fX2_wouldMake at h
  refine lv_aload_n hx hb dX2_wouldMake_0 rfl (lv_at hl 0 rfl) ?_
  refine zgX2_2 hx hb hf hown P0 Z L42 dX2_wouldMake_1 ?_
  refine lv_iconst (v := (nI 0)) hx hb dX2_wouldMake_4 (by decide) ?_
  obtain ⟨r1, S2, ec, h⟩ := zbd_s h
  refine zc_Vi hY P0 ⟨hx, hb, hml, hown, hT⟩ (As := [.int (nI 0)]) (rest := []) (kX6_fromTop l hO (nI 0) S r1 S2 ec) (cwV 1 hT (zgV mL_X2_84 mI_X6_fromTop mS_X6_fromTop mN_X6 mC_X6_fromTop) rfl rfl rfl hdnX6_fromTop ⟨Nat.le_of_ble_eq_true rfl, Nat.le_of_ble_eq_true rfl⟩) (zrecX_6 P0 Z) Z rfl hl.1 rfl (Nat.le_of_ble_eq_true rfl) dX2_wouldMake_5 (fun H locs Z => ?_)
  refine lv_istore_n (lv' := [(2, .int r1), (0, .ref (zad g 7)), (1, .int a1)]) hx hb dX2_wouldMake_8 rfl hl (by decide) rfl (fun ls hl => ?_)
  refine lv_aload_n hx hb dX2_wouldMake_9 rfl (lv_at hl 1 rfl) ?_
  refine zgX2_1 hx hb hf hown P0 Z L38 dX2_wouldMake_10 ?_
  refine lv_iload_n hx hb dX2_wouldMake_13 rfl (lv_at hl 0 rfl) ?_
  obtain ⟨r3, S4, ec, h⟩ := zbd_s h
  refine zc_Vi hY P0 ⟨hx, hb, hml, hown, hT⟩ (As := [.int r1]) (rest := []) (kX0_kindOf l hO r1 S2 r3 S4 ec) (cwV 1 hT (zgV mL_X2_88 mI_X0_kindOf mS_X0_kindOf mN_X0 mC_X0_kindOf) rfl rfl rfl hdnX0_kindOf ⟨Nat.le_of_ble_eq_true rfl, Nat.le_of_ble_eq_true rfl⟩) (zrecX_5 P0 Z) Z rfl hl.1 rfl (Nat.le_of_ble_eq_true rfl) dX2_wouldMake_14 (fun H locs Z => ?_)
  refine lv_iconst (v := (nI 2)) hx hb dX2_wouldMake_17 (by decide) ?_
  refine lv_icmp_ne (tgt := 45) hx hb dX2_wouldMake_18 (by decide) (fun q => ?_) (fun q => ?_)
  · have h := zi_f q h
    refine lv_iconst (v := (nI 0)) hx hb dX2_wouldMake_45 (by decide) ?_
    exact zr_z hY P0 hx hb hr hlocks (by decide) h Z dX2_wouldMake_46
  · have h := zi_t q h
    refine lv_aload_n hx hb dX2_wouldMake_21 rfl (lv_at hl 1 rfl) ?_
    refine zgX2_1 hx hb hf hown P0 Z L38 dX2_wouldMake_22 ?_
    refine lv_iload_n hx hb dX2_wouldMake_25 rfl (lv_at hl 0 rfl) ?_
    obtain ⟨r5, S6, ec, h⟩ := zbd_s h
    refine zc_Vi hY P0 ⟨hx, hb, hml, hown, hT⟩ (As := [.int r1]) (rest := []) (kX0_firstOf l hO r1 S4 r5 S6 ec) (cwV 1 hT (zgV mL_X2_91 mI_X0_firstOf mS_X0_firstOf mN_X0 mC_X0_firstOf) rfl rfl rfl hdnX0_firstOf ⟨Nat.le_of_ble_eq_true rfl, Nat.le_of_ble_eq_true rfl⟩) (zrecX_5 P0 Z) Z rfl hl.1 rfl (Nat.le_of_ble_eq_true rfl) dX2_wouldMake_26 (fun H locs Z => ?_)
    refine lv_iload_n hx hb dX2_wouldMake_29 rfl (lv_at hl 2 rfl) ?_
    refine lv_icmp_ne (tgt := 45) hx hb dX2_wouldMake_30 (by decide) (fun q => ?_) (fun q => ?_)
    · have h := zi_f q h
      refine lv_iconst (v := (nI 0)) hx hb dX2_wouldMake_45 (by decide) ?_
      exact zr_z hY P0 hx hb hr hlocks (by decide) h Z dX2_wouldMake_46
    · have h := zi_t q h
      refine lv_aload_n hx hb dX2_wouldMake_33 rfl (lv_at hl 1 rfl) ?_
      obtain ⟨r7, S8, ec, h⟩ := zbd_s h
      refine zc_Vi hY P0 ⟨hx, hb, hml, hown, hT⟩ (As := []) (rest := []) (kX2_look l hO  S6 r7 S8 ec) (cwV 0 hT (zgV mL_X2_94 mI_X2_look mS_X2_look mN_X2 mC_X2_look) rfl rfl rfl hdnX2_look ⟨Nat.le_of_ble_eq_true rfl, Nat.le_of_ble_eq_true rfl⟩) (zrecX_7 P0 Z) Z rfl hl.1 rfl (Nat.le_of_ble_eq_true rfl) dX2_wouldMake_34 (fun H locs Z => ?_)
      refine lv_iconst (v := (nI 2)) hx hb dX2_wouldMake_37 (by decide) ?_
      refine lv_icmp_ne (tgt := 45) hx hb dX2_wouldMake_38 (by decide) (fun q => ?_) (fun q => ?_)
      · have h := zi_f q h
        refine lv_iconst (v := (nI 0)) hx hb dX2_wouldMake_45 (by decide) ?_
        exact zr_z hY P0 hx hb hr hlocks (by decide) h Z dX2_wouldMake_46
      · have h := zi_t q h
        refine lv_iconst (v := (nI 1)) hx hb dX2_wouldMake_41 (by decide) ?_
        refine lv_goto (tgt := 46) hx hb dX2_wouldMake_42 (by decide) ?_
        exact zr_z hY P0 hx hb hr hlocks (by decide) h Z dX2_wouldMake_46

set_option maxHeartbeats 4000000 in
set_option maxRecDepth 100000 in
theorem kX9_step {g : zG} (l : Launch) (hO : zinjX g) (a1 : Int32) (S : zSt) (r : Int32) (S' : zSt) (h : fX9_step a1 S = some (r, S')) : zMi (zYX g) l yX9_step vX9_step { frames := 7, cells := 0, slots := 0, locals := 162 } ([.ref (zad g 0), .int a1] : List Value) S r S' := by
  have hY := zOkX hO
  refine Met.ofW (cc := cX9_step) (maxL := 3) (ret := (some .int)) (by decide) rfl ?_
  intro p e s m args below meth c s₁ B hml hv
  obtain ⟨rfl, hP⟩ := hv
  have hx := B.exec
  have hb := B.bytes
  have hr := B.returns
  have hts := atoms_spec (ws := vX9_step) B.pre
  have hT : ∀ w ∈ zTB, w.before ([.ref (zad g 0), .int a1] : List Value).toArray s = true := fun w h => hts w (List.mem_cons_of_mem _ h)
  have hown : s.vm.findClass RX9 = some m.cls := findClass_of_methodNamed B.named
  have hlocks := B.notSynchronized
  have P0 := hP.2
  have Z : zZ (zYX g) S s s.heap [] := ⟨hP.1, va_S.rf⟩
  have hf : ∀ w ∈ u_ws RX9 TX9 13, w.before ([.ref (zad g 0), .int a1] : List Value).toArray s = true := fun w hw => hT w (mU_X9 w hw)
  have L71 := hT _ mF_X9_71
  have L56 := hT _ mF_X9_56
  have L85 := hT _ mF_X9_85
  have L79 := hT _ mF_X9_79
  have L82 := hT _ mF_X9_82
  have B52 : ∀ (k26 : Int32 × Int32 × zSt → Option (Int32 × zSt)) (K26 : (∀ (x1 : Int32) (x2 : Int32) (S : zSt), k26 (x1, x2, S) = some (r, S') → ∀ (H : Heap) (locs : List Loc), zZ (zYX g) S s H locs → ∀ ls : Array Slot, lv_has ls 3 [(0, .ref (zad g 0)), (1, .int x1), (2, .int x2)] → W p l e (headSpec vX9_step { frames := 7, cells := 0, slots := 0, locals := 162 }).room s m ([.ref (zad g 0), .int a1] : List Value).toArray below meth c H locs 0 0 (MQ below (zQi (zYX g) r S') ([.ref (zad g 0), .int a1] : List Value).toArray s 0 0 (zYX g).2.2.1) (F0 m 26 ls []))) (x1 : Int32) (x2 : Int32) (S : zSt), fX9_step_52 k26 x1 x2 S = some (r, S') → ∀ (H : Heap) (locs : List Loc), zZ (zYX g) S s H locs → ∀ ls : Array Slot, lv_has ls 3 [(0, .ref (zad g 0)), (1, .int x1), (2, .int x2)] → W p l e (headSpec vX9_step { frames := 7, cells := 0, slots := 0, locals := 162 }).room s m ([.ref (zad g 0), .int a1] : List Value).toArray below meth c H locs 0 0 (MQ below (zQi (zYX g) r S') ([.ref (zad g 0), .int a1] : List Value).toArray s 0 0 (zYX g).2.2.1) (F0 m 52 ls []) := by
    intro k26 K26 x1 x2 S h H locs Z ls hl
    unfold fX9_step_52 at h
    refine lv_aload_n hx hb dX9_step_52 rfl (lv_at hl 0 rfl) ?_
    refine lv_aload_n hx hb dX9_step_53 rfl (lv_at hl 0 rfl) ?_
    refine zgX9_5 hx hb hf hown P0 Z L56 dX9_step_54 ?_
    obtain ⟨r3, S4, ec, h⟩ := zbd_s h
    refine zc_Vi hY P0 ⟨hx, hb, hml, hown, hT⟩ (As := []) (rest := [.ref (zad g 0)]) (kX2_attempt l hO  S r3 S4 ec) (cwV 0 hT (zgV mL_X9_123 mI_X2_attempt mS_X2_attempt mN_X2 mC_X2_attempt) rfl rfl rfl hdnX2_attempt ⟨Nat.le_of_ble_eq_true rfl, Nat.le_of_ble_eq_true rfl⟩) (zrecX_7 P0 Z) Z rfl hl.1 rfl (Nat.le_of_ble_eq_true rfl) dX9_step_57 (fun H locs Z => ?_)
    refine zpX9_10 hO hx hb hf hown P0 Z L79 dX9_step_60 (fun H locs Z => ?_)
    refine lv_aload_n hx hb dX9_step_63 rfl (lv_at hl 0 rfl) ?_
    refine lv_aload_n hx hb dX9_step_64 rfl (lv_at hl 0 rfl) ?_
    refine zgX9_5 hx hb hf hown P0 Z L56 dX9_step_65 ?_
    obtain ⟨r5, S6, ec, h⟩ := zbd_s h
    refine zc_Vi hY P0 ⟨hx, hb, hml, hown, hT⟩ (As := []) (rest := [.ref (zad g 0)]) (kX2_errorFound l hO  (wI S4 2 r3) r5 S6 ec) (cwV 0 hT (zgV mL_X9_126 mI_X2_errorFound mS_X2_errorFound mN_X2 mC_X2_errorFound) rfl rfl rfl hdnX2_errorFound ⟨Nat.le_of_ble_eq_true rfl, Nat.le_of_ble_eq_true rfl⟩) (zrecX_7 P0 Z) Z rfl hl.1 rfl (Nat.le_of_ble_eq_true rfl) dX9_step_68 (fun H locs Z => ?_)
    refine zpX9_11 hO hx hb hf hown P0 Z L82 dX9_step_71 (fun H locs Z => ?_)
    refine lv_aload_n hx hb dX9_step_74 rfl (lv_at hl 0 rfl) ?_
    refine zgX9_10 (v := (zI S6 2)) hx hb hf hown P0 Z L79 rfl dX9_step_75 ?_
    refine lv_if_eq (tgt := 84) hx hb dX9_step_78 (by decide) (fun q => ?_) (fun q => ?_)
    · have h := zi_t q h
      refine lv_iinc (v := (x2 + (nI 1))) (lv' := [(2, .int (x2 + (nI 1))), (0, .ref (zad g 0)), (1, .int x1)]) hx hb dX9_step_84 hl (k := 2) rfl rfl (by decide) rfl (fun ls hl => ?_)
      refine lv_goto (tgt := 26) hx hb dX9_step_87 (by decide) ?_
      exact K26 x1 (x2 + (nI 1)) (wI S6 3 r5) h _ _ Z ls (lv_sub hl [1, 2, 0] rfl)
    · have h := zi_f q h
      refine lv_goto (tgt := 90) hx hb dX9_step_81 (by decide) ?_
      refine lv_iload_n hx hb dX9_step_90 rfl (lv_at hl 2 rfl) ?_
      exact zr_i hY P0 hx hb hr hlocks h Z dX9_step_91
  have B26 : ∀ (n : Nat) (x1 : Int32) (x2 : Int32) (S : zSt), fX9_step_26L n (x1, x2, S) = some (r, S') → ∀ (H : Heap) (locs : List Loc), zZ (zYX g) S s H locs → ∀ ls : Array Slot, lv_has ls 3 [(0, .ref (zad g 0)), (1, .int x1), (2, .int x2)] → W p l e (headSpec vX9_step { frames := 7, cells := 0, slots := 0, locals := 162 }).room s m ([.ref (zad g 0), .int a1] : List Value).toArray below meth c H locs 0 0 (MQ below (zQi (zYX g) r S') ([.ref (zad g 0), .int a1] : List Value).toArray s 0 0 (zYX g).2.2.1) (F0 m 26 ls []) := by
    intro n
    induction n with
    | zero => intro x1 x2 S h; exact absurd h (fun h => nomatch h)
    | succ n K26 =>
      intro x1 x2 S h H locs Z ls hl
      have h : fX9_step_26 (fX9_step_26L n) x1 x2 S = some (r, S') := h
      unfold fX9_step_26 at h
      refine lv_iload_n hx hb dX9_step_26 rfl (lv_at hl 2 rfl) ?_
      refine lv_iload_n hx hb dX9_step_27 rfl (lv_at hl 1 rfl) ?_
      refine lv_icmp_ge (tgt := 90) hx hb dX9_step_28 (by decide) (fun q => ?_) (fun q => ?_)
      · have h := zi_t q h
        refine lv_iload_n hx hb dX9_step_90 rfl (lv_at hl 2 rfl) ?_
        exact zr_i hY P0 hx hb hr hlocks h Z dX9_step_91
      · have h := zi_f q h
        refine lv_iload_n hx hb dX9_step_31 rfl (lv_at hl 2 rfl) ?_
        refine lv_if_le (tgt := 52) hx hb dX9_step_32 (by decide) (fun q => ?_) (fun q => ?_)
        · have h := zi_t q h
          exact B52 (fX9_step_26L n) K26 x1 x2 S h _ _ Z ls (lv_sub hl [0, 1, 2] rfl)
        · have h := zi_f q h
          refine lv_aload_n hx hb dX9_step_35 rfl (lv_at hl 0 rfl) ?_
          refine zgX9_5 hx hb hf hown P0 Z L56 dX9_step_36 ?_
          refine lv_aload_n hx hb dX9_step_39 rfl (lv_at hl 0 rfl) ?_
          refine zgX9_12 (v := (zI S 4)) hx hb hf hown P0 Z L85 rfl dX9_step_40 ?_
          obtain ⟨r1, S2, ec, h⟩ := zbd_s h
          refine zc_Vi hY P0 ⟨hx, hb, hml, hown, hT⟩ (As := [.int (zI S 4)]) (rest := []) (kX2_wouldMake l hO (zI S 4) S r1 S2 ec) (cwV 1 hT (zgV mL_X9_119 mI_X2_wouldMake mS_X2_wouldMake mN_X2 mC_X2_wouldMake) rfl rfl rfl hdnX2_wouldMake ⟨Nat.le_of_ble_eq_true rfl, Nat.le_of_ble_eq_true rfl⟩) (zrecX_7 P0 Z) Z rfl hl.1 rfl (Nat.le_of_ble_eq_true rfl) dX9_step_43 (fun H locs Z => ?_)
          refine lv_if_eq (tgt := 52) hx hb dX9_step_46 (by decide) (fun q => ?_) (fun q => ?_)
          · have h := zi_t q h
            exact B52 (fX9_step_26L n) K26 x1 x2 S2 h _ _ Z ls (lv_sub hl [0, 1, 2] rfl)
          · have h := zi_f q h
            refine lv_goto (tgt := 90) hx hb dX9_step_49 (by decide) ?_
            refine lv_iload_n hx hb dX9_step_90 rfl (lv_at hl 2 rfl) ?_
            exact zr_i hY P0 hx hb hr hlocks h Z dX9_step_91
  have hl := lv_entry ([.ref (zad g 0), .int a1] : List Value) (n := 3) (Nat.le_of_ble_eq_true rfl)
  rw [lg_entry_eq]
  generalize (lg_sl ([.ref (zad g 0), .int a1] : List Value) ++ List.replicate (3 - (lg_sl ([.ref (zad g 0), .int a1] : List Value)).length) Slot.unset).toArray = ls at hl ⊢
  have hl : lv_has ls 3 [(0, .ref (zad g 0)), (1, .int a1)] := hl
  unfold fX9_step at h
  refine lv_aload_n hx hb dX9_step_0 rfl (lv_at hl 0 rfl) ?_
  refine zgX9_8 (v := (zI S 0)) hx hb hf hown P0 Z L71 rfl dX9_step_1 ?_
  refine lv_if_ne (tgt := 10) hx hb dX9_step_4 (by decide) (fun q => ?_) (fun q => ?_)
  · have h := zi_f q h
    refine lv_iload_n hx hb dX9_step_10 rfl (lv_at hl 1 rfl) ?_
    refine lv_iconst (v := (nI 1)) hx hb dX9_step_11 (by decide) ?_
    refine lv_icmp_lt (tgt := 22) hx hb dX9_step_12 (by decide) (fun q => ?_) (fun q => ?_)
    · have h := zi_t q h
      refine lv_iconst (v := (-1 : Int32)) hx hb dX9_step_22 (by decide) ?_
      exact zr_i hY P0 hx hb hr hlocks h Z dX9_step_23
    · have h := zi_f q h
      refine lv_iload_n hx hb dX9_step_15 rfl (lv_at hl 1 rfl) ?_
      refine lv_sipush (v := (nI 2000)) hx hb dX9_step_16 (by decide) ?_
      refine lv_icmp_le (tgt := 24) hx hb dX9_step_19 (by decide) (fun q => ?_) (fun q => ?_)
      · have h := zi_t q h
        refine lv_iconst (v := (nI 0)) hx hb dX9_step_24 (by decide) ?_
        refine lv_istore_n (lv' := [(2, .int (nI 0)), (0, .ref (zad g 0)), (1, .int a1)]) hx hb dX9_step_25 rfl hl (by decide) rfl (fun ls hl => ?_)
        exact B26 zFU a1 (nI 0) S h _ _ Z ls (lv_sub hl [1, 2, 0] rfl)
      · have h := zi_f q h
        refine lv_iconst (v := (-1 : Int32)) hx hb dX9_step_22 (by decide) ?_
        exact zr_i hY P0 hx hb hr hlocks h Z dX9_step_23
  · have h := zi_t q h
    refine lv_bipush (v := (-3 : Int32)) hx hb dX9_step_7 (by decide) ?_
    exact zr_i hY P0 hx hb hr hlocks h Z dX9_step_9

set_option maxHeartbeats 4000000 in
set_option maxRecDepth 100000 in
theorem kX9_state {g : zG} (l : Launch) (hO : zinjX g) (S : zSt) (r : Int32) (S' : zSt) (h : fX9_state S = some (r, S')) : zMi (zYX g) l yX9_state vX9_state { frames := 0, cells := 0, slots := 0, locals := 0 } ([.ref (zad g 0)] : List Value) S r S' := by
  have hY := zOkX hO
  refine Met.ofW (cc := cX9_state) (maxL := 1) (ret := (some .int)) (by decide) rfl ?_
  intro p e s m args below meth c s₁ B hml hv
  obtain ⟨rfl, hP⟩ := hv
  have hx := B.exec
  have hb := B.bytes
  have hr := B.returns
  have hts := atoms_spec (ws := vX9_state) B.pre
  have hT : ∀ w ∈ zTB, w.before ([.ref (zad g 0)] : List Value).toArray s = true := fun w h => hts w (List.mem_cons_of_mem _ h)
  have hown : s.vm.findClass RX9 = some m.cls := findClass_of_methodNamed B.named
  have hlocks := B.notSynchronized
  have P0 := hP.2
  have Z : zZ (zYX g) S s s.heap [] := ⟨hP.1, va_S.rf⟩
  have hf : ∀ w ∈ u_ws RX9 TX9 13, w.before ([.ref (zad g 0)] : List Value).toArray s = true := fun w hw => hT w (mU_X9 w hw)
  have L71 := hT _ mF_X9_71
  have L79 := hT _ mF_X9_79
  have hl := lv_entry ([.ref (zad g 0)] : List Value) (n := 1) (Nat.le_of_ble_eq_true rfl)
  rw [lg_entry_eq]
  generalize (lg_sl ([.ref (zad g 0)] : List Value) ++ List.replicate (1 - (lg_sl ([.ref (zad g 0)] : List Value)).length) Slot.unset).toArray = ls at hl ⊢
  have hl : lv_has ls 1 [(0, .ref (zad g 0))] := hl
  unfold fX9_state at h
  refine lv_aload_n hx hb dX9_state_0 rfl (lv_at hl 0 rfl) ?_
  refine zgX9_8 (v := (zI S 0)) hx hb hf hown P0 Z L71 rfl dX9_state_1 ?_
  refine lv_if_eq (tgt := 14) hx hb dX9_state_4 (by decide) (fun q => ?_) (fun q => ?_)
  · have h := zi_t q h
    refine lv_bipush (v := (-3 : Int32)) hx hb dX9_state_14 (by decide) ?_
    exact zr_i hY P0 hx hb hr hlocks h Z dX9_state_16
  · have h := zi_f q h
    refine lv_aload_n hx hb dX9_state_7 rfl (lv_at hl 0 rfl) ?_
    refine zgX9_10 (v := (zI S 2)) hx hb hf hown P0 Z L79 rfl dX9_state_8 ?_
    refine lv_goto (tgt := 16) hx hb dX9_state_11 (by decide) ?_
    exact zr_i hY P0 hx hb hr hlocks h Z dX9_state_16

set_option maxHeartbeats 4000000 in
set_option maxRecDepth 100000 in
theorem kX9_error {g : zG} (l : Launch) (hO : zinjX g) (S : zSt) (r : Int32) (S' : zSt) (h : fX9_error S = some (r, S')) : zMi (zYX g) l yX9_error vX9_error { frames := 0, cells := 0, slots := 0, locals := 0 } ([.ref (zad g 0)] : List Value) S r S' := by
  have hY := zOkX hO
  refine Met.ofW (cc := cX9_error) (maxL := 1) (ret := (some .int)) (by decide) rfl ?_
  intro p e s m args below meth c s₁ B hml hv
  obtain ⟨rfl, hP⟩ := hv
  have hx := B.exec
  have hb := B.bytes
  have hr := B.returns
  have hts := atoms_spec (ws := vX9_error) B.pre
  have hT : ∀ w ∈ zTB, w.before ([.ref (zad g 0)] : List Value).toArray s = true := fun w h => hts w (List.mem_cons_of_mem _ h)
  have hown : s.vm.findClass RX9 = some m.cls := findClass_of_methodNamed B.named
  have hlocks := B.notSynchronized
  have P0 := hP.2
  have Z : zZ (zYX g) S s s.heap [] := ⟨hP.1, va_S.rf⟩
  have hf : ∀ w ∈ u_ws RX9 TX9 13, w.before ([.ref (zad g 0)] : List Value).toArray s = true := fun w hw => hT w (mU_X9 w hw)
  have L71 := hT _ mF_X9_71
  have L82 := hT _ mF_X9_82
  have hl := lv_entry ([.ref (zad g 0)] : List Value) (n := 1) (Nat.le_of_ble_eq_true rfl)
  rw [lg_entry_eq]
  generalize (lg_sl ([.ref (zad g 0)] : List Value) ++ List.replicate (1 - (lg_sl ([.ref (zad g 0)] : List Value)).length) Slot.unset).toArray = ls at hl ⊢
  have hl : lv_has ls 1 [(0, .ref (zad g 0))] := hl
  unfold fX9_error at h
  refine lv_aload_n hx hb dX9_error_0 rfl (lv_at hl 0 rfl) ?_
  refine zgX9_8 (v := (zI S 0)) hx hb hf hown P0 Z L71 rfl dX9_error_1 ?_
  refine lv_if_eq (tgt := 14) hx hb dX9_error_4 (by decide) (fun q => ?_) (fun q => ?_)
  · have h := zi_t q h
    refine lv_bipush (v := (-3 : Int32)) hx hb dX9_error_14 (by decide) ?_
    exact zr_i hY P0 hx hb hr hlocks h Z dX9_error_16
  · have h := zi_f q h
    refine lv_aload_n hx hb dX9_error_7 rfl (lv_at hl 0 rfl) ?_
    refine zgX9_11 (v := (zI S 3)) hx hb hf hown P0 Z L82 rfl dX9_error_8 ?_
    refine lv_goto (tgt := 16) hx hb dX9_error_11 (by decide) ?_
    exact zr_i hY P0 hx hb hr hlocks h Z dX9_error_16
