set_option maxHeartbeats 4000000 in
set_option maxRecDepth 100000 in
theorem kX4_deedCount {g : zG} (l : Launch) (hO : zinjX g) (S : zSt) (r : Int32) (S' : zSt) (h : fX4_deedCount S = some (r, S')) : zMi (zYX g) l yX4_deedCount vX4_deedCount { frames := 0, cells := 0, slots := 0, locals := 0 } ([.ref (zad g 2)] : List Value) S r S' := by
  have hY := zOkX hO
  refine Met.ofW (cc := cX4_deedCount) (maxL := 1) (ret := (some .int)) (by decide) rfl ?_
  intro p e s m args below meth c s₁ B hml hv
  obtain ⟨rfl, hP⟩ := hv
  have hx := B.exec
  have hb := B.bytes
  have hr := B.returns
  have hts := atoms_spec (ws := vX4_deedCount) B.pre
  have hT : ∀ w ∈ zTB, w.before ([.ref (zad g 2)] : List Value).toArray s = true := fun w h => hts w (List.mem_cons_of_mem _ h)
  have hown : s.vm.findClass RX4 = some m.cls := findClass_of_methodNamed B.named
  have hlocks := B.notSynchronized
  have P0 := hP.2
  have Z : zZ (zYX g) S s s.heap [] := ⟨hP.1, va_S.rf⟩
  have hf : ∀ w ∈ u_ws RX4 TX4 12, w.before ([.ref (zad g 2)] : List Value).toArray s = true := fun w hw => hT w (mU_X4 w hw)
  have L47 := hT _ mF_X4_47
  have hl := lv_entry ([.ref (zad g 2)] : List Value) (n := 1) (Nat.le_of_ble_eq_true rfl)
  rw [lg_entry_eq]
  generalize (lg_sl ([.ref (zad g 2)] : List Value) ++ List.replicate (1 - (lg_sl ([.ref (zad g 2)] : List Value)).length) Slot.unset).toArray = ls at hl ⊢
  have hl : lv_has ls 1 [(0, .ref (zad g 2))] := hl
  unfold fX4_deedCount at h
  refine lv_aload_n hx hb dX4_deedCount_0 rfl (lv_at hl 0 rfl) ?_
  refine zgX4_11 (v := (zI S 7)) hx hb hf hown P0 Z L47 rfl dX4_deedCount_1 ?_
  exact zr_i hY P0 hx hb hr hlocks h Z dX4_deedCount_4

set_option maxHeartbeats 4000000 in
set_option maxRecDepth 100000 in
theorem kX4_openDefinition {g : zG} (l : Launch) (hO : zinjX g) (a1 : Int64) (S : zSt) (r : Unit) (S' : zSt) (h : fX4_openDefinition a1 S = some (r, S')) : zMv (zYX g) l yX4_openDefinition vX4_openDefinition { frames := 0, cells := 0, slots := 0, locals := 0 } ([.ref (zad g 2), .long a1] : List Value) S S' := by
  have hY := zOkX hO
  refine Met.ofW (cc := cX4_openDefinition) (maxL := 3) (ret := none) (by decide) rfl ?_
  intro p e s m args below meth c s₁ B hml hv
  obtain ⟨rfl, hP⟩ := hv
  have hx := B.exec
  have hb := B.bytes
  have hr := B.returns
  have hts := atoms_spec (ws := vX4_openDefinition) B.pre
  have hT : ∀ w ∈ zTB, w.before ([.ref (zad g 2), .long a1] : List Value).toArray s = true := fun w h => hts w (List.mem_cons_of_mem _ h)
  have hown : s.vm.findClass RX4 = some m.cls := findClass_of_methodNamed B.named
  have hlocks := B.notSynchronized
  have P0 := hP.2
  have Z : zZ (zYX g) S s s.heap [] := ⟨hP.1, va_S.rf⟩
  have hf : ∀ w ∈ u_ws RX4 TX4 12, w.before ([.ref (zad g 2), .long a1] : List Value).toArray s = true := fun w hw => hT w (mU_X4 w hw)
  have L28 := hT _ mF_X4_28
  have L9 := hT _ mF_X4_9
  have L15 := hT _ mF_X4_15
  have L19 := hT _ mF_X4_19
  have L47 := hT _ mF_X4_47
  have L22 := hT _ mF_X4_22
  have L25 := hT _ mF_X4_25
  have hl := lv_entry ([.ref (zad g 2), .long a1] : List Value) (n := 3) (Nat.le_of_ble_eq_true rfl)
  rw [lg_entry_eq]
  generalize (lg_sl ([.ref (zad g 2), .long a1] : List Value) ++ List.replicate (3 - (lg_sl ([.ref (zad g 2), .long a1] : List Value)).length) Slot.unset).toArray = ls at hl ⊢
  have hl : lv_has ls 3 [(0, .ref (zad g 2)), (1, .long a1)] := hl
  unfold fX4_openDefinition at h
  refine lv_aload_n hx hb dX4_openDefinition_0 rfl (lv_at hl 0 rfl) ?_
  refine zgX4_5 (v := (zI S 6)) hx hb hf hown P0 Z L28 rfl dX4_openDefinition_1 ?_
  refine lv_bipush (v := (nI 20)) hx hb dX4_openDefinition_4 (by decide) ?_
  refine lv_icmp_ge (tgt := 75) hx hb dX4_openDefinition_6 (by decide) (fun q => ?_) (fun q => ?_)
  · have h := zi_t q h
    exact zr_v hY P0 hx hb hr hlocks h Z dX4_openDefinition_75
  · have h := zi_f q h
    refine lv_aload_n hx hb dX4_openDefinition_9 rfl (lv_at hl 0 rfl) ?_
    refine zgX4_0 hx hb hf hown P0 Z L9 dX4_openDefinition_10 ?_
    refine lv_aload_n hx hb dX4_openDefinition_13 rfl (lv_at hl 0 rfl) ?_
    refine zgX4_5 (v := (zI S 6)) hx hb hf hown P0 Z L28 rfl dX4_openDefinition_14 ?_
    refine lv_lload_n hx hb dX4_openDefinition_17 rfl (lv_at hl 1 rfl) ?_
    obtain ⟨hin, h⟩ := zck_s h
    refine zsX_12 hO hx hb P0 Z hin dX4_openDefinition_18 (fun H locs Z => ?_)
    refine lv_aload_n hx hb dX4_openDefinition_19 rfl (lv_at hl 0 rfl) ?_
    refine zgX4_1 hx hb hf hown P0 Z L15 dX4_openDefinition_20 ?_
    refine lv_aload_n hx hb dX4_openDefinition_23 rfl (lv_at hl 0 rfl) ?_
    refine zgX4_5 (v := (zI S 6)) hx hb hf hown P0 Z L28 rfl dX4_openDefinition_24 ?_
    refine lv_iconst (v := (nI 0)) hx hb dX4_openDefinition_27 (by decide) ?_
    obtain ⟨hin, h⟩ := zck_s h
    refine zsX_13 hO hx hb P0 Z hin dX4_openDefinition_28 (fun H locs Z => ?_)
    refine lv_aload_n hx hb dX4_openDefinition_29 rfl (lv_at hl 0 rfl) ?_
    refine zgX4_2 hx hb hf hown P0 Z L19 dX4_openDefinition_30 ?_
    refine lv_aload_n hx hb dX4_openDefinition_33 rfl (lv_at hl 0 rfl) ?_
    refine zgX4_5 (v := (zI S 6)) hx hb hf hown P0 Z L28 rfl dX4_openDefinition_34 ?_
    refine lv_aload_n hx hb dX4_openDefinition_37 rfl (lv_at hl 0 rfl) ?_
    refine zgX4_11 (v := (zI S 7)) hx hb hf hown P0 Z L47 rfl dX4_openDefinition_38 ?_
    obtain ⟨hin, h⟩ := zck_s h
    refine zsX_14 hO hx hb P0 Z hin dX4_openDefinition_41 (fun H locs Z => ?_)
    refine lv_aload_n hx hb dX4_openDefinition_42 rfl (lv_at hl 0 rfl) ?_
    refine zgX4_3 hx hb hf hown P0 Z L22 dX4_openDefinition_43 ?_
    refine lv_aload_n hx hb dX4_openDefinition_46 rfl (lv_at hl 0 rfl) ?_
    refine zgX4_5 (v := (zI S 6)) hx hb hf hown P0 Z L28 rfl dX4_openDefinition_47 ?_
    refine lv_aload_n hx hb dX4_openDefinition_50 rfl (lv_at hl 0 rfl) ?_
    refine zgX4_11 (v := (zI S 7)) hx hb hf hown P0 Z L47 rfl dX4_openDefinition_51 ?_
    obtain ⟨hin, h⟩ := zck_s h
    refine zsX_15 hO hx hb P0 Z hin dX4_openDefinition_54 (fun H locs Z => ?_)
    refine lv_aload_n hx hb dX4_openDefinition_55 rfl (lv_at hl 0 rfl) ?_
    refine zgX4_4 hx hb hf hown P0 Z L25 dX4_openDefinition_56 ?_
    refine lv_aload_n hx hb dX4_openDefinition_59 rfl (lv_at hl 0 rfl) ?_
    refine zgX4_5 (v := (zI S 6)) hx hb hf hown P0 Z L28 rfl dX4_openDefinition_60 ?_
    refine lv_iconst (v := (nI 0)) hx hb dX4_openDefinition_63 (by decide) ?_
    obtain ⟨hin, h⟩ := zck_s h
    refine zsX_16 hO hx hb P0 Z hin dX4_openDefinition_64 (fun H locs Z => ?_)
    refine lv_aload_n hx hb dX4_openDefinition_65 rfl (lv_at hl 0 rfl) ?_
    refine lv_dup hx hb dX4_openDefinition_66 rfl ?_
    refine zgX4_5 (v := (zI S 6)) hx hb hf hown P0 Z L28 rfl dX4_openDefinition_67 ?_
    refine lv_iconst (v := (nI 1)) hx hb dX4_openDefinition_70 (by decide) ?_
    refine lv_iadd hx hb dX4_openDefinition_71 ?_
    refine zpX4_5 hO hx hb hf hown P0 Z L28 dX4_openDefinition_72 (fun H locs Z => ?_)
    exact zr_v hY P0 hx hb hr hlocks h Z dX4_openDefinition_75

set_option maxHeartbeats 4000000 in
set_option maxRecDepth 100000 in
theorem kX8_kind {g : zG} (l : Launch) (hO : zinjX g) (S : zSt) (r : Int32) (S' : zSt) (h : fX8_kind S = some (r, S')) : zMi (zYX g) l yX8_kind vX8_kind { frames := 0, cells := 0, slots := 0, locals := 0 } ([.ref (zad g 4)] : List Value) S r S' := by
  have hY := zOkX hO
  refine Met.ofW (cc := cX8_kind) (maxL := 1) (ret := (some .int)) (by decide) rfl ?_
  intro p e s m args below meth c s₁ B hml hv
  obtain ⟨rfl, hP⟩ := hv
  have hx := B.exec
  have hb := B.bytes
  have hr := B.returns
  have hts := atoms_spec (ws := vX8_kind) B.pre
  have hT : ∀ w ∈ zTB, w.before ([.ref (zad g 4)] : List Value).toArray s = true := fun w h => hts w (List.mem_cons_of_mem _ h)
  have hown : s.vm.findClass RX8 = some m.cls := findClass_of_methodNamed B.named
  have hlocks := B.notSynchronized
  have P0 := hP.2
  have Z : zZ (zYX g) S s s.heap [] := ⟨hP.1, va_S.rf⟩
  have hf : ∀ w ∈ u_ws RX8 TX8 7, w.before ([.ref (zad g 4)] : List Value).toArray s = true := fun w hw => hT w (mU_X8 w hw)
  have L19 := hT _ mF_X8_19
  have hl := lv_entry ([.ref (zad g 4)] : List Value) (n := 1) (Nat.le_of_ble_eq_true rfl)
  rw [lg_entry_eq]
  generalize (lg_sl ([.ref (zad g 4)] : List Value) ++ List.replicate (1 - (lg_sl ([.ref (zad g 4)] : List Value)).length) Slot.unset).toArray = ls at hl ⊢
  have hl : lv_has ls 1 [(0, .ref (zad g 4))] := hl
  unfold fX8_kind at h
  refine lv_aload_n hx hb dX8_kind_0 rfl (lv_at hl 0 rfl) ?_
  refine zgX8_3 (v := (zI S 11)) hx hb hf hown P0 Z L19 rfl dX8_kind_1 ?_
  exact zr_i hY P0 hx hb hr hlocks h Z dX8_kind_4

set_option maxHeartbeats 4000000 in
set_option maxRecDepth 100000 in
theorem kX8_place {g : zG} (l : Launch) (hO : zinjX g) (S : zSt) (r : Int32) (S' : zSt) (h : fX8_place S = some (r, S')) : zMi (zYX g) l yX8_place vX8_place { frames := 0, cells := 0, slots := 0, locals := 0 } ([.ref (zad g 4)] : List Value) S r S' := by
  have hY := zOkX hO
  refine Met.ofW (cc := cX8_place) (maxL := 1) (ret := (some .int)) (by decide) rfl ?_
  intro p e s m args below meth c s₁ B hml hv
  obtain ⟨rfl, hP⟩ := hv
  have hx := B.exec
  have hb := B.bytes
  have hr := B.returns
  have hts := atoms_spec (ws := vX8_place) B.pre
  have hT : ∀ w ∈ zTB, w.before ([.ref (zad g 4)] : List Value).toArray s = true := fun w h => hts w (List.mem_cons_of_mem _ h)
  have hown : s.vm.findClass RX8 = some m.cls := findClass_of_methodNamed B.named
  have hlocks := B.notSynchronized
  have P0 := hP.2
  have Z : zZ (zYX g) S s s.heap [] := ⟨hP.1, va_S.rf⟩
  have hf : ∀ w ∈ u_ws RX8 TX8 7, w.before ([.ref (zad g 4)] : List Value).toArray s = true := fun w hw => hT w (mU_X8 w hw)
  have L22 := hT _ mF_X8_22
  have hl := lv_entry ([.ref (zad g 4)] : List Value) (n := 1) (Nat.le_of_ble_eq_true rfl)
  rw [lg_entry_eq]
  generalize (lg_sl ([.ref (zad g 4)] : List Value) ++ List.replicate (1 - (lg_sl ([.ref (zad g 4)] : List Value)).length) Slot.unset).toArray = ls at hl ⊢
  have hl : lv_has ls 1 [(0, .ref (zad g 4))] := hl
  unfold fX8_place at h
  refine lv_aload_n hx hb dX8_place_0 rfl (lv_at hl 0 rfl) ?_
  refine zgX8_4 (v := (zI S 12)) hx hb hf hown P0 Z L22 rfl dX8_place_1 ?_
  exact zr_i hY P0 hx hb hr hlocks h Z dX8_place_4

set_option maxHeartbeats 4000000 in
set_option maxRecDepth 100000 in
theorem kX5_cannotStand {g : zG} (l : Launch) (hO : zinjX g) (S : zSt) (r : Int32) (S' : zSt) (h : fX5_cannotStand S = some (r, S')) : zMi (zYX g) l yX5_cannotStand vX5_cannotStand { frames := 1, cells := 0, slots := 0, locals := 22 } ([.ref (zad g 3)] : List Value) S r S' := by
  have hY := zOkX hO
  refine Met.ofW (cc := cX5_cannotStand) (maxL := 2) (ret := (some .boolean)) (by decide) rfl ?_
  intro p e s m args below meth c s₁ B hml hv
  obtain ⟨rfl, hP⟩ := hv
  have hx := B.exec
  have hb := B.bytes
  have hr := B.returns
  have hts := atoms_spec (ws := vX5_cannotStand) B.pre
  have hT : ∀ w ∈ zTB, w.before ([.ref (zad g 3)] : List Value).toArray s = true := fun w h => hts w (List.mem_cons_of_mem _ h)
  have hown : s.vm.findClass RX5 = some m.cls := findClass_of_methodNamed B.named
  have hlocks := B.notSynchronized
  have P0 := hP.2
  have Z : zZ (zYX g) S s s.heap [] := ⟨hP.1, va_S.rf⟩
  have hf : ∀ w ∈ u_ws RX5 TX5 6, w.before ([.ref (zad g 3)] : List Value).toArray s = true := fun w hw => hT w (mU_X5 w hw)
  have L25 := hT _ mF_X5_25
  have B17 : ∀ (y0 : Int32) (S : zSt), fX5_cannotStand_17 y0 S = some (r, S') → ∀ (H : Heap) (locs : List Loc), zZ (zYX g) S s H locs → ∀ ls : Array Slot, lv_has ls 2 [(0, .ref (zad g 3))] → W p l e (headSpec vX5_cannotStand { frames := 1, cells := 0, slots := 0, locals := 22 }).room s m ([.ref (zad g 3)] : List Value).toArray below meth c H locs 0 0 (MQ below (zQi (zYX g) r S') ([.ref (zad g 3)] : List Value).toArray s 0 0 (zYX g).2.2.1) (F0 m 17 ls [.int y0]) := by
    intro y0 S h H locs Z ls hl
    unfold fX5_cannotStand_17 at h
    refine lv_istore_n (lv' := [(1, .int y0), (0, .ref (zad g 3))]) hx hb dX5_cannotStand_17 rfl hl (by decide) rfl (fun ls hl => ?_)
    refine lv_aload_n hx hb dX5_cannotStand_18 rfl (lv_at hl 1 rfl) ?_
    refine lv_iload_n hx hb dX5_cannotStand_19 rfl (lv_at hl 0 rfl) ?_
    refine lv_aload_n hx hb dX5_cannotStand_20 rfl (lv_at hl 1 rfl) ?_
    refine zgX5_0 hx hb hf hown P0 Z L25 dX5_cannotStand_21 ?_
    obtain ⟨r3, S4, ec, h⟩ := zbd_s h
    refine zc_Vi hY P0 ⟨hx, hb, hml, hown, hT⟩ (As := []) (rest := [.int y0, .ref (zad g 3)]) (kX8_place l hO  S r3 S4 ec) (cwV 0 hT (zgV mL_X5_83 mI_X8_place mS_X8_place mN_X8 mC_X8_place) rfl rfl rfl hdnX8_place ⟨Nat.le_of_ble_eq_true rfl, Nat.le_of_ble_eq_true rfl⟩) (zrecX_4 P0 Z) Z rfl hl.1 rfl (Nat.le_of_ble_eq_true rfl) dX5_cannotStand_24 (fun H locs Z => ?_)
    obtain ⟨r5, S6, ec, h⟩ := zbd_s h
    refine zc_Vi hY P0 ⟨hx, hb, hml, hown, hT⟩ (As := [.int y0, .int r3]) (rest := []) (kX5_fail l hO y0 r3 S4 r5 S6 ec) (cwV 2 hT (zgV mL_X5_66 mI_X5_fail mS_X5_fail mN_X5 mC_X5_fail) rfl rfl rfl hdnX5_fail ⟨Nat.le_of_ble_eq_true rfl, Nat.le_of_ble_eq_true rfl⟩) (zrecX_3 P0 Z) Z rfl hl.1 rfl (Nat.le_of_ble_eq_true rfl) dX5_cannotStand_27 (fun H locs Z => ?_)
    obtain ⟨hn, h⟩ := zbo_s h
    exact zr_z hY P0 hx hb hr hlocks hn h Z dX5_cannotStand_30
  have hl := lv_entry ([.ref (zad g 3)] : List Value) (n := 2) (Nat.le_of_ble_eq_true rfl)
  rw [lg_entry_eq]
  generalize (lg_sl ([.ref (zad g 3)] : List Value) ++ List.replicate (2 - (lg_sl ([.ref (zad g 3)] : List Value)).length) Slot.unset).toArray = ls at hl ⊢
  have hl : lv_has ls 2 [(0, .ref (zad g 3))] := hl
  unfold fX5_cannotStand at h
  refine lv_aload_n hx hb dX5_cannotStand_0 rfl (lv_at hl 0 rfl) ?_
  refine zgX5_0 hx hb hf hown P0 Z L25 dX5_cannotStand_1 ?_
  obtain ⟨r1, S2, ec, h⟩ := zbd_s h
  refine zc_Vi hY P0 ⟨hx, hb, hml, hown, hT⟩ (As := []) (rest := []) (kX8_kind l hO  S r1 S2 ec) (cwV 0 hT (zgV mL_X5_47 mI_X8_kind mS_X8_kind mN_X8 mC_X8_kind) rfl rfl rfl hdnX8_kind ⟨Nat.le_of_ble_eq_true rfl, Nat.le_of_ble_eq_true rfl⟩) (zrecX_4 P0 Z) Z rfl hl.1 rfl (Nat.le_of_ble_eq_true rfl) dX5_cannotStand_4 (fun H locs Z => ?_)
  refine lv_bipush (v := (nI 10)) hx hb dX5_cannotStand_7 (by decide) ?_
  refine lv_icmp_ne (tgt := 16) hx hb dX5_cannotStand_9 (by decide) (fun q => ?_) (fun q => ?_)
  · have h := zi_f q h
    refine lv_iconst (v := (nI 2)) hx hb dX5_cannotStand_16 (by decide) ?_
    exact B17 (nI 2) S2 h _ _ Z ls (lv_sub hl [0] rfl)
  · have h := zi_t q h
    refine lv_iconst (v := (nI 1)) hx hb dX5_cannotStand_12 (by decide) ?_
    refine lv_goto (tgt := 17) hx hb dX5_cannotStand_13 (by decide) ?_
    exact B17 (nI 1) S2 h _ _ Z ls (lv_sub hl [0] rfl)

set_option maxHeartbeats 4000000 in
set_option maxRecDepth 100000 in
theorem kX4_addDeed_ {g : zG} (l : Launch) (hO : zinjX g) (a1 : Int32) (a2 : Int32) (a3 : Int64) (a5 : Int32) (S : zSt) (r : Unit) (S' : zSt) (h : fX4_addDeed_ a1 a2 a3 a5 S = some (r, S')) : zMv (zYX g) l yX4_addDeed_ vX4_addDeed_ { frames := 0, cells := 0, slots := 0, locals := 0 } ([.ref (zad g 2), .int a1, .int a2, .long a3, .int a5] : List Value) S S' := by
  have hY := zOkX hO
  refine Met.ofW (cc := cX4_addDeed_) (maxL := 6) (ret := none) (by decide) rfl ?_
  intro p e s m args below meth c s₁ B hml hv
  obtain ⟨rfl, hP⟩ := hv
  have hx := B.exec
  have hb := B.bytes
  have hr := B.returns
  have hts := atoms_spec (ws := vX4_addDeed_) B.pre
  have hT : ∀ w ∈ zTB, w.before ([.ref (zad g 2), .int a1, .int a2, .long a3, .int a5] : List Value).toArray s = true := fun w h => hts w (List.mem_cons_of_mem _ h)
  have hown : s.vm.findClass RX4 = some m.cls := findClass_of_methodNamed B.named
  have hlocks := B.notSynchronized
  have P0 := hP.2
  have Z : zZ (zYX g) S s s.heap [] := ⟨hP.1, va_S.rf⟩
  have hf : ∀ w ∈ u_ws RX4 TX4 12, w.before ([.ref (zad g 2), .int a1, .int a2, .long a3, .int a5] : List Value).toArray s = true := fun w hw => hT w (mU_X4 w hw)
  have L47 := hT _ mF_X4_47
  have L32 := hT _ mF_X4_32
  have L35 := hT _ mF_X4_35
  have L38 := hT _ mF_X4_38
  have L41 := hT _ mF_X4_41
  have L44 := hT _ mF_X4_44
  have hl := lv_entry ([.ref (zad g 2), .int a1, .int a2, .long a3, .int a5] : List Value) (n := 6) (Nat.le_of_ble_eq_true rfl)
  rw [lg_entry_eq]
  generalize (lg_sl ([.ref (zad g 2), .int a1, .int a2, .long a3, .int a5] : List Value) ++ List.replicate (6 - (lg_sl ([.ref (zad g 2), .int a1, .int a2, .long a3, .int a5] : List Value)).length) Slot.unset).toArray = ls at hl ⊢
  have hl : lv_has ls 6 [(0, .ref (zad g 2)), (1, .int a1), (2, .int a2), (3, .long a3), (5, .int a5)] := hl
  unfold fX4_addDeed_ at h
  refine lv_aload_n hx hb dX4_addDeed__0 rfl (lv_at hl 0 rfl) ?_
  refine zgX4_11 (v := (zI S 7)) hx hb hf hown P0 Z L47 rfl dX4_addDeed__1 ?_
  refine lv_sipush (v := (nI 800)) hx hb dX4_addDeed__4 (by decide) ?_
  refine lv_icmp_ge (tgt := 71) hx hb dX4_addDeed__7 (by decide) (fun q => ?_) (fun q => ?_)
  · have h := zi_t q h
    exact zr_v hY P0 hx hb hr hlocks h Z dX4_addDeed__71
  · have h := zi_f q h
    refine lv_aload_n hx hb dX4_addDeed__10 rfl (lv_at hl 0 rfl) ?_
    refine zgX4_6 hx hb hf hown P0 Z L32 dX4_addDeed__11 ?_
    refine lv_aload_n hx hb dX4_addDeed__14 rfl (lv_at hl 0 rfl) ?_
    refine zgX4_11 (v := (zI S 7)) hx hb hf hown P0 Z L47 rfl dX4_addDeed__15 ?_
    refine lv_iload_n hx hb dX4_addDeed__18 rfl (lv_at hl 1 rfl) ?_
    obtain ⟨hin, h⟩ := zck_s h
    refine zsX_17 hO hx hb P0 Z hin dX4_addDeed__19 (fun H locs Z => ?_)
    refine lv_aload_n hx hb dX4_addDeed__20 rfl (lv_at hl 0 rfl) ?_
    refine zgX4_7 hx hb hf hown P0 Z L35 dX4_addDeed__21 ?_
    refine lv_aload_n hx hb dX4_addDeed__24 rfl (lv_at hl 0 rfl) ?_
    refine zgX4_11 (v := (zI S 7)) hx hb hf hown P0 Z L47 rfl dX4_addDeed__25 ?_
    refine lv_iload_n hx hb dX4_addDeed__28 rfl (lv_at hl 2 rfl) ?_
    obtain ⟨hin, h⟩ := zck_s h
    refine zsX_18 hO hx hb P0 Z hin dX4_addDeed__29 (fun H locs Z => ?_)
    refine lv_aload_n hx hb dX4_addDeed__30 rfl (lv_at hl 0 rfl) ?_
    refine zgX4_8 hx hb hf hown P0 Z L38 dX4_addDeed__31 ?_
    refine lv_aload_n hx hb dX4_addDeed__34 rfl (lv_at hl 0 rfl) ?_
    refine zgX4_11 (v := (zI S 7)) hx hb hf hown P0 Z L47 rfl dX4_addDeed__35 ?_
    refine lv_iconst (v := (nI 0)) hx hb dX4_addDeed__38 (by decide) ?_
    obtain ⟨hin, h⟩ := zck_s h
    refine zsX_19 hO hx hb P0 Z hin dX4_addDeed__39 (fun H locs Z => ?_)
    refine lv_aload_n hx hb dX4_addDeed__40 rfl (lv_at hl 0 rfl) ?_
    refine zgX4_9 hx hb hf hown P0 Z L41 dX4_addDeed__41 ?_
    refine lv_aload_n hx hb dX4_addDeed__44 rfl (lv_at hl 0 rfl) ?_
    refine zgX4_11 (v := (zI S 7)) hx hb hf hown P0 Z L47 rfl dX4_addDeed__45 ?_
    refine lv_lload_n hx hb dX4_addDeed__48 rfl (lv_at hl 3 rfl) ?_
    obtain ⟨hin, h⟩ := zck_s h
    refine zsX_20 hO hx hb P0 Z hin dX4_addDeed__49 (fun H locs Z => ?_)
    refine lv_aload_n hx hb dX4_addDeed__50 rfl (lv_at hl 0 rfl) ?_
    refine zgX4_10 hx hb hf hown P0 Z L44 dX4_addDeed__51 ?_
    refine lv_aload_n hx hb dX4_addDeed__54 rfl (lv_at hl 0 rfl) ?_
    refine zgX4_11 (v := (zI S 7)) hx hb hf hown P0 Z L47 rfl dX4_addDeed__55 ?_
    refine lv_iload hx hb dX4_addDeed__58 (lv_at hl 4 rfl) ?_
    obtain ⟨hin, h⟩ := zck_s h
    refine zsX_21 hO hx hb P0 Z hin dX4_addDeed__60 (fun H locs Z => ?_)
    refine lv_aload_n hx hb dX4_addDeed__61 rfl (lv_at hl 0 rfl) ?_
    refine lv_dup hx hb dX4_addDeed__62 rfl ?_
    refine zgX4_11 (v := (zI S 7)) hx hb hf hown P0 Z L47 rfl dX4_addDeed__63 ?_
    refine lv_iconst (v := (nI 1)) hx hb dX4_addDeed__66 (by decide) ?_
    refine lv_iadd hx hb dX4_addDeed__67 ?_
    refine zpX4_11 hO hx hb hf hown P0 Z L47 dX4_addDeed__68 (fun H locs Z => ?_)
    exact zr_v hY P0 hx hb hr hlocks h Z dX4_addDeed__71

set_option maxHeartbeats 4000000 in
set_option maxRecDepth 100000 in
theorem kX4_addDeed {g : zG} (l : Launch) (hO : zinjX g) (a1 : Int32) (a2 : Int32) (S : zSt) (r : Unit) (S' : zSt) (h : fX4_addDeed a1 a2 S = some (r, S')) : zMv (zYX g) l yX4_addDeed vX4_addDeed { frames := 1, cells := 0, slots := 0, locals := 25 } ([.ref (zad g 2), .int a1, .int a2] : List Value) S S' := by
  have hY := zOkX hO
  refine Met.ofW (cc := cX4_addDeed) (maxL := 3) (ret := none) (by decide) rfl ?_
  intro p e s m args below meth c s₁ B hml hv
  obtain ⟨rfl, hP⟩ := hv
  have hx := B.exec
  have hb := B.bytes
  have hr := B.returns
  have hts := atoms_spec (ws := vX4_addDeed) B.pre
  have hT : ∀ w ∈ zTB, w.before ([.ref (zad g 2), .int a1, .int a2] : List Value).toArray s = true := fun w h => hts w (List.mem_cons_of_mem _ h)
  have hown : s.vm.findClass RX4 = some m.cls := findClass_of_methodNamed B.named
  have hlocks := B.notSynchronized
  have P0 := hP.2
  have Z : zZ (zYX g) S s s.heap [] := ⟨hP.1, va_S.rf⟩
  have hl := lv_entry ([.ref (zad g 2), .int a1, .int a2] : List Value) (n := 3) (Nat.le_of_ble_eq_true rfl)
  rw [lg_entry_eq]
  generalize (lg_sl ([.ref (zad g 2), .int a1, .int a2] : List Value) ++ List.replicate (3 - (lg_sl ([.ref (zad g 2), .int a1, .int a2] : List Value)).length) Slot.unset).toArray = ls at hl ⊢
  have hl : lv_has ls 3 [(0, .ref (zad g 2)), (1, .int a1), (2, .int a2)] := hl
  unfold fX4_addDeed at h
  refine lv_aload_n hx hb dX4_addDeed_0 rfl (lv_at hl 0 rfl) ?_
  refine lv_iload_n hx hb dX4_addDeed_1 rfl (lv_at hl 1 rfl) ?_
  refine lv_iload_n hx hb dX4_addDeed_2 rfl (lv_at hl 2 rfl) ?_
  refine lv_lconst (v := (0 : Int64)) hx hb dX4_addDeed_3 (by decide) ?_
  refine lv_iconst (v := (nI 0)) hx hb dX4_addDeed_4 (by decide) ?_
  obtain ⟨r1, S2, ec, h⟩ := zbd_s h
  refine zc_Vv hY P0 ⟨hx, hb, hml, hown, hT⟩ (As := [.int a1, .int a2, .long (0 : Int64), .int (nI 0)]) (rest := []) (kX4_addDeed_ l hO a1 a2 (0 : Int64) (nI 0) S r1 S2 ec) (cwV 4 hT (zgV mL_X4_64 mI_X4_addDeed_ mS_X4_addDeed_ mN_X4 mC_X4_addDeed_) rfl rfl rfl hdnX4_addDeed_ ⟨Nat.le_of_ble_eq_true rfl, Nat.le_of_ble_eq_true rfl⟩) (zrecX_2 P0 Z) Z rfl hl.1 rfl (Nat.le_of_ble_eq_true rfl) dX4_addDeed_5 (fun H locs Z => ?_)
  exact zr_v hY P0 hx hb hr hlocks h Z dX4_addDeed_8

set_option maxHeartbeats 4000000 in
set_option maxRecDepth 100000 in
theorem kX5_beginsAtom {g : zG} (l : Launch) (hO : zinjX g) (S : zSt) (r : Int32) (S' : zSt) (h : fX5_beginsAtom S = some (r, S')) : zMi (zYX g) l yX5_beginsAtom vX5_beginsAtom { frames := 1, cells := 0, slots := 0, locals := 20 } ([.ref (zad g 3)] : List Value) S r S' := by
  have hY := zOkX hO
  refine Met.ofW (cc := cX5_beginsAtom) (maxL := 2) (ret := (some .boolean)) (by decide) rfl ?_
  intro p e s m args below meth c s₁ B hml hv
  obtain ⟨rfl, hP⟩ := hv
  have hx := B.exec
  have hb := B.bytes
  have hr := B.returns
  have hts := atoms_spec (ws := vX5_beginsAtom) B.pre
  have hT : ∀ w ∈ zTB, w.before ([.ref (zad g 3)] : List Value).toArray s = true := fun w h => hts w (List.mem_cons_of_mem _ h)
  have hown : s.vm.findClass RX5 = some m.cls := findClass_of_methodNamed B.named
  have hlocks := B.notSynchronized
  have P0 := hP.2
  have Z : zZ (zYX g) S s s.heap [] := ⟨hP.1, va_S.rf⟩
  have hf : ∀ w ∈ u_ws RX5 TX5 6, w.before ([.ref (zad g 3)] : List Value).toArray s = true := fun w hw => hT w (mU_X5 w hw)
  have L25 := hT _ mF_X5_25
  have hl := lv_entry ([.ref (zad g 3)] : List Value) (n := 2) (Nat.le_of_ble_eq_true rfl)
  rw [lg_entry_eq]
  generalize (lg_sl ([.ref (zad g 3)] : List Value) ++ List.replicate (2 - (lg_sl ([.ref (zad g 3)] : List Value)).length) Slot.unset).toArray = ls at hl ⊢
  have hl : lv_has ls 2 [(0, .ref (zad g 3))] := hl
  unfold fX5_beginsAtom at h
  refine lv_aload_n hx hb dX5_beginsAtom_0 rfl (lv_at hl 0 rfl) ?_
  refine zgX5_0 hx hb hf hown P0 Z L25 dX5_beginsAtom_1 ?_
  obtain ⟨r1, S2, ec, h⟩ := zbd_s h
  refine zc_Vi hY P0 ⟨hx, hb, hml, hown, hT⟩ (As := []) (rest := []) (kX8_kind l hO  S r1 S2 ec) (cwV 0 hT (zgV mL_X5_47 mI_X8_kind mS_X8_kind mN_X8 mC_X8_kind) rfl rfl rfl hdnX8_kind ⟨Nat.le_of_ble_eq_true rfl, Nat.le_of_ble_eq_true rfl⟩) (zrecX_4 P0 Z) Z rfl hl.1 rfl (Nat.le_of_ble_eq_true rfl) dX5_beginsAtom_4 (fun H locs Z => ?_)
  refine lv_istore_n (lv' := [(1, .int r1), (0, .ref (zad g 3))]) hx hb dX5_beginsAtom_7 rfl hl (by decide) rfl (fun ls hl => ?_)
  refine lv_iload_n hx hb dX5_beginsAtom_8 rfl (lv_at hl 0 rfl) ?_
  refine lv_iconst (v := (nI 1)) hx hb dX5_beginsAtom_9 (by decide) ?_
  refine lv_icmp_eq (tgt := 29) hx hb dX5_beginsAtom_10 (by decide) (fun q => ?_) (fun q => ?_)
  · have h := zi_t q h
    refine lv_iconst (v := (nI 1)) hx hb dX5_beginsAtom_29 (by decide) ?_
    refine lv_goto (tgt := 34) hx hb dX5_beginsAtom_30 (by decide) ?_
    exact zr_z hY P0 hx hb hr hlocks (by decide) h Z dX5_beginsAtom_34
  · have h := zi_f q h
    refine lv_iload_n hx hb dX5_beginsAtom_13 rfl (lv_at hl 0 rfl) ?_
    refine lv_iconst (v := (nI 3)) hx hb dX5_beginsAtom_14 (by decide) ?_
    refine lv_icmp_eq (tgt := 29) hx hb dX5_beginsAtom_15 (by decide) (fun q => ?_) (fun q => ?_)
    · have h := zi_t q h
      refine lv_iconst (v := (nI 1)) hx hb dX5_beginsAtom_29 (by decide) ?_
      refine lv_goto (tgt := 34) hx hb dX5_beginsAtom_30 (by decide) ?_
      exact zr_z hY P0 hx hb hr hlocks (by decide) h Z dX5_beginsAtom_34
    · have h := zi_f q h
      refine lv_iload_n hx hb dX5_beginsAtom_18 rfl (lv_at hl 0 rfl) ?_
      refine lv_iconst (v := (nI 2)) hx hb dX5_beginsAtom_19 (by decide) ?_
      refine lv_icmp_eq (tgt := 29) hx hb dX5_beginsAtom_20 (by decide) (fun q => ?_) (fun q => ?_)
      · have h := zi_t q h
        refine lv_iconst (v := (nI 1)) hx hb dX5_beginsAtom_29 (by decide) ?_
        refine lv_goto (tgt := 34) hx hb dX5_beginsAtom_30 (by decide) ?_
        exact zr_z hY P0 hx hb hr hlocks (by decide) h Z dX5_beginsAtom_34
      · have h := zi_f q h
        refine lv_iload_n hx hb dX5_beginsAtom_23 rfl (lv_at hl 0 rfl) ?_
        refine lv_bipush (v := (nI 8)) hx hb dX5_beginsAtom_24 (by decide) ?_
        refine lv_icmp_ne (tgt := 33) hx hb dX5_beginsAtom_26 (by decide) (fun q => ?_) (fun q => ?_)
        · have h := zi_f q h
          refine lv_iconst (v := (nI 0)) hx hb dX5_beginsAtom_33 (by decide) ?_
          exact zr_z hY P0 hx hb hr hlocks (by decide) h Z dX5_beginsAtom_34
        · have h := zi_t q h
          refine lv_iconst (v := (nI 1)) hx hb dX5_beginsAtom_29 (by decide) ?_
          refine lv_goto (tgt := 34) hx hb dX5_beginsAtom_30 (by decide) ?_
          exact zr_z hY P0 hx hb hr hlocks (by decide) h Z dX5_beginsAtom_34

set_option maxHeartbeats 4000000 in
set_option maxRecDepth 100000 in
theorem kX4_addName {g : zG} (l : Launch) (hO : zinjX g) (a1 : Int64) (a3 : Int32) (S : zSt) (r : Unit) (S' : zSt) (h : fX4_addName a1 a3 S = some (r, S')) : zMv (zYX g) l yX4_addName vX4_addName { frames := 1, cells := 0, slots := 0, locals := 25 } ([.ref (zad g 2), .long a1, .int a3] : List Value) S S' := by
  have hY := zOkX hO
  refine Met.ofW (cc := cX4_addName) (maxL := 4) (ret := none) (by decide) rfl ?_
  intro p e s m args below meth c s₁ B hml hv
  obtain ⟨rfl, hP⟩ := hv
  have hx := B.exec
  have hb := B.bytes
  have hr := B.returns
  have hts := atoms_spec (ws := vX4_addName) B.pre
  have hT : ∀ w ∈ zTB, w.before ([.ref (zad g 2), .long a1, .int a3] : List Value).toArray s = true := fun w h => hts w (List.mem_cons_of_mem _ h)
  have hown : s.vm.findClass RX4 = some m.cls := findClass_of_methodNamed B.named
  have hlocks := B.notSynchronized
  have P0 := hP.2
  have Z : zZ (zYX g) S s s.heap [] := ⟨hP.1, va_S.rf⟩
  have hl := lv_entry ([.ref (zad g 2), .long a1, .int a3] : List Value) (n := 4) (Nat.le_of_ble_eq_true rfl)
  rw [lg_entry_eq]
  generalize (lg_sl ([.ref (zad g 2), .long a1, .int a3] : List Value) ++ List.replicate (4 - (lg_sl ([.ref (zad g 2), .long a1, .int a3] : List Value)).length) Slot.unset).toArray = ls at hl ⊢
  have hl : lv_has ls 4 [(0, .ref (zad g 2)), (1, .long a1), (3, .int a3)] := hl
  unfold fX4_addName at h
  refine lv_aload_n hx hb dX4_addName_0 rfl (lv_at hl 0 rfl) ?_
  refine lv_bipush (v := (nI 8)) hx hb dX4_addName_1 (by decide) ?_
  refine lv_iconst (v := (nI 0)) hx hb dX4_addName_3 (by decide) ?_
  refine lv_lload_n hx hb dX4_addName_4 rfl (lv_at hl 1 rfl) ?_
  refine lv_iload_n hx hb dX4_addName_5 rfl (lv_at hl 2 rfl) ?_
  obtain ⟨r1, S2, ec, h⟩ := zbd_s h
  refine zc_Vv hY P0 ⟨hx, hb, hml, hown, hT⟩ (As := [.int (nI 8), .int (nI 0), .long a1, .int a3]) (rest := []) (kX4_addDeed_ l hO (nI 8) (nI 0) a1 a3 S r1 S2 ec) (cwV 4 hT (zgV mL_X4_64 mI_X4_addDeed_ mS_X4_addDeed_ mN_X4 mC_X4_addDeed_) rfl rfl rfl hdnX4_addDeed_ ⟨Nat.le_of_ble_eq_true rfl, Nat.le_of_ble_eq_true rfl⟩) (zrecX_2 P0 Z) Z rfl hl.1 rfl (Nat.le_of_ble_eq_true rfl) dX4_addName_6 (fun H locs Z => ?_)
  exact zr_v hY P0 hx hb hr hlocks h Z dX4_addName_9

set_option maxHeartbeats 4000000 in
set_option maxRecDepth 100000 in
theorem kX7_byteAt {g : zG} (l : Launch) (hO : zinjX g) (a1 : Int32) (S : zSt) (r : Int32) (S' : zSt) (h : fX7_byteAt a1 S = some (r, S')) : zMi (zYX g) l yX7_byteAt vX7_byteAt { frames := 0, cells := 0, slots := 0, locals := 0 } ([.ref (zad g 1), .int a1] : List Value) S r S' := by
  have hY := zOkX hO
  refine Met.ofW (cc := cX7_byteAt) (maxL := 2) (ret := (some .int)) (by decide) rfl ?_
  intro p e s m args below meth c s₁ B hml hv
  obtain ⟨rfl, hP⟩ := hv
  have hx := B.exec
  have hb := B.bytes
  have hr := B.returns
  have hts := atoms_spec (ws := vX7_byteAt) B.pre
  have hT : ∀ w ∈ zTB, w.before ([.ref (zad g 1), .int a1] : List Value).toArray s = true := fun w h => hts w (List.mem_cons_of_mem _ h)
  have hown : s.vm.findClass RX7 = some m.cls := findClass_of_methodNamed B.named
  have hlocks := B.notSynchronized
  have P0 := hP.2
  have Z : zZ (zYX g) S s s.heap [] := ⟨hP.1, va_S.rf⟩
  have hf : ∀ w ∈ u_ws RX7 TX7 2, w.before ([.ref (zad g 1), .int a1] : List Value).toArray s = true := fun w hw => hT w (mU_X7 w hw)
  have L15 := hT _ mF_X7_15
  have L9 := hT _ mF_X7_9
  have hl := lv_entry ([.ref (zad g 1), .int a1] : List Value) (n := 2) (Nat.le_of_ble_eq_true rfl)
  rw [lg_entry_eq]
  generalize (lg_sl ([.ref (zad g 1), .int a1] : List Value) ++ List.replicate (2 - (lg_sl ([.ref (zad g 1), .int a1] : List Value)).length) Slot.unset).toArray = ls at hl ⊢
  have hl : lv_has ls 2 [(0, .ref (zad g 1)), (1, .int a1)] := hl
  unfold fX7_byteAt at h
  refine lv_iload_n hx hb dX7_byteAt_0 rfl (lv_at hl 1 rfl) ?_
  refine lv_if_lt (tgt := 21) hx hb dX7_byteAt_1 (by decide) (fun q => ?_) (fun q => ?_)
  · have h := zi_t q h
    refine lv_iconst (v := (-1 : Int32)) hx hb dX7_byteAt_21 (by decide) ?_
    exact zr_i hY P0 hx hb hr hlocks h Z dX7_byteAt_22
  · have h := zi_f q h
    refine lv_iload_n hx hb dX7_byteAt_4 rfl (lv_at hl 1 rfl) ?_
    refine lv_aload_n hx hb dX7_byteAt_5 rfl (lv_at hl 0 rfl) ?_
    refine zgX7_1 (v := (zI S 5)) hx hb hf hown P0 Z L15 rfl dX7_byteAt_6 ?_
    refine lv_icmp_ge (tgt := 21) hx hb dX7_byteAt_9 (by decide) (fun q => ?_) (fun q => ?_)
    · have h := zi_t q h
      refine lv_iconst (v := (-1 : Int32)) hx hb dX7_byteAt_21 (by decide) ?_
      exact zr_i hY P0 hx hb hr hlocks h Z dX7_byteAt_22
    · have h := zi_f q h
      refine lv_iload_n hx hb dX7_byteAt_12 rfl (lv_at hl 1 rfl) ?_
      refine lv_aload_n hx hb dX7_byteAt_13 rfl (lv_at hl 0 rfl) ?_
      refine zgX7_0 hx hb hf hown P0 Z L9 dX7_byteAt_14 ?_
      refine zaX_11 hx hb P0 Z dX7_byteAt_17 ?_
      refine lv_icmp_lt (tgt := 23) hx hb dX7_byteAt_18 (by decide) (fun q => ?_) (fun q => ?_)
      · have h := zi_t q h
        refine lv_aload_n hx hb dX7_byteAt_23 rfl (lv_at hl 0 rfl) ?_
        refine zgX7_0 hx hb hf hown P0 Z L9 dX7_byteAt_24 ?_
        refine lv_iload_n hx hb dX7_byteAt_27 rfl (lv_at hl 1 rfl) ?_
        obtain ⟨v1, ev, hin, h⟩ := zld_s h
        refine zlX_11 hx hb P0 Z ev hin dX7_byteAt_28 ?_
        refine lv_sipush (v := (nI 255)) hx hb dX7_byteAt_29 (by decide) ?_
        refine lv_iand hx hb dX7_byteAt_32 ?_
        exact zr_i hY P0 hx hb hr hlocks h Z dX7_byteAt_33
      · have h := zi_f q h
        refine lv_iconst (v := (-1 : Int32)) hx hb dX7_byteAt_21 (by decide) ?_
        exact zr_i hY P0 hx hb hr hlocks h Z dX7_byteAt_22

set_option maxHeartbeats 4000000 in
set_option maxRecDepth 100000 in
theorem kX8_isDigit {g : zG} (l : Launch) (hO : zinjX g) (a0 : Int32) (S : zSt) (r : Int32) (S' : zSt) (h : fX8_isDigit a0 S = some (r, S')) : zMi (zYX g) l yX8_isDigit vX8_isDigit { frames := 0, cells := 0, slots := 0, locals := 0 } ([.int a0] : List Value) S r S' := by
  have hY := zOkX hO
  refine Met.ofW (cc := cX8_isDigit) (maxL := 1) (ret := (some .boolean)) (by decide) rfl ?_
  intro p e s m args below meth c s₁ B hml hv
  obtain ⟨rfl, hP⟩ := hv
  have hx := B.exec
  have hb := B.bytes
  have hr := B.returns
  have hts := atoms_spec (ws := vX8_isDigit) B.pre
  have hT : ∀ w ∈ zTB, w.before ([.int a0] : List Value).toArray s = true := fun w h => hts w (List.mem_cons_of_mem _ h)
  have hown : s.vm.findClass RX8 = some m.cls := findClass_of_methodNamed B.named
  have hlocks := B.notSynchronized
  have P0 := hP.2
  have Z : zZ (zYX g) S s s.heap [] := ⟨hP.1, va_S.rf⟩
  have hl := lv_entry ([.int a0] : List Value) (n := 1) (Nat.le_of_ble_eq_true rfl)
  rw [lg_entry_eq]
  generalize (lg_sl ([.int a0] : List Value) ++ List.replicate (1 - (lg_sl ([.int a0] : List Value)).length) Slot.unset).toArray = ls at hl ⊢
  have hl : lv_has ls 1 [(0, .int a0)] := hl
  unfold fX8_isDigit at h
  refine lv_iload_n hx hb dX8_isDigit_0 rfl (lv_at hl 0 rfl) ?_
  refine lv_bipush (v := (nI 48)) hx hb dX8_isDigit_1 (by decide) ?_
  refine lv_icmp_lt (tgt := 16) hx hb dX8_isDigit_3 (by decide) (fun q => ?_) (fun q => ?_)
  · have h := zi_t q h
    refine lv_iconst (v := (nI 0)) hx hb dX8_isDigit_16 (by decide) ?_
    exact zr_z hY P0 hx hb hr hlocks (by decide) h Z dX8_isDigit_17
  · have h := zi_f q h
    refine lv_iload_n hx hb dX8_isDigit_6 rfl (lv_at hl 0 rfl) ?_
    refine lv_bipush (v := (nI 57)) hx hb dX8_isDigit_7 (by decide) ?_
    refine lv_icmp_gt (tgt := 16) hx hb dX8_isDigit_9 (by decide) (fun q => ?_) (fun q => ?_)
    · have h := zi_t q h
      refine lv_iconst (v := (nI 0)) hx hb dX8_isDigit_16 (by decide) ?_
      exact zr_z hY P0 hx hb hr hlocks (by decide) h Z dX8_isDigit_17
    · have h := zi_f q h
      refine lv_iconst (v := (nI 1)) hx hb dX8_isDigit_12 (by decide) ?_
      refine lv_goto (tgt := 17) hx hb dX8_isDigit_13 (by decide) ?_
      exact zr_z hY P0 hx hb hr hlocks (by decide) h Z dX8_isDigit_17

set_option maxHeartbeats 4000000 in
set_option maxRecDepth 100000 in
theorem kX8_isLetter {g : zG} (l : Launch) (hO : zinjX g) (a0 : Int32) (S : zSt) (r : Int32) (S' : zSt) (h : fX8_isLetter a0 S = some (r, S')) : zMi (zYX g) l yX8_isLetter vX8_isLetter { frames := 0, cells := 0, slots := 0, locals := 0 } ([.int a0] : List Value) S r S' := by
  have hY := zOkX hO
  refine Met.ofW (cc := cX8_isLetter) (maxL := 1) (ret := (some .boolean)) (by decide) rfl ?_
  intro p e s m args below meth c s₁ B hml hv
  obtain ⟨rfl, hP⟩ := hv
  have hx := B.exec
  have hb := B.bytes
  have hr := B.returns
  have hts := atoms_spec (ws := vX8_isLetter) B.pre
  have hT : ∀ w ∈ zTB, w.before ([.int a0] : List Value).toArray s = true := fun w h => hts w (List.mem_cons_of_mem _ h)
  have hown : s.vm.findClass RX8 = some m.cls := findClass_of_methodNamed B.named
  have hlocks := B.notSynchronized
  have P0 := hP.2
  have Z : zZ (zYX g) S s s.heap [] := ⟨hP.1, va_S.rf⟩
  have hl := lv_entry ([.int a0] : List Value) (n := 1) (Nat.le_of_ble_eq_true rfl)
  rw [lg_entry_eq]
  generalize (lg_sl ([.int a0] : List Value) ++ List.replicate (1 - (lg_sl ([.int a0] : List Value)).length) Slot.unset).toArray = ls at hl ⊢
  have hl : lv_has ls 1 [(0, .int a0)] := hl
  unfold fX8_isLetter at h
  refine lv_iload_n hx hb dX8_isLetter_0 rfl (lv_at hl 0 rfl) ?_
  refine lv_bipush (v := (nI 97)) hx hb dX8_isLetter_1 (by decide) ?_
  refine lv_icmp_lt (tgt := 16) hx hb dX8_isLetter_3 (by decide) (fun q => ?_) (fun q => ?_)
  · have h := zi_t q h
    refine lv_iconst (v := (nI 0)) hx hb dX8_isLetter_16 (by decide) ?_
    exact zr_z hY P0 hx hb hr hlocks (by decide) h Z dX8_isLetter_17
  · have h := zi_f q h
    refine lv_iload_n hx hb dX8_isLetter_6 rfl (lv_at hl 0 rfl) ?_
    refine lv_bipush (v := (nI 122)) hx hb dX8_isLetter_7 (by decide) ?_
    refine lv_icmp_gt (tgt := 16) hx hb dX8_isLetter_9 (by decide) (fun q => ?_) (fun q => ?_)
    · have h := zi_t q h
      refine lv_iconst (v := (nI 0)) hx hb dX8_isLetter_16 (by decide) ?_
      exact zr_z hY P0 hx hb hr hlocks (by decide) h Z dX8_isLetter_17
    · have h := zi_f q h
      refine lv_iconst (v := (nI 1)) hx hb dX8_isLetter_12 (by decide) ?_
      refine lv_goto (tgt := 17) hx hb dX8_isLetter_13 (by decide) ?_
      exact zr_z hY P0 hx hb hr hlocks (by decide) h Z dX8_isLetter_17

set_option maxHeartbeats 4000000 in
set_option maxRecDepth 100000 in
theorem kX8_signOf {g : zG} (l : Launch) (hO : zinjX g) (a0 : Int32) (S : zSt) (r : Int32) (S' : zSt) (h : fX8_signOf a0 S = some (r, S')) : zMi (zYX g) l yX8_signOf vX8_signOf { frames := 0, cells := 0, slots := 0, locals := 0 } ([.int a0] : List Value) S r S' := by
  have hY := zOkX hO
  refine Met.ofW (cc := cX8_signOf) (maxL := 1) (ret := (some .int)) (by decide) rfl ?_
  intro p e s m args below meth c s₁ B hml hv
  obtain ⟨rfl, hP⟩ := hv
  have hx := B.exec
  have hb := B.bytes
  have hr := B.returns
  have hts := atoms_spec (ws := vX8_signOf) B.pre
  have hT : ∀ w ∈ zTB, w.before ([.int a0] : List Value).toArray s = true := fun w h => hts w (List.mem_cons_of_mem _ h)
  have hown : s.vm.findClass RX8 = some m.cls := findClass_of_methodNamed B.named
  have hlocks := B.notSynchronized
  have P0 := hP.2
  have Z : zZ (zYX g) S s s.heap [] := ⟨hP.1, va_S.rf⟩
  have hl := lv_entry ([.int a0] : List Value) (n := 1) (Nat.le_of_ble_eq_true rfl)
  rw [lg_entry_eq]
  generalize (lg_sl ([.int a0] : List Value) ++ List.replicate (1 - (lg_sl ([.int a0] : List Value)).length) Slot.unset).toArray = ls at hl ⊢
  have hl : lv_has ls 1 [(0, .int a0)] := hl
  unfold fX8_signOf at h
  refine lv_iload_n hx hb dX8_signOf_0 rfl (lv_at hl 0 rfl) ?_
  by_cases q40 : a0 = (nI 40)
  · have h := zi_t q40 h
    refine zlkp (off := 49) (tgt := 50) hx hb q40 dX8_signOf_1 (by decide) (by decide) (by decide) ?_
    refine lv_bipush (v := (nI 8)) hx hb dX8_signOf_50 (by decide) ?_
    exact zr_i hY P0 hx hb hr hlocks h Z dX8_signOf_52
  have h := zi_f q40 h
  by_cases q41 : a0 = (nI 41)
  · have h := zi_t q41 h
    refine zlkp (off := 52) (tgt := 53) hx hb q41 dX8_signOf_1 (by decide) (by decide) (by decide) ?_
    refine lv_bipush (v := (nI 9)) hx hb dX8_signOf_53 (by decide) ?_
    exact zr_i hY P0 hx hb hr hlocks h Z dX8_signOf_55
  have h := zi_f q41 h
  by_cases q59 : a0 = (nI 59)
  · have h := zi_t q59 h
    refine zlkp (off := 46) (tgt := 47) hx hb q59 dX8_signOf_1 (by decide) (by decide) (by decide) ?_
    refine lv_bipush (v := (nI 7)) hx hb dX8_signOf_47 (by decide) ?_
    exact zr_i hY P0 hx hb hr hlocks h Z dX8_signOf_49
  have h := zi_f q59 h
  by_cases q61 : a0 = (nI 61)
  · have h := zi_t q61 h
    refine zlkp (off := 43) (tgt := 44) hx hb q61 dX8_signOf_1 (by decide) (by decide) (by decide) ?_
    refine lv_bipush (v := (nI 6)) hx hb dX8_signOf_44 (by decide) ?_
    exact zr_i hY P0 hx hb hr hlocks h Z dX8_signOf_46
  have h := zi_f q61 h
  refine lv_lookup (off := 55) (tgt := 56) hx hb dX8_signOf_1 (by decide) (by show Op.lookupswitch.offset _ _ _ = _; rw [lv_osw q40 (by decide), lv_osw q41 (by decide), lv_osw q59 (by decide), lv_osw q61 (by decide)]; rfl) (by decide) ?_
  refine lv_bipush (v := (nI 10)) hx hb dX8_signOf_56 (by decide) ?_
  exact zr_i hY P0 hx hb hr hlocks h Z dX8_signOf_58

set_option maxHeartbeats 4000000 in
set_option maxRecDepth 100000 in
theorem kX8_takeNumber {g : zG} (l : Launch) (hO : zinjX g) (S : zSt) (r : Unit) (S' : zSt) (h : fX8_takeNumber S = some (r, S')) : zMv (zYX g) l yX8_takeNumber vX8_takeNumber { frames := 1, cells := 0, slots := 0, locals := 21 } ([.ref (zad g 4)] : List Value) S S' := by
  have hY := zOkX hO
  refine Met.ofW (cc := cX8_takeNumber) (maxL := 1) (ret := none) (by decide) rfl ?_
  intro p e s m args below meth c s₁ B hml hv
  obtain ⟨rfl, hP⟩ := hv
  have hx := B.exec
  have hb := B.bytes
  have hr := B.returns
  have hts := atoms_spec (ws := vX8_takeNumber) B.pre
  have hT : ∀ w ∈ zTB, w.before ([.ref (zad g 4)] : List Value).toArray s = true := fun w h => hts w (List.mem_cons_of_mem _ h)
  have hown : s.vm.findClass RX8 = some m.cls := findClass_of_methodNamed B.named
  have hlocks := B.notSynchronized
  have P0 := hP.2
  have Z : zZ (zYX g) S s s.heap [] := ⟨hP.1, va_S.rf⟩
  have hf : ∀ w ∈ u_ws RX8 TX8 7, w.before ([.ref (zad g 4)] : List Value).toArray s = true := fun w hw => hT w (mU_X8 w hw)
  have L25 := hT _ mF_X8_25
  have L15 := hT _ mF_X8_15
  have L32 := hT _ mF_X8_32
  have L22 := hT _ mF_X8_22
  have L19 := hT _ mF_X8_19
  have B75 : ∀ (S : zSt), fX8_takeNumber_75 S = some (r, S') → ∀ (H : Heap) (locs : List Loc), zZ (zYX g) S s H locs → ∀ ls : Array Slot, lv_has ls 1 [(0, .ref (zad g 4))] → W p l e (headSpec vX8_takeNumber { frames := 1, cells := 0, slots := 0, locals := 21 }).room s m ([.ref (zad g 4)] : List Value).toArray below meth c H locs 0 0 (MQ below (zQv (zYX g) S') ([.ref (zad g 4)] : List Value).toArray s 0 0 (zYX g).2.2.1) (F0 m 75 ls []) := by
    intro S h H locs Z ls hl
    unfold fX8_takeNumber_75 at h
    refine lv_aload_n hx hb dX8_takeNumber_75 rfl (lv_at hl 0 rfl) ?_
    refine lv_aload_n hx hb dX8_takeNumber_76 rfl (lv_at hl 0 rfl) ?_
    refine zgX8_2 (v := (zI S 10)) hx hb hf hown P0 Z L15 rfl dX8_takeNumber_77 ?_
    refine lv_aload_n hx hb dX8_takeNumber_80 rfl (lv_at hl 0 rfl) ?_
    refine zgX8_4 (v := (zI S 12)) hx hb hf hown P0 Z L22 rfl dX8_takeNumber_81 ?_
    refine lv_isub hx hb dX8_takeNumber_84 ?_
    refine lv_bipush (v := (nI 9)) hx hb dX8_takeNumber_85 (by decide) ?_
    refine lv_icmp_gt (tgt := 94) hx hb dX8_takeNumber_87 (by decide) (fun q => ?_) (fun q => ?_)
    · have h := zi_t q h
      refine lv_bipush (v := (nI 10)) hx hb dX8_takeNumber_94 (by decide) ?_
      refine zpX8_3 hO hx hb hf hown P0 Z L19 dX8_takeNumber_96 (fun H locs Z => ?_)
      exact zr_v hY P0 hx hb hr hlocks h Z dX8_takeNumber_99
    · have h := zi_f q h
      refine lv_iconst (v := (nI 1)) hx hb dX8_takeNumber_90 (by decide) ?_
      refine lv_goto (tgt := 96) hx hb dX8_takeNumber_91 (by decide) ?_
      refine zpX8_3 hO hx hb hf hown P0 Z L19 dX8_takeNumber_96 (fun H locs Z => ?_)
      exact zr_v hY P0 hx hb hr hlocks h Z dX8_takeNumber_99
  have B5 : ∀ (n : Nat) (S : zSt), fX8_takeNumber_5L n S = some (r, S') → ∀ (H : Heap) (locs : List Loc), zZ (zYX g) S s H locs → ∀ ls : Array Slot, lv_has ls 1 [(0, .ref (zad g 4))] → W p l e (headSpec vX8_takeNumber { frames := 1, cells := 0, slots := 0, locals := 21 }).room s m ([.ref (zad g 4)] : List Value).toArray below meth c H locs 0 0 (MQ below (zQv (zYX g) S') ([.ref (zad g 4)] : List Value).toArray s 0 0 (zYX g).2.2.1) (F0 m 5 ls []) := by
    intro n
    induction n with
    | zero => intro S h; exact absurd h (fun h => nomatch h)
    | succ n K5 =>
      intro S h H locs Z ls hl
      have h : fX8_takeNumber_5 (fX8_takeNumber_5L n) S = some (r, S') := h
      unfold fX8_takeNumber_5 at h
      refine lv_aload_n hx hb dX8_takeNumber_5 rfl (lv_at hl 0 rfl) ?_
      refine zgX8_2 (v := (zI S 10)) hx hb hf hown P0 Z L15 rfl dX8_takeNumber_6 ?_
      refine lv_aload_n hx hb dX8_takeNumber_9 rfl (lv_at hl 0 rfl) ?_
      refine zgX8_0 hx hb hf hown P0 Z L32 dX8_takeNumber_10 ?_
      obtain ⟨r1, S2, ec, h⟩ := zbd_s h
      refine zc_Vi hY P0 ⟨hx, hb, hml, hown, hT⟩ (As := []) (rest := [.int (zI S 10)]) (kX7_size l hO  S r1 S2 ec) (cwV 0 hT (zgV mL_X8_48 mI_X7_size mS_X7_size mN_X7 mC_X7_size) rfl rfl rfl hdnX7_size ⟨Nat.le_of_ble_eq_true rfl, Nat.le_of_ble_eq_true rfl⟩) (zrecX_1 P0 Z) Z rfl hl.1 rfl (Nat.le_of_ble_eq_true rfl) dX8_takeNumber_13 (fun H locs Z => ?_)
      refine lv_icmp_ge (tgt := 75) hx hb dX8_takeNumber_16 (by decide) (fun q => ?_) (fun q => ?_)
      · have h := zi_t q h
        exact B75 S2 h _ _ Z ls (lv_sub hl [0] rfl)
      · have h := zi_f q h
        refine lv_aload_n hx hb dX8_takeNumber_19 rfl (lv_at hl 0 rfl) ?_
        refine zgX8_0 hx hb hf hown P0 Z L32 dX8_takeNumber_20 ?_
        refine lv_aload_n hx hb dX8_takeNumber_23 rfl (lv_at hl 0 rfl) ?_
        refine zgX8_2 (v := (zI S2 10)) hx hb hf hown P0 Z L15 rfl dX8_takeNumber_24 ?_
        obtain ⟨r3, S4, ec, h⟩ := zbd_s h
        refine zc_Vi hY P0 ⟨hx, hb, hml, hown, hT⟩ (As := [.int (zI S2 10)]) (rest := []) (kX7_byteAt l hO (zI S2 10) S2 r3 S4 ec) (cwV 1 hT (zgV mL_X8_56 mI_X7_byteAt mS_X7_byteAt mN_X7 mC_X7_byteAt) rfl rfl rfl hdnX7_byteAt ⟨Nat.le_of_ble_eq_true rfl, Nat.le_of_ble_eq_true rfl⟩) (zrecX_1 P0 Z) Z rfl hl.1 rfl (Nat.le_of_ble_eq_true rfl) dX8_takeNumber_27 (fun H locs Z => ?_)
        obtain ⟨r5, S6, ec, h⟩ := zbd_s h
        refine zc_Si hY P0 ⟨hx, hb, hml, hown, hT⟩ (As := [.int r3]) (rest := []) (kX8_isDigit l hO r3 S4 r5 S6 ec) (va_cwS 1 hT (zgS mL_X8_60 mT_X8_isDigit mN_X8 mC_X8_isDigit) rfl rfl rfl hdnX8_isDigit ⟨Nat.le_of_ble_eq_true rfl, Nat.le_of_ble_eq_true rfl⟩) Z rfl hl.1 rfl (Nat.le_of_ble_eq_true rfl) dX8_takeNumber_30 (fun H locs Z => ?_)
        refine lv_if_eq (tgt := 75) hx hb dX8_takeNumber_33 (by decide) (fun q => ?_) (fun q => ?_)
        · have h := zi_t q h
          exact B75 S6 h _ _ Z ls (lv_sub hl [0] rfl)
        · have h := zi_f q h
          refine lv_aload_n hx hb dX8_takeNumber_36 rfl (lv_at hl 0 rfl) ?_
          refine lv_aload_n hx hb dX8_takeNumber_37 rfl (lv_at hl 0 rfl) ?_
          refine zgX8_5 (v := (zI S6 13)) hx hb hf hown P0 Z L25 rfl dX8_takeNumber_38 ?_
          refine lv_bipush (v := (nI 10)) hx hb dX8_takeNumber_41 (by decide) ?_
          refine lv_imul hx hb dX8_takeNumber_43 ?_
          refine lv_aload_n hx hb dX8_takeNumber_44 rfl (lv_at hl 0 rfl) ?_
          refine zgX8_0 hx hb hf hown P0 Z L32 dX8_takeNumber_45 ?_
          refine lv_aload_n hx hb dX8_takeNumber_48 rfl (lv_at hl 0 rfl) ?_
          refine zgX8_2 (v := (zI S6 10)) hx hb hf hown P0 Z L15 rfl dX8_takeNumber_49 ?_
          obtain ⟨r7, S8, ec, h⟩ := zbd_s h
          refine zc_Vi hY P0 ⟨hx, hb, hml, hown, hT⟩ (As := [.int (zI S6 10)]) (rest := [.int ((zI S6 13) * (nI 10)), .ref (zad g 4)]) (kX7_byteAt l hO (zI S6 10) S6 r7 S8 ec) (cwV 1 hT (zgV mL_X8_56 mI_X7_byteAt mS_X7_byteAt mN_X7 mC_X7_byteAt) rfl rfl rfl hdnX7_byteAt ⟨Nat.le_of_ble_eq_true rfl, Nat.le_of_ble_eq_true rfl⟩) (zrecX_1 P0 Z) Z rfl hl.1 rfl (Nat.le_of_ble_eq_true rfl) dX8_takeNumber_52 (fun H locs Z => ?_)
          refine lv_iadd hx hb dX8_takeNumber_55 ?_
          refine lv_bipush (v := (nI 48)) hx hb dX8_takeNumber_56 (by decide) ?_
          refine lv_isub hx hb dX8_takeNumber_58 ?_
          refine zpX8_5 hO hx hb hf hown P0 Z L25 dX8_takeNumber_59 (fun H locs Z => ?_)
          refine lv_aload_n hx hb dX8_takeNumber_62 rfl (lv_at hl 0 rfl) ?_
          refine lv_dup hx hb dX8_takeNumber_63 rfl ?_
          refine zgX8_2 (v := (zI S8 10)) hx hb hf hown P0 Z L15 rfl dX8_takeNumber_64 ?_
          refine lv_iconst (v := (nI 1)) hx hb dX8_takeNumber_67 (by decide) ?_
          refine lv_iadd hx hb dX8_takeNumber_68 ?_
          refine zpX8_2 hO hx hb hf hown P0 Z L15 dX8_takeNumber_69 (fun H locs Z => ?_)
          refine lv_goto (tgt := 5) hx hb dX8_takeNumber_72 (by decide) ?_
          exact K5 (wI (wI S8 13 ((((zI S6 13) * (nI 10)) + r7) - (nI 48))) 10 ((zI S8 10) + (nI 1))) h _ _ Z ls (lv_sub hl [0] rfl)
  have hl := lv_entry ([.ref (zad g 4)] : List Value) (n := 1) (Nat.le_of_ble_eq_true rfl)
  rw [lg_entry_eq]
  generalize (lg_sl ([.ref (zad g 4)] : List Value) ++ List.replicate (1 - (lg_sl ([.ref (zad g 4)] : List Value)).length) Slot.unset).toArray = ls at hl ⊢
  have hl : lv_has ls 1 [(0, .ref (zad g 4))] := hl
  unfold fX8_takeNumber at h
  refine lv_aload_n hx hb dX8_takeNumber_0 rfl (lv_at hl 0 rfl) ?_
  refine lv_iconst (v := (nI 0)) hx hb dX8_takeNumber_1 (by decide) ?_
  refine zpX8_5 hO hx hb hf hown P0 Z L25 dX8_takeNumber_2 (fun H locs Z => ?_)
  exact B5 zFU (wI S 13 (nI 0)) h _ _ Z ls (lv_sub hl [0] rfl)

set_option maxHeartbeats 4000000 in
set_option maxRecDepth 100000 in
theorem kX8_isLetterOrDigit {g : zG} (l : Launch) (hO : zinjX g) (a0 : Int32) (S : zSt) (r : Int32) (S' : zSt) (h : fX8_isLetterOrDigit a0 S = some (r, S')) : zMi (zYX g) l yX8_isLetterOrDigit vX8_isLetterOrDigit { frames := 0, cells := 0, slots := 0, locals := 0 } ([.int a0] : List Value) S r S' := by
  have hY := zOkX hO
  refine Met.ofW (cc := cX8_isLetterOrDigit) (maxL := 1) (ret := (some .boolean)) (by decide) rfl ?_
  intro p e s m args below meth c s₁ B hml hv
  obtain ⟨rfl, hP⟩ := hv
  have hx := B.exec
  have hb := B.bytes
  have hr := B.returns
  have hts := atoms_spec (ws := vX8_isLetterOrDigit) B.pre
  have hT : ∀ w ∈ zTB, w.before ([.int a0] : List Value).toArray s = true := fun w h => hts w (List.mem_cons_of_mem _ h)
  have hown : s.vm.findClass RX8 = some m.cls := findClass_of_methodNamed B.named
  have hlocks := B.notSynchronized
  have P0 := hP.2
  have Z : zZ (zYX g) S s s.heap [] := ⟨hP.1, va_S.rf⟩
  have B12 : ∀ (x0 : Int32) (S : zSt), fX8_isLetterOrDigit_12 x0 S = some (r, S') → ∀ (H : Heap) (locs : List Loc), zZ (zYX g) S s H locs → ∀ ls : Array Slot, lv_has ls 1 [(0, .int x0)] → W p l e (headSpec vX8_isLetterOrDigit { frames := 0, cells := 0, slots := 0, locals := 0 }).room s m ([.int a0] : List Value).toArray below meth c H locs 0 0 (MQ below (zQi (zYX g) r S') ([.int a0] : List Value).toArray s 0 0 (zYX g).2.2.1) (F0 m 12 ls []) := by
    intro x0 S h H locs Z ls hl
    unfold fX8_isLetterOrDigit_12 at h
    refine lv_iload_n hx hb dX8_isLetterOrDigit_12 rfl (lv_at hl 0 rfl) ?_
    refine lv_bipush (v := (nI 48)) hx hb dX8_isLetterOrDigit_13 (by decide) ?_
    refine lv_icmp_lt (tgt := 28) hx hb dX8_isLetterOrDigit_15 (by decide) (fun q => ?_) (fun q => ?_)
    · have h := zi_t q h
      refine lv_iconst (v := (nI 0)) hx hb dX8_isLetterOrDigit_28 (by decide) ?_
      exact zr_z hY P0 hx hb hr hlocks (by decide) h Z dX8_isLetterOrDigit_29
    · have h := zi_f q h
      refine lv_iload_n hx hb dX8_isLetterOrDigit_18 rfl (lv_at hl 0 rfl) ?_
      refine lv_bipush (v := (nI 57)) hx hb dX8_isLetterOrDigit_19 (by decide) ?_
      refine lv_icmp_gt (tgt := 28) hx hb dX8_isLetterOrDigit_21 (by decide) (fun q => ?_) (fun q => ?_)
      · have h := zi_t q h
        refine lv_iconst (v := (nI 0)) hx hb dX8_isLetterOrDigit_28 (by decide) ?_
        exact zr_z hY P0 hx hb hr hlocks (by decide) h Z dX8_isLetterOrDigit_29
      · have h := zi_f q h
        refine lv_iconst (v := (nI 1)) hx hb dX8_isLetterOrDigit_24 (by decide) ?_
        refine lv_goto (tgt := 29) hx hb dX8_isLetterOrDigit_25 (by decide) ?_
        exact zr_z hY P0 hx hb hr hlocks (by decide) h Z dX8_isLetterOrDigit_29
  have hl := lv_entry ([.int a0] : List Value) (n := 1) (Nat.le_of_ble_eq_true rfl)
  rw [lg_entry_eq]
  generalize (lg_sl ([.int a0] : List Value) ++ List.replicate (1 - (lg_sl ([.int a0] : List Value)).length) Slot.unset).toArray = ls at hl ⊢
  have hl : lv_has ls 1 [(0, .int a0)] := hl
  unfold fX8_isLetterOrDigit at h
  refine lv_iload_n hx hb dX8_isLetterOrDigit_0 rfl (lv_at hl 0 rfl) ?_
  refine lv_bipush (v := (nI 97)) hx hb dX8_isLetterOrDigit_1 (by decide) ?_
  refine lv_icmp_lt (tgt := 12) hx hb dX8_isLetterOrDigit_3 (by decide) (fun q => ?_) (fun q => ?_)
  · have h := zi_t q h
    exact B12 a0 S h _ _ Z ls (lv_sub hl [0] rfl)
  · have h := zi_f q h
    refine lv_iload_n hx hb dX8_isLetterOrDigit_6 rfl (lv_at hl 0 rfl) ?_
    refine lv_bipush (v := (nI 122)) hx hb dX8_isLetterOrDigit_7 (by decide) ?_
    refine lv_icmp_le (tgt := 24) hx hb dX8_isLetterOrDigit_9 (by decide) (fun q => ?_) (fun q => ?_)
    · have h := zi_t q h
      refine lv_iconst (v := (nI 1)) hx hb dX8_isLetterOrDigit_24 (by decide) ?_
      refine lv_goto (tgt := 29) hx hb dX8_isLetterOrDigit_25 (by decide) ?_
      exact zr_z hY P0 hx hb hr hlocks (by decide) h Z dX8_isLetterOrDigit_29
    · have h := zi_f q h
      exact B12 a0 S h _ _ Z ls (lv_sub hl [0] rfl)

set_option maxHeartbeats 4000000 in
set_option maxRecDepth 100000 in
theorem kX8_kindOfWord {g : zG} (l : Launch) (hO : zinjX g) (S : zSt) (r : Int32) (S' : zSt) (h : fX8_kindOfWord S = some (r, S')) : zMi (zYX g) l yX8_kindOfWord vX8_kindOfWord { frames := 0, cells := 0, slots := 0, locals := 0 } ([.ref (zad g 4)] : List Value) S r S' := by
  have hY := zOkX hO
  refine Met.ofW (cc := cX8_kindOfWord) (maxL := 2) (ret := (some .int)) (by decide) rfl ?_
  intro p e s m args below meth c s₁ B hml hv
  obtain ⟨rfl, hP⟩ := hv
  have hx := B.exec
  have hb := B.bytes
  have hr := B.returns
  have hts := atoms_spec (ws := vX8_kindOfWord) B.pre
  have hT : ∀ w ∈ zTB, w.before ([.ref (zad g 4)] : List Value).toArray s = true := fun w h => hts w (List.mem_cons_of_mem _ h)
  have hown : s.vm.findClass RX8 = some m.cls := findClass_of_methodNamed B.named
  have hlocks := B.notSynchronized
  have P0 := hP.2
  have Z : zZ (zYX g) S s s.heap [] := ⟨hP.1, va_S.rf⟩
  have hf : ∀ w ∈ u_ws RX8 TX8 7, w.before ([.ref (zad g 4)] : List Value).toArray s = true := fun w hw => hT w (mU_X8 w hw)
  have L11 := hT _ mF_X8_11
  have L28 := hT _ mF_X8_28
  have L25 := hT _ mF_X8_25
  have B2 : ∀ (n : Nat) (x1 : Int32) (S : zSt), fX8_kindOfWord_2L n (x1, S) = some (r, S') → ∀ (H : Heap) (locs : List Loc), zZ (zYX g) S s H locs → ∀ ls : Array Slot, lv_has ls 2 [(0, .ref (zad g 4)), (1, .int x1)] → W p l e (headSpec vX8_kindOfWord { frames := 0, cells := 0, slots := 0, locals := 0 }).room s m ([.ref (zad g 4)] : List Value).toArray below meth c H locs 0 0 (MQ below (zQi (zYX g) r S') ([.ref (zad g 4)] : List Value).toArray s 0 0 (zYX g).2.2.1) (F0 m 2 ls []) := by
    intro n
    induction n with
    | zero => intro x1 S h; exact absurd h (fun h => nomatch h)
    | succ n K2 =>
      intro x1 S h H locs Z ls hl
      have h : fX8_kindOfWord_2 (fX8_kindOfWord_2L n) x1 S = some (r, S') := h
      unfold fX8_kindOfWord_2 at h
      refine lv_iload_n hx hb dX8_kindOfWord_2 rfl (lv_at hl 1 rfl) ?_
      refine lv_aload_n hx hb dX8_kindOfWord_3 rfl (lv_at hl 0 rfl) ?_
      refine zgX8_1 hx hb hf hown P0 Z L11 dX8_kindOfWord_4 ?_
      refine zaX_24 hx hb P0 Z dX8_kindOfWord_7 ?_
      refine lv_icmp_ge (tgt := 58) hx hb dX8_kindOfWord_8 (by decide) (fun q => ?_) (fun q => ?_)
      · have h := zi_t q h
        refine lv_iconst (v := (nI 2)) hx hb dX8_kindOfWord_58 (by decide) ?_
        exact zr_i hY P0 hx hb hr hlocks h Z dX8_kindOfWord_59
      · have h := zi_f q h
        refine lv_aload_n hx hb dX8_kindOfWord_11 rfl (lv_at hl 0 rfl) ?_
        refine zgX8_1 hx hb hf hown P0 Z L11 dX8_kindOfWord_12 ?_
        refine lv_iload_n hx hb dX8_kindOfWord_15 rfl (lv_at hl 1 rfl) ?_
        obtain ⟨v1, ev, hin, h⟩ := zld_s h
        refine zlX_24 hx hb P0 Z ev hin dX8_kindOfWord_16 ?_
        refine lv_aload_n hx hb dX8_kindOfWord_17 rfl (lv_at hl 0 rfl) ?_
        refine zgX8_6 (v := (zL S 0)) hx hb hf hown P0 Z L28 rfl dX8_kindOfWord_18 ?_
        refine W.lcmp hx hb dX8_kindOfWord_21 ?_
        refine lv_if_ne (tgt := 52) hx hb dX8_kindOfWord_22 (by decide) (fun q => ?_) (fun q => ?_)
        · have h := zi_f q h
          refine lv_iinc (v := (x1 + (nI 1))) (lv' := [(1, .int (x1 + (nI 1))), (0, .ref (zad g 4))]) hx hb dX8_kindOfWord_52 hl (k := 1) rfl rfl (by decide) rfl (fun ls hl => ?_)
          refine lv_goto (tgt := 2) hx hb dX8_kindOfWord_55 (by decide) ?_
          exact K2 (x1 + (nI 1)) S h _ _ Z ls (lv_sub hl [1, 0] rfl)
        · have h := zi_t q h
          refine lv_aload_n hx hb dX8_kindOfWord_25 rfl (lv_at hl 0 rfl) ?_
          refine lv_iload_n hx hb dX8_kindOfWord_26 rfl (lv_at hl 1 rfl) ?_
          refine zpX8_5 hO hx hb hf hown P0 Z L25 dX8_kindOfWord_27 (fun H locs Z => ?_)
          refine lv_iload_n hx hb dX8_kindOfWord_30 rfl (lv_at hl 1 rfl) ?_
          refine lv_bipush (v := (nI 13)) hx hb dX8_kindOfWord_31 (by decide) ?_
          refine lv_icmp_ge (tgt := 40) hx hb dX8_kindOfWord_33 (by decide) (fun q => ?_) (fun q => ?_)
          · have h := zi_t q h
            refine lv_iload_n hx hb dX8_kindOfWord_40 rfl (lv_at hl 1 rfl) ?_
            refine lv_bipush (v := (nI 13)) hx hb dX8_kindOfWord_41 (by decide) ?_
            refine lv_icmp_ne (tgt := 50) hx hb dX8_kindOfWord_43 (by decide) (fun q => ?_) (fun q => ?_)
            · have h := zi_f q h
              refine lv_iconst (v := (nI 5)) hx hb dX8_kindOfWord_50 (by decide) ?_
              exact zr_i hY P0 hx hb hr hlocks h Z dX8_kindOfWord_51
            · have h := zi_t q h
              refine lv_iconst (v := (nI 4)) hx hb dX8_kindOfWord_46 (by decide) ?_
              refine lv_goto (tgt := 51) hx hb dX8_kindOfWord_47 (by decide) ?_
              exact zr_i hY P0 hx hb hr hlocks h Z dX8_kindOfWord_51
          · have h := zi_f q h
            refine lv_iconst (v := (nI 3)) hx hb dX8_kindOfWord_36 (by decide) ?_
            refine lv_goto (tgt := 51) hx hb dX8_kindOfWord_37 (by decide) ?_
            exact zr_i hY P0 hx hb hr hlocks h Z dX8_kindOfWord_51
  have hl := lv_entry ([.ref (zad g 4)] : List Value) (n := 2) (Nat.le_of_ble_eq_true rfl)
  rw [lg_entry_eq]
  generalize (lg_sl ([.ref (zad g 4)] : List Value) ++ List.replicate (2 - (lg_sl ([.ref (zad g 4)] : List Value)).length) Slot.unset).toArray = ls at hl ⊢
  have hl : lv_has ls 2 [(0, .ref (zad g 4))] := hl
  unfold fX8_kindOfWord at h
  refine lv_iconst (v := (nI 0)) hx hb dX8_kindOfWord_0 (by decide) ?_
  refine lv_istore_n (lv' := [(1, .int (nI 0)), (0, .ref (zad g 4))]) hx hb dX8_kindOfWord_1 rfl hl (by decide) rfl (fun ls hl => ?_)
  exact B2 zFU (nI 0) S h _ _ Z ls (lv_sub hl [1, 0] rfl)

set_option maxHeartbeats 4000000 in
set_option maxRecDepth 100000 in
theorem kX8_takeWord {g : zG} (l : Launch) (hO : zinjX g) (S : zSt) (r : Unit) (S' : zSt) (h : fX8_takeWord S = some (r, S')) : zMv (zYX g) l yX8_takeWord vX8_takeWord { frames := 1, cells := 0, slots := 0, locals := 21 } ([.ref (zad g 4)] : List Value) S S' := by
  have hY := zOkX hO
  refine Met.ofW (cc := cX8_takeWord) (maxL := 1) (ret := none) (by decide) rfl ?_
  intro p e s m args below meth c s₁ B hml hv
  obtain ⟨rfl, hP⟩ := hv
  have hx := B.exec
  have hb := B.bytes
  have hr := B.returns
  have hts := atoms_spec (ws := vX8_takeWord) B.pre
  have hT : ∀ w ∈ zTB, w.before ([.ref (zad g 4)] : List Value).toArray s = true := fun w h => hts w (List.mem_cons_of_mem _ h)
  have hown : s.vm.findClass RX8 = some m.cls := findClass_of_methodNamed B.named
  have hlocks := B.notSynchronized
  have P0 := hP.2
  have Z : zZ (zYX g) S s s.heap [] := ⟨hP.1, va_S.rf⟩
  have hf : ∀ w ∈ u_ws RX8 TX8 7, w.before ([.ref (zad g 4)] : List Value).toArray s = true := fun w hw => hT w (mU_X8 w hw)
  have L28 := hT _ mF_X8_28
  have L15 := hT _ mF_X8_15
  have L32 := hT _ mF_X8_32
  have L22 := hT _ mF_X8_22
  have L19 := hT _ mF_X8_19
  have B73 : ∀ (S : zSt), fX8_takeWord_73 S = some (r, S') → ∀ (H : Heap) (locs : List Loc), zZ (zYX g) S s H locs → ∀ ls : Array Slot, lv_has ls 1 [(0, .ref (zad g 4))] → W p l e (headSpec vX8_takeWord { frames := 1, cells := 0, slots := 0, locals := 21 }).room s m ([.ref (zad g 4)] : List Value).toArray below meth c H locs 0 0 (MQ below (zQv (zYX g) S') ([.ref (zad g 4)] : List Value).toArray s 0 0 (zYX g).2.2.1) (F0 m 73 ls []) := by
    intro S h H locs Z ls hl
    unfold fX8_takeWord_73 at h
    refine lv_aload_n hx hb dX8_takeWord_73 rfl (lv_at hl 0 rfl) ?_
    refine lv_aload_n hx hb dX8_takeWord_74 rfl (lv_at hl 0 rfl) ?_
    refine zgX8_2 (v := (zI S 10)) hx hb hf hown P0 Z L15 rfl dX8_takeWord_75 ?_
    refine lv_aload_n hx hb dX8_takeWord_78 rfl (lv_at hl 0 rfl) ?_
    refine zgX8_4 (v := (zI S 12)) hx hb hf hown P0 Z L22 rfl dX8_takeWord_79 ?_
    refine lv_isub hx hb dX8_takeWord_82 ?_
    refine lv_bipush (v := (nI 8)) hx hb dX8_takeWord_83 (by decide) ?_
    refine lv_icmp_gt (tgt := 95) hx hb dX8_takeWord_85 (by decide) (fun q => ?_) (fun q => ?_)
    · have h := zi_t q h
      refine lv_bipush (v := (nI 10)) hx hb dX8_takeWord_95 (by decide) ?_
      refine zpX8_3 hO hx hb hf hown P0 Z L19 dX8_takeWord_97 (fun H locs Z => ?_)
      exact zr_v hY P0 hx hb hr hlocks h Z dX8_takeWord_100
    · have h := zi_f q h
      refine lv_aload_n hx hb dX8_takeWord_88 rfl (lv_at hl 0 rfl) ?_
      obtain ⟨r9, S10, ec, h⟩ := zbd_s h
      refine zc_Vi hY P0 ⟨hx, hb, hml, hown, hT⟩ (As := []) (rest := [.ref (zad g 4)]) (kX8_kindOfWord l hO  S r9 S10 ec) (cwV 0 hT (zgV mL_X8_79 mI_X8_kindOfWord mS_X8_kindOfWord mN_X8 mC_X8_kindOfWord) rfl rfl rfl hdnX8_kindOfWord ⟨Nat.le_of_ble_eq_true rfl, Nat.le_of_ble_eq_true rfl⟩) (zrecX_4 P0 Z) Z rfl hl.1 rfl (Nat.le_of_ble_eq_true rfl) dX8_takeWord_89 (fun H locs Z => ?_)
      refine lv_goto (tgt := 97) hx hb dX8_takeWord_92 (by decide) ?_
      refine zpX8_3 hO hx hb hf hown P0 Z L19 dX8_takeWord_97 (fun H locs Z => ?_)
      exact zr_v hY P0 hx hb hr hlocks h Z dX8_takeWord_100
  have B5 : ∀ (n : Nat) (S : zSt), fX8_takeWord_5L n S = some (r, S') → ∀ (H : Heap) (locs : List Loc), zZ (zYX g) S s H locs → ∀ ls : Array Slot, lv_has ls 1 [(0, .ref (zad g 4))] → W p l e (headSpec vX8_takeWord { frames := 1, cells := 0, slots := 0, locals := 21 }).room s m ([.ref (zad g 4)] : List Value).toArray below meth c H locs 0 0 (MQ below (zQv (zYX g) S') ([.ref (zad g 4)] : List Value).toArray s 0 0 (zYX g).2.2.1) (F0 m 5 ls []) := by
    intro n
    induction n with
    | zero => intro S h; exact absurd h (fun h => nomatch h)
    | succ n K5 =>
      intro S h H locs Z ls hl
      have h : fX8_takeWord_5 (fX8_takeWord_5L n) S = some (r, S') := h
      unfold fX8_takeWord_5 at h
      refine lv_aload_n hx hb dX8_takeWord_5 rfl (lv_at hl 0 rfl) ?_
      refine zgX8_2 (v := (zI S 10)) hx hb hf hown P0 Z L15 rfl dX8_takeWord_6 ?_
      refine lv_aload_n hx hb dX8_takeWord_9 rfl (lv_at hl 0 rfl) ?_
      refine zgX8_0 hx hb hf hown P0 Z L32 dX8_takeWord_10 ?_
      obtain ⟨r1, S2, ec, h⟩ := zbd_s h
      refine zc_Vi hY P0 ⟨hx, hb, hml, hown, hT⟩ (As := []) (rest := [.int (zI S 10)]) (kX7_size l hO  S r1 S2 ec) (cwV 0 hT (zgV mL_X8_48 mI_X7_size mS_X7_size mN_X7 mC_X7_size) rfl rfl rfl hdnX7_size ⟨Nat.le_of_ble_eq_true rfl, Nat.le_of_ble_eq_true rfl⟩) (zrecX_1 P0 Z) Z rfl hl.1 rfl (Nat.le_of_ble_eq_true rfl) dX8_takeWord_13 (fun H locs Z => ?_)
      refine lv_icmp_ge (tgt := 73) hx hb dX8_takeWord_16 (by decide) (fun q => ?_) (fun q => ?_)
      · have h := zi_t q h
        exact B73 S2 h _ _ Z ls (lv_sub hl [0] rfl)
      · have h := zi_f q h
        refine lv_aload_n hx hb dX8_takeWord_19 rfl (lv_at hl 0 rfl) ?_
        refine zgX8_0 hx hb hf hown P0 Z L32 dX8_takeWord_20 ?_
        refine lv_aload_n hx hb dX8_takeWord_23 rfl (lv_at hl 0 rfl) ?_
        refine zgX8_2 (v := (zI S2 10)) hx hb hf hown P0 Z L15 rfl dX8_takeWord_24 ?_
        obtain ⟨r3, S4, ec, h⟩ := zbd_s h
        refine zc_Vi hY P0 ⟨hx, hb, hml, hown, hT⟩ (As := [.int (zI S2 10)]) (rest := []) (kX7_byteAt l hO (zI S2 10) S2 r3 S4 ec) (cwV 1 hT (zgV mL_X8_56 mI_X7_byteAt mS_X7_byteAt mN_X7 mC_X7_byteAt) rfl rfl rfl hdnX7_byteAt ⟨Nat.le_of_ble_eq_true rfl, Nat.le_of_ble_eq_true rfl⟩) (zrecX_1 P0 Z) Z rfl hl.1 rfl (Nat.le_of_ble_eq_true rfl) dX8_takeWord_27 (fun H locs Z => ?_)
        obtain ⟨r5, S6, ec, h⟩ := zbd_s h
        refine zc_Si hY P0 ⟨hx, hb, hml, hown, hT⟩ (As := [.int r3]) (rest := []) (kX8_isLetterOrDigit l hO r3 S4 r5 S6 ec) (va_cwS 1 hT (zgS mL_X8_76 mT_X8_isLetterOrDigit mN_X8 mC_X8_isLetterOrDigit) rfl rfl rfl hdnX8_isLetterOrDigit ⟨Nat.le_of_ble_eq_true rfl, Nat.le_of_ble_eq_true rfl⟩) Z rfl hl.1 rfl (Nat.le_of_ble_eq_true rfl) dX8_takeWord_30 (fun H locs Z => ?_)
        refine lv_if_eq (tgt := 73) hx hb dX8_takeWord_33 (by decide) (fun q => ?_) (fun q => ?_)
        · have h := zi_t q h
          exact B73 S6 h _ _ Z ls (lv_sub hl [0] rfl)
        · have h := zi_f q h
          refine lv_aload_n hx hb dX8_takeWord_36 rfl (lv_at hl 0 rfl) ?_
          refine lv_aload_n hx hb dX8_takeWord_37 rfl (lv_at hl 0 rfl) ?_
          refine zgX8_6 (v := (zL S6 0)) hx hb hf hown P0 Z L28 rfl dX8_takeWord_38 ?_
          refine lv_bipush (v := (nI 8)) hx hb dX8_takeWord_41 (by decide) ?_
          refine lv_lshl (v := ((zL S6 0) <<< ((nI 8).toInt64 &&& 63))) hx hb dX8_takeWord_43 rfl ?_
          refine lv_aload_n hx hb dX8_takeWord_44 rfl (lv_at hl 0 rfl) ?_
          refine zgX8_0 hx hb hf hown P0 Z L32 dX8_takeWord_45 ?_
          refine lv_aload_n hx hb dX8_takeWord_48 rfl (lv_at hl 0 rfl) ?_
          refine zgX8_2 (v := (zI S6 10)) hx hb hf hown P0 Z L15 rfl dX8_takeWord_49 ?_
          obtain ⟨r7, S8, ec, h⟩ := zbd_s h
          refine zc_Vi hY P0 ⟨hx, hb, hml, hown, hT⟩ (As := [.int (zI S6 10)]) (rest := [.long ((zL S6 0) <<< ((nI 8).toInt64 &&& 63)), .ref (zad g 4)]) (kX7_byteAt l hO (zI S6 10) S6 r7 S8 ec) (cwV 1 hT (zgV mL_X8_56 mI_X7_byteAt mS_X7_byteAt mN_X7 mC_X7_byteAt) rfl rfl rfl hdnX7_byteAt ⟨Nat.le_of_ble_eq_true rfl, Nat.le_of_ble_eq_true rfl⟩) (zrecX_1 P0 Z) Z rfl hl.1 rfl (Nat.le_of_ble_eq_true rfl) dX8_takeWord_52 (fun H locs Z => ?_)
          refine lv_i2l hx hb dX8_takeWord_55 rfl ?_
          refine lv_lor hx hb dX8_takeWord_56 ?_
          refine zpX8_6 hO hx hb hf hown P0 Z L28 dX8_takeWord_57 (fun H locs Z => ?_)
          refine lv_aload_n hx hb dX8_takeWord_60 rfl (lv_at hl 0 rfl) ?_
          refine lv_dup hx hb dX8_takeWord_61 rfl ?_
          refine zgX8_2 (v := (zI S8 10)) hx hb hf hown P0 Z L15 rfl dX8_takeWord_62 ?_
          refine lv_iconst (v := (nI 1)) hx hb dX8_takeWord_65 (by decide) ?_
          refine lv_iadd hx hb dX8_takeWord_66 ?_
          refine zpX8_2 hO hx hb hf hown P0 Z L15 dX8_takeWord_67 (fun H locs Z => ?_)
          refine lv_goto (tgt := 5) hx hb dX8_takeWord_70 (by decide) ?_
          exact K5 (wI (wL S8 0 (((zL S6 0) <<< ((nI 8).toInt64 &&& 63)) ||| r7.toInt64)) 10 ((zI S8 10) + (nI 1))) h _ _ Z ls (lv_sub hl [0] rfl)
  have hl := lv_entry ([.ref (zad g 4)] : List Value) (n := 1) (Nat.le_of_ble_eq_true rfl)
  rw [lg_entry_eq]
  generalize (lg_sl ([.ref (zad g 4)] : List Value) ++ List.replicate (1 - (lg_sl ([.ref (zad g 4)] : List Value)).length) Slot.unset).toArray = ls at hl ⊢
  have hl : lv_has ls 1 [(0, .ref (zad g 4))] := hl
  unfold fX8_takeWord at h
  refine lv_aload_n hx hb dX8_takeWord_0 rfl (lv_at hl 0 rfl) ?_
  refine lv_lconst (v := (0 : Int64)) hx hb dX8_takeWord_1 (by decide) ?_
  refine zpX8_6 hO hx hb hf hown P0 Z L28 dX8_takeWord_2 (fun H locs Z => ?_)
  exact B5 zFU (wL S 0 (0 : Int64)) h _ _ Z ls (lv_sub hl [0] rfl)

set_option maxHeartbeats 4000000 in
set_option maxRecDepth 100000 in
theorem kX8_advance {g : zG} (l : Launch) (hO : zinjX g) (S : zSt) (r : Unit) (S' : zSt) (h : fX8_advance S = some (r, S')) : zMv (zYX g) l yX8_advance vX8_advance { frames := 2, cells := 0, slots := 0, locals := 41 } ([.ref (zad g 4)] : List Value) S S' := by
  have hY := zOkX hO
  refine Met.ofW (cc := cX8_advance) (maxL := 2) (ret := none) (by decide) rfl ?_
  intro p e s m args below meth c s₁ B hml hv
  obtain ⟨rfl, hP⟩ := hv
  have hx := B.exec
  have hb := B.bytes
  have hr := B.returns
  have hts := atoms_spec (ws := vX8_advance) B.pre
  have hT : ∀ w ∈ zTB, w.before ([.ref (zad g 4)] : List Value).toArray s = true := fun w h => hts w (List.mem_cons_of_mem _ h)
  have hown : s.vm.findClass RX8 = some m.cls := findClass_of_methodNamed B.named
  have hlocks := B.notSynchronized
  have P0 := hP.2
  have Z : zZ (zYX g) S s s.heap [] := ⟨hP.1, va_S.rf⟩
  have hf : ∀ w ∈ u_ws RX8 TX8 7, w.before ([.ref (zad g 4)] : List Value).toArray s = true := fun w hw => hT w (mU_X8 w hw)
  have L32 := hT _ mF_X8_32
  have L15 := hT _ mF_X8_15
  have L22 := hT _ mF_X8_22
  have L19 := hT _ mF_X8_19
  have B38 : ∀ (k12 : Int32 × zSt → Option (Unit × zSt)) (K12 : (∀ (x1 : Int32) (S : zSt), k12 (x1, S) = some (r, S') → ∀ (H : Heap) (locs : List Loc), zZ (zYX g) S s H locs → ∀ ls : Array Slot, lv_has ls 2 [(0, .ref (zad g 4)), (1, .int x1)] → W p l e (headSpec vX8_advance { frames := 2, cells := 0, slots := 0, locals := 41 }).room s m ([.ref (zad g 4)] : List Value).toArray below meth c H locs 0 0 (MQ below (zQv (zYX g) S') ([.ref (zad g 4)] : List Value).toArray s 0 0 (zYX g).2.2.1) (F0 m 12 ls []))) (S : zSt), fX8_advance_38 k12 S = some (r, S') → ∀ (H : Heap) (locs : List Loc), zZ (zYX g) S s H locs → ∀ ls : Array Slot, lv_has ls 2 [(0, .ref (zad g 4))] → W p l e (headSpec vX8_advance { frames := 2, cells := 0, slots := 0, locals := 41 }).room s m ([.ref (zad g 4)] : List Value).toArray below meth c H locs 0 0 (MQ below (zQv (zYX g) S') ([.ref (zad g 4)] : List Value).toArray s 0 0 (zYX g).2.2.1) (F0 m 38 ls []) := by
    intro k12 K12 S h H locs Z ls hl
    unfold fX8_advance_38 at h
    refine lv_aload_n hx hb dX8_advance_38 rfl (lv_at hl 0 rfl) ?_
    refine lv_dup hx hb dX8_advance_39 rfl ?_
    refine zgX8_2 (v := (zI S 10)) hx hb hf hown P0 Z L15 rfl dX8_advance_40 ?_
    refine lv_iconst (v := (nI 1)) hx hb dX8_advance_43 (by decide) ?_
    refine lv_iadd hx hb dX8_advance_44 ?_
    refine zpX8_2 hO hx hb hf hown P0 Z L15 dX8_advance_45 (fun H locs Z => ?_)
    refine lv_aload_n hx hb dX8_advance_48 rfl (lv_at hl 0 rfl) ?_
    refine zgX8_0 hx hb hf hown P0 Z L32 dX8_advance_49 ?_
    refine lv_aload_n hx hb dX8_advance_52 rfl (lv_at hl 0 rfl) ?_
    refine zgX8_2 (v := ((zI S 10) + (nI 1))) hx hb hf hown P0 Z L15 rfl dX8_advance_53 ?_
    obtain ⟨r5, S6, ec, h⟩ := zbd_s h
    refine zc_Vi hY P0 ⟨hx, hb, hml, hown, hT⟩ (As := [.int ((zI S 10) + (nI 1))]) (rest := []) (kX7_byteAt l hO ((zI S 10) + (nI 1)) (wI S 10 ((zI S 10) + (nI 1))) r5 S6 ec) (cwV 1 hT (zgV mL_X8_56 mI_X7_byteAt mS_X7_byteAt mN_X7 mC_X7_byteAt) rfl rfl rfl hdnX7_byteAt ⟨Nat.le_of_ble_eq_true rfl, Nat.le_of_ble_eq_true rfl⟩) (zrecX_1 P0 Z) Z rfl hl.1 rfl (Nat.le_of_ble_eq_true rfl) dX8_advance_56 (fun H locs Z => ?_)
    refine lv_istore_n (lv' := [(1, .int r5), (0, .ref (zad g 4))]) hx hb dX8_advance_59 rfl hl (by decide) rfl (fun ls hl => ?_)
    refine lv_goto (tgt := 12) hx hb dX8_advance_60 (by decide) ?_
    exact K12 r5 S6 h _ _ Z ls (lv_sub hl [1, 0] rfl)
  have B63 : ∀ (x1 : Int32) (S : zSt), fX8_advance_63 x1 S = some (r, S') → ∀ (H : Heap) (locs : List Loc), zZ (zYX g) S s H locs → ∀ ls : Array Slot, lv_has ls 2 [(0, .ref (zad g 4)), (1, .int x1)] → W p l e (headSpec vX8_advance { frames := 2, cells := 0, slots := 0, locals := 41 }).room s m ([.ref (zad g 4)] : List Value).toArray below meth c H locs 0 0 (MQ below (zQv (zYX g) S') ([.ref (zad g 4)] : List Value).toArray s 0 0 (zYX g).2.2.1) (F0 m 63 ls []) := by
    intro x1 S h H locs Z ls hl
    unfold fX8_advance_63 at h
    refine lv_aload_n hx hb dX8_advance_63 rfl (lv_at hl 0 rfl) ?_
    refine lv_aload_n hx hb dX8_advance_64 rfl (lv_at hl 0 rfl) ?_
    refine zgX8_2 (v := (zI S 10)) hx hb hf hown P0 Z L15 rfl dX8_advance_65 ?_
    refine zpX8_4 hO hx hb hf hown P0 Z L22 dX8_advance_68 (fun H locs Z => ?_)
    refine lv_iload_n hx hb dX8_advance_71 rfl (lv_at hl 1 rfl) ?_
    refine lv_iconst (v := (-1 : Int32)) hx hb dX8_advance_72 (by decide) ?_
    refine lv_icmp_ne (tgt := 84) hx hb dX8_advance_73 (by decide) (fun q => ?_) (fun q => ?_)
    · have h := zi_f q h
      refine lv_iload_n hx hb dX8_advance_84 rfl (lv_at hl 1 rfl) ?_
      obtain ⟨r7, S8, ec, h⟩ := zbd_s h
      refine zc_Si hY P0 ⟨hx, hb, hml, hown, hT⟩ (As := [.int x1]) (rest := []) (kX8_isDigit l hO x1 (wI S 12 (zI S 10)) r7 S8 ec) (va_cwS 1 hT (zgS mL_X8_60 mT_X8_isDigit mN_X8 mC_X8_isDigit) rfl rfl rfl hdnX8_isDigit ⟨Nat.le_of_ble_eq_true rfl, Nat.le_of_ble_eq_true rfl⟩) Z rfl hl.1 rfl (Nat.le_of_ble_eq_true rfl) dX8_advance_85 (fun H locs Z => ?_)
      refine lv_if_eq (tgt := 98) hx hb dX8_advance_88 (by decide) (fun q => ?_) (fun q => ?_)
      · have h := zi_t q h
        refine lv_iload_n hx hb dX8_advance_98 rfl (lv_at hl 1 rfl) ?_
        obtain ⟨r9, S10, ec, h⟩ := zbd_s h
        refine zc_Si hY P0 ⟨hx, hb, hml, hown, hT⟩ (As := [.int x1]) (rest := []) (kX8_isLetter l hO x1 S8 r9 S10 ec) (va_cwS 1 hT (zgS mL_X8_67 mT_X8_isLetter mN_X8 mC_X8_isLetter) rfl rfl rfl hdnX8_isLetter ⟨Nat.le_of_ble_eq_true rfl, Nat.le_of_ble_eq_true rfl⟩) Z rfl hl.1 rfl (Nat.le_of_ble_eq_true rfl) dX8_advance_99 (fun H locs Z => ?_)
        refine lv_if_eq (tgt := 112) hx hb dX8_advance_102 (by decide) (fun q => ?_) (fun q => ?_)
        · have h := zi_t q h
          refine lv_aload_n hx hb dX8_advance_112 rfl (lv_at hl 0 rfl) ?_
          refine lv_iload_n hx hb dX8_advance_113 rfl (lv_at hl 1 rfl) ?_
          obtain ⟨r11, S12, ec, h⟩ := zbd_s h
          refine zc_Si hY P0 ⟨hx, hb, hml, hown, hT⟩ (As := [.int x1]) (rest := [.ref (zad g 4)]) (kX8_signOf l hO x1 S10 r11 S12 ec) (va_cwS 1 hT (zgS mL_X8_73 mT_X8_signOf mN_X8 mC_X8_signOf) rfl rfl rfl hdnX8_signOf ⟨Nat.le_of_ble_eq_true rfl, Nat.le_of_ble_eq_true rfl⟩) Z rfl hl.1 rfl (Nat.le_of_ble_eq_true rfl) dX8_advance_114 (fun H locs Z => ?_)
          refine zpX8_3 hO hx hb hf hown P0 Z L19 dX8_advance_117 (fun H locs Z => ?_)
          refine lv_aload_n hx hb dX8_advance_120 rfl (lv_at hl 0 rfl) ?_
          refine lv_dup hx hb dX8_advance_121 rfl ?_
          refine zgX8_2 (v := (zI S12 10)) hx hb hf hown P0 Z L15 rfl dX8_advance_122 ?_
          refine lv_iconst (v := (nI 1)) hx hb dX8_advance_125 (by decide) ?_
          refine lv_iadd hx hb dX8_advance_126 ?_
          refine zpX8_2 hO hx hb hf hown P0 Z L15 dX8_advance_127 (fun H locs Z => ?_)
          exact zr_v hY P0 hx hb hr hlocks h Z dX8_advance_130
        · have h := zi_f q h
          refine lv_aload_n hx hb dX8_advance_105 rfl (lv_at hl 0 rfl) ?_
          obtain ⟨r13, S14, ec, h⟩ := zbd_s h
          refine zc_Vv hY P0 ⟨hx, hb, hml, hown, hT⟩ (As := []) (rest := []) (kX8_takeWord l hO  S10 r13 S14 ec) (cwV 0 hT (zgV mL_X8_70 mI_X8_takeWord mS_X8_takeWord mN_X8 mC_X8_takeWord) rfl rfl rfl hdnX8_takeWord ⟨Nat.le_of_ble_eq_true rfl, Nat.le_of_ble_eq_true rfl⟩) (zrecX_4 P0 Z) Z rfl hl.1 rfl (Nat.le_of_ble_eq_true rfl) dX8_advance_106 (fun H locs Z => ?_)
          refine lv_goto (tgt := 130) hx hb dX8_advance_109 (by decide) ?_
          exact zr_v hY P0 hx hb hr hlocks h Z dX8_advance_130
      · have h := zi_f q h
        refine lv_aload_n hx hb dX8_advance_91 rfl (lv_at hl 0 rfl) ?_
        obtain ⟨r15, S16, ec, h⟩ := zbd_s h
        refine zc_Vv hY P0 ⟨hx, hb, hml, hown, hT⟩ (As := []) (rest := []) (kX8_takeNumber l hO  S8 r15 S16 ec) (cwV 0 hT (zgV mL_X8_64 mI_X8_takeNumber mS_X8_takeNumber mN_X8 mC_X8_takeNumber) rfl rfl rfl hdnX8_takeNumber ⟨Nat.le_of_ble_eq_true rfl, Nat.le_of_ble_eq_true rfl⟩) (zrecX_4 P0 Z) Z rfl hl.1 rfl (Nat.le_of_ble_eq_true rfl) dX8_advance_92 (fun H locs Z => ?_)
        refine lv_goto (tgt := 130) hx hb dX8_advance_95 (by decide) ?_
        exact zr_v hY P0 hx hb hr hlocks h Z dX8_advance_130
    · have h := zi_t q h
      refine lv_aload_n hx hb dX8_advance_76 rfl (lv_at hl 0 rfl) ?_
      refine lv_iconst (v := (nI 0)) hx hb dX8_advance_77 (by decide) ?_
      refine zpX8_3 hO hx hb hf hown P0 Z L19 dX8_advance_78 (fun H locs Z => ?_)
      refine lv_goto (tgt := 130) hx hb dX8_advance_81 (by decide) ?_
      exact zr_v hY P0 hx hb hr hlocks h Z dX8_advance_130
  have B12 : ∀ (n : Nat) (x1 : Int32) (S : zSt), fX8_advance_12L n (x1, S) = some (r, S') → ∀ (H : Heap) (locs : List Loc), zZ (zYX g) S s H locs → ∀ ls : Array Slot, lv_has ls 2 [(0, .ref (zad g 4)), (1, .int x1)] → W p l e (headSpec vX8_advance { frames := 2, cells := 0, slots := 0, locals := 41 }).room s m ([.ref (zad g 4)] : List Value).toArray below meth c H locs 0 0 (MQ below (zQv (zYX g) S') ([.ref (zad g 4)] : List Value).toArray s 0 0 (zYX g).2.2.1) (F0 m 12 ls []) := by
    intro n
    induction n with
    | zero => intro x1 S h; exact absurd h (fun h => nomatch h)
    | succ n K12 =>
      intro x1 S h H locs Z ls hl
      have h : fX8_advance_12 (fX8_advance_12L n) x1 S = some (r, S') := h
      unfold fX8_advance_12 at h
      refine lv_aload_n hx hb dX8_advance_12 rfl (lv_at hl 0 rfl) ?_
      refine zgX8_2 (v := (zI S 10)) hx hb hf hown P0 Z L15 rfl dX8_advance_13 ?_
      refine lv_aload_n hx hb dX8_advance_16 rfl (lv_at hl 0 rfl) ?_
      refine zgX8_0 hx hb hf hown P0 Z L32 dX8_advance_17 ?_
      obtain ⟨r3, S4, ec, h⟩ := zbd_s h
      refine zc_Vi hY P0 ⟨hx, hb, hml, hown, hT⟩ (As := []) (rest := [.int (zI S 10)]) (kX7_size l hO  S r3 S4 ec) (cwV 0 hT (zgV mL_X8_48 mI_X7_size mS_X7_size mN_X7 mC_X7_size) rfl rfl rfl hdnX7_size ⟨Nat.le_of_ble_eq_true rfl, Nat.le_of_ble_eq_true rfl⟩) (zrecX_1 P0 Z) Z rfl hl.1 rfl (Nat.le_of_ble_eq_true rfl) dX8_advance_20 (fun H locs Z => ?_)
      refine lv_icmp_ge (tgt := 63) hx hb dX8_advance_23 (by decide) (fun q => ?_) (fun q => ?_)
      · have h := zi_t q h
        exact B63 x1 S4 h _ _ Z ls (lv_sub hl [0, 1] rfl)
      · have h := zi_f q h
        refine lv_iload_n hx hb dX8_advance_26 rfl (lv_at hl 1 rfl) ?_
        refine lv_bipush (v := (nI 32)) hx hb dX8_advance_27 (by decide) ?_
        refine lv_icmp_eq (tgt := 38) hx hb dX8_advance_29 (by decide) (fun q => ?_) (fun q => ?_)
        · have h := zi_t q h
          exact B38 (fX8_advance_12L n) K12 S4 h _ _ Z ls (lv_sub hl [0] rfl)
        · have h := zi_f q h
          refine lv_iload_n hx hb dX8_advance_32 rfl (lv_at hl 1 rfl) ?_
          refine lv_bipush (v := (nI 10)) hx hb dX8_advance_33 (by decide) ?_
          refine lv_icmp_ne (tgt := 63) hx hb dX8_advance_35 (by decide) (fun q => ?_) (fun q => ?_)
          · have h := zi_f q h
            exact B63 x1 S4 h _ _ Z ls (lv_sub hl [0, 1] rfl)
          · have h := zi_t q h
            exact B38 (fX8_advance_12L n) K12 S4 h _ _ Z ls (lv_sub hl [0] rfl)
  have hl := lv_entry ([.ref (zad g 4)] : List Value) (n := 2) (Nat.le_of_ble_eq_true rfl)
  rw [lg_entry_eq]
  generalize (lg_sl ([.ref (zad g 4)] : List Value) ++ List.replicate (2 - (lg_sl ([.ref (zad g 4)] : List Value)).length) Slot.unset).toArray = ls at hl ⊢
  have hl : lv_has ls 2 [(0, .ref (zad g 4))] := hl
  unfold fX8_advance at h
  refine lv_aload_n hx hb dX8_advance_0 rfl (lv_at hl 0 rfl) ?_
  refine zgX8_0 hx hb hf hown P0 Z L32 dX8_advance_1 ?_
  refine lv_aload_n hx hb dX8_advance_4 rfl (lv_at hl 0 rfl) ?_
  refine zgX8_2 (v := (zI S 10)) hx hb hf hown P0 Z L15 rfl dX8_advance_5 ?_
  obtain ⟨r1, S2, ec, h⟩ := zbd_s h
  refine zc_Vi hY P0 ⟨hx, hb, hml, hown, hT⟩ (As := [.int (zI S 10)]) (rest := []) (kX7_byteAt l hO (zI S 10) S r1 S2 ec) (cwV 1 hT (zgV mL_X8_56 mI_X7_byteAt mS_X7_byteAt mN_X7 mC_X7_byteAt) rfl rfl rfl hdnX7_byteAt ⟨Nat.le_of_ble_eq_true rfl, Nat.le_of_ble_eq_true rfl⟩) (zrecX_1 P0 Z) Z rfl hl.1 rfl (Nat.le_of_ble_eq_true rfl) dX8_advance_8 (fun H locs Z => ?_)
  refine lv_istore_n (lv' := [(1, .int r1), (0, .ref (zad g 4))]) hx hb dX8_advance_11 rfl hl (by decide) rfl (fun ls hl => ?_)
  exact B12 zFU r1 S2 h _ _ Z ls (lv_sub hl [1, 0] rfl)

set_option maxHeartbeats 4000000 in
set_option maxRecDepth 100000 in
theorem kX5_take {g : zG} (l : Launch) (hO : zinjX g) (a1 : Int32) (S : zSt) (r : Int32) (S' : zSt) (h : fX5_take a1 S = some (r, S')) : zMi (zYX g) l yX5_take vX5_take { frames := 3, cells := 0, slots := 0, locals := 62 } ([.ref (zad g 3), .int a1] : List Value) S r S' := by
  have hY := zOkX hO
  refine Met.ofW (cc := cX5_take) (maxL := 2) (ret := (some .boolean)) (by decide) rfl ?_
  intro p e s m args below meth c s₁ B hml hv
  obtain ⟨rfl, hP⟩ := hv
  have hx := B.exec
  have hb := B.bytes
  have hr := B.returns
  have hts := atoms_spec (ws := vX5_take) B.pre
  have hT : ∀ w ∈ zTB, w.before ([.ref (zad g 3), .int a1] : List Value).toArray s = true := fun w h => hts w (List.mem_cons_of_mem _ h)
  have hown : s.vm.findClass RX5 = some m.cls := findClass_of_methodNamed B.named
  have hlocks := B.notSynchronized
  have P0 := hP.2
  have Z : zZ (zYX g) S s s.heap [] := ⟨hP.1, va_S.rf⟩
  have hf : ∀ w ∈ u_ws RX5 TX5 6, w.before ([.ref (zad g 3), .int a1] : List Value).toArray s = true := fun w hw => hT w (mU_X5 w hw)
  have L25 := hT _ mF_X5_25
  have hl := lv_entry ([.ref (zad g 3), .int a1] : List Value) (n := 2) (Nat.le_of_ble_eq_true rfl)
  rw [lg_entry_eq]
  generalize (lg_sl ([.ref (zad g 3), .int a1] : List Value) ++ List.replicate (2 - (lg_sl ([.ref (zad g 3), .int a1] : List Value)).length) Slot.unset).toArray = ls at hl ⊢
  have hl : lv_has ls 2 [(0, .ref (zad g 3)), (1, .int a1)] := hl
  unfold fX5_take at h
  refine lv_aload_n hx hb dX5_take_0 rfl (lv_at hl 0 rfl) ?_
  refine zgX5_0 hx hb hf hown P0 Z L25 dX5_take_1 ?_
  obtain ⟨r1, S2, ec, h⟩ := zbd_s h
  refine zc_Vi hY P0 ⟨hx, hb, hml, hown, hT⟩ (As := []) (rest := []) (kX8_kind l hO  S r1 S2 ec) (cwV 0 hT (zgV mL_X5_47 mI_X8_kind mS_X8_kind mN_X8 mC_X8_kind) rfl rfl rfl hdnX8_kind ⟨Nat.le_of_ble_eq_true rfl, Nat.le_of_ble_eq_true rfl⟩) (zrecX_4 P0 Z) Z rfl hl.1 rfl (Nat.le_of_ble_eq_true rfl) dX5_take_4 (fun H locs Z => ?_)
  refine lv_iload_n hx hb dX5_take_7 rfl (lv_at hl 1 rfl) ?_
  refine lv_icmp_eq (tgt := 16) hx hb dX5_take_8 (by decide) (fun q => ?_) (fun q => ?_)
  · have h := zi_t q h
    refine lv_aload_n hx hb dX5_take_16 rfl (lv_at hl 0 rfl) ?_
    refine zgX5_0 hx hb hf hown P0 Z L25 dX5_take_17 ?_
    obtain ⟨r3, S4, ec, h⟩ := zbd_s h
    refine zc_Vv hY P0 ⟨hx, hb, hml, hown, hT⟩ (As := []) (rest := []) (kX8_advance l hO  S2 r3 S4 ec) (cwV 0 hT (zgV mL_X5_94 mI_X8_advance mS_X8_advance mN_X8 mC_X8_advance) rfl rfl rfl hdnX8_advance ⟨Nat.le_of_ble_eq_true rfl, Nat.le_of_ble_eq_true rfl⟩) (zrecX_4 P0 Z) Z rfl hl.1 rfl (Nat.le_of_ble_eq_true rfl) dX5_take_20 (fun H locs Z => ?_)
    refine lv_iconst (v := (nI 1)) hx hb dX5_take_23 (by decide) ?_
    exact zr_z hY P0 hx hb hr hlocks (by decide) h Z dX5_take_24
  · have h := zi_f q h
    refine lv_aload_n hx hb dX5_take_11 rfl (lv_at hl 0 rfl) ?_
    obtain ⟨r5, S6, ec, h⟩ := zbd_s h
    refine zc_Vi hY P0 ⟨hx, hb, hml, hown, hT⟩ (As := []) (rest := []) (kX5_cannotStand l hO  S2 r5 S6 ec) (cwV 0 hT (zgV mL_X5_77 mI_X5_cannotStand mS_X5_cannotStand mN_X5 mC_X5_cannotStand) rfl rfl rfl hdnX5_cannotStand ⟨Nat.le_of_ble_eq_true rfl, Nat.le_of_ble_eq_true rfl⟩) (zrecX_3 P0 Z) Z rfl hl.1 rfl (Nat.le_of_ble_eq_true rfl) dX5_take_12 (fun H locs Z => ?_)
    obtain ⟨hn, h⟩ := zbo_s h
    exact zr_z hY P0 hx hb hr hlocks hn h Z dX5_take_15

set_option maxHeartbeats 4000000 in
set_option maxRecDepth 100000 in
theorem kX5_readWithin {g : zG} (l : Launch) (hO : zinjX g) (oE : Int32 → zSt → Option (Int32 × zSt)) (F G : Nat) (hE : ∀ (x1 : Int32) (S : zSt) (r : Int32) (S' : zSt), oE x1 S = some (r, S') → zMi (zYX g) l yX5_readExpr vX5_readExpr { frames := F, cells := 0, slots := 0, locals := G } ([.ref (zad g 3), .int x1] : List Value) S r S') (a1 : Int32) (S : zSt) (r : Int32) (S' : zSt) (h : fX5_readWithin oE a1 S = some (r, S')) : zMi (zYX g) l yX5_readWithin vX5_readWithin { frames := F + 4, cells := 0, slots := 0, locals := G + 83 } ([.ref (zad g 3), .int a1] : List Value) S r S' := by
  have hY := zOkX hO
  refine Met.ofW (cc := cX5_readWithin) (maxL := 2) (ret := (some .boolean)) (by decide) rfl ?_
  intro p e s m args below meth c s₁ B hml hv
  obtain ⟨rfl, hP⟩ := hv
  have hx := B.exec
  have hb := B.bytes
  have hr := B.returns
  have hts := atoms_spec (ws := vX5_readWithin) B.pre
  have hT : ∀ w ∈ zTB, w.before ([.ref (zad g 3), .int a1] : List Value).toArray s = true := fun w h => hts w (List.mem_cons_of_mem _ h)
  have hown : s.vm.findClass RX5 = some m.cls := findClass_of_methodNamed B.named
  have hlocks := B.notSynchronized
  have P0 := hP.2
  have Z : zZ (zYX g) S s s.heap [] := ⟨hP.1, va_S.rf⟩
  have hf : ∀ w ∈ u_ws RX5 TX5 6, w.before ([.ref (zad g 3), .int a1] : List Value).toArray s = true := fun w hw => hT w (mU_X5 w hw)
  have L25 := hT _ mF_X5_25
  have hl := lv_entry ([.ref (zad g 3), .int a1] : List Value) (n := 2) (Nat.le_of_ble_eq_true rfl)
  rw [lg_entry_eq]
  generalize (lg_sl ([.ref (zad g 3), .int a1] : List Value) ++ List.replicate (2 - (lg_sl ([.ref (zad g 3), .int a1] : List Value)).length) Slot.unset).toArray = ls at hl ⊢
  have hl : lv_has ls 2 [(0, .ref (zad g 3)), (1, .int a1)] := hl
  unfold fX5_readWithin at h
  refine lv_iload_n hx hb dX5_readWithin_0 rfl (lv_at hl 1 rfl) ?_
  refine lv_bipush (v := (nI 12)) hx hb dX5_readWithin_1 (by decide) ?_
  refine lv_icmp_lt (tgt := 19) hx hb dX5_readWithin_3 (by decide) (fun q => ?_) (fun q => ?_)
  · have h := zi_t q h
    refine lv_aload_n hx hb dX5_readWithin_19 rfl (lv_at hl 0 rfl) ?_
    refine zgX5_0 hx hb hf hown P0 Z L25 dX5_readWithin_20 ?_
    obtain ⟨r1, S2, ec, h⟩ := zbd_s h
    refine zc_Vv hY P0 ⟨hx, hb, hml, hown, hT⟩ (As := []) (rest := []) (kX8_advance l hO  S r1 S2 ec) (cwV 0 hT (zgV mL_X5_94 mI_X8_advance mS_X8_advance mN_X8 mC_X8_advance) rfl rfl rfl hdnX8_advance ⟨(by omega : 2 + 1 ≤ F + 4), (by omega : 8 + (2 + 11) + (41) ≤ G + 83)⟩) (zrecX_4 P0 Z) Z rfl hl.1 rfl (Nat.le_of_ble_eq_true rfl) dX5_readWithin_23 (fun H locs Z => ?_)
    refine lv_aload_n hx hb dX5_readWithin_26 rfl (lv_at hl 0 rfl) ?_
    refine lv_iload_n hx hb dX5_readWithin_27 rfl (lv_at hl 1 rfl) ?_
    refine lv_iconst (v := (nI 1)) hx hb dX5_readWithin_28 (by decide) ?_
    refine lv_iadd hx hb dX5_readWithin_29 ?_
    obtain ⟨r3, S4, ec, h⟩ := zbd_s h
    refine zc_Vi hY P0 ⟨hx, hb, hml, hown, hT⟩ (As := [.int (a1 + (nI 1))]) (rest := []) (hE (a1 + (nI 1)) S2 r3 S4 ec) (cwV 1 hT (zgV mL_X5_107 mI_X5_readExpr mS_X5_readExpr mN_X5 mC_X5_readExpr) rfl rfl rfl hdnX5_readExpr ⟨(by omega : F + 1 ≤ F + 4), (by omega : 8 + (2 + 11) + (G) ≤ G + 83)⟩) (zrecX_3 P0 Z) Z rfl hl.1 rfl (Nat.le_of_ble_eq_true rfl) dX5_readWithin_30 (fun H locs Z => ?_)
    refine lv_if_eq (tgt := 49) hx hb dX5_readWithin_33 (by decide) (fun q => ?_) (fun q => ?_)
    · have h := zi_t q h
      refine lv_iconst (v := (nI 0)) hx hb dX5_readWithin_49 (by decide) ?_
      exact zr_z hY P0 hx hb hr hlocks (by decide) h Z dX5_readWithin_50
    · have h := zi_f q h
      refine lv_aload_n hx hb dX5_readWithin_36 rfl (lv_at hl 0 rfl) ?_
      refine lv_bipush (v := (nI 9)) hx hb dX5_readWithin_37 (by decide) ?_
      obtain ⟨r5, S6, ec, h⟩ := zbd_s h
      refine zc_Vi hY P0 ⟨hx, hb, hml, hown, hT⟩ (As := [.int (nI 9)]) (rest := []) (kX5_take l hO (nI 9) S4 r5 S6 ec) (cwV 1 hT (zgV mL_X5_103 mI_X5_take mS_X5_take mN_X5 mC_X5_take) rfl rfl rfl hdnX5_take ⟨(by omega : 3 + 1 ≤ F + 4), (by omega : 8 + (2 + 11) + (62) ≤ G + 83)⟩) (zrecX_3 P0 Z) Z rfl hl.1 rfl (Nat.le_of_ble_eq_true rfl) dX5_readWithin_39 (fun H locs Z => ?_)
      refine lv_if_eq (tgt := 49) hx hb dX5_readWithin_42 (by decide) (fun q => ?_) (fun q => ?_)
      · have h := zi_t q h
        refine lv_iconst (v := (nI 0)) hx hb dX5_readWithin_49 (by decide) ?_
        exact zr_z hY P0 hx hb hr hlocks (by decide) h Z dX5_readWithin_50
      · have h := zi_f q h
        refine lv_iconst (v := (nI 1)) hx hb dX5_readWithin_45 (by decide) ?_
        refine lv_goto (tgt := 50) hx hb dX5_readWithin_46 (by decide) ?_
        exact zr_z hY P0 hx hb hr hlocks (by decide) h Z dX5_readWithin_50
  · have h := zi_f q h
    refine lv_aload_n hx hb dX5_readWithin_6 rfl (lv_at hl 0 rfl) ?_
    refine lv_iconst (v := (nI 3)) hx hb dX5_readWithin_7 (by decide) ?_
    refine lv_aload_n hx hb dX5_readWithin_8 rfl (lv_at hl 0 rfl) ?_
    refine zgX5_0 hx hb hf hown P0 Z L25 dX5_readWithin_9 ?_
    obtain ⟨r7, S8, ec, h⟩ := zbd_s h
    refine zc_Vi hY P0 ⟨hx, hb, hml, hown, hT⟩ (As := []) (rest := [.int (nI 3), .ref (zad g 3)]) (kX8_place l hO  S r7 S8 ec) (cwV 0 hT (zgV mL_X5_83 mI_X8_place mS_X8_place mN_X8 mC_X8_place) rfl rfl rfl hdnX8_place ⟨(by omega : 0 + 1 ≤ F + 4), (by omega : 8 + (1 + 11) + (0) ≤ G + 83)⟩) (zrecX_4 P0 Z) Z rfl hl.1 rfl (Nat.le_of_ble_eq_true rfl) dX5_readWithin_12 (fun H locs Z => ?_)
    obtain ⟨r9, S10, ec, h⟩ := zbd_s h
    refine zc_Vi hY P0 ⟨hx, hb, hml, hown, hT⟩ (As := [.int (nI 3), .int r7]) (rest := []) (kX5_fail l hO (nI 3) r7 S8 r9 S10 ec) (cwV 2 hT (zgV mL_X5_66 mI_X5_fail mS_X5_fail mN_X5 mC_X5_fail) rfl rfl rfl hdnX5_fail ⟨(by omega : 0 + 1 ≤ F + 4), (by omega : 8 + (3 + 11) + (0) ≤ G + 83)⟩) (zrecX_3 P0 Z) Z rfl hl.1 rfl (Nat.le_of_ble_eq_true rfl) dX5_readWithin_15 (fun H locs Z => ?_)
    obtain ⟨hn, h⟩ := zbo_s h
    exact zr_z hY P0 hx hb hr hlocks hn h Z dX5_readWithin_18

set_option maxHeartbeats 4000000 in
set_option maxRecDepth 100000 in
theorem kX8_name {g : zG} (l : Launch) (hO : zinjX g) (S : zSt) (r : Int64) (S' : zSt) (h : fX8_name S = some (r, S')) : zMl (zYX g) l yX8_name vX8_name { frames := 0, cells := 0, slots := 0, locals := 0 } ([.ref (zad g 4)] : List Value) S r S' := by
  have hY := zOkX hO
  refine Met.ofW (cc := cX8_name) (maxL := 1) (ret := (some .long)) (by decide) rfl ?_
  intro p e s m args below meth c s₁ B hml hv
  obtain ⟨rfl, hP⟩ := hv
  have hx := B.exec
  have hb := B.bytes
  have hr := B.returns
  have hts := atoms_spec (ws := vX8_name) B.pre
  have hT : ∀ w ∈ zTB, w.before ([.ref (zad g 4)] : List Value).toArray s = true := fun w h => hts w (List.mem_cons_of_mem _ h)
  have hown : s.vm.findClass RX8 = some m.cls := findClass_of_methodNamed B.named
  have hlocks := B.notSynchronized
  have P0 := hP.2
  have Z : zZ (zYX g) S s s.heap [] := ⟨hP.1, va_S.rf⟩
  have hf : ∀ w ∈ u_ws RX8 TX8 7, w.before ([.ref (zad g 4)] : List Value).toArray s = true := fun w hw => hT w (mU_X8 w hw)
  have L28 := hT _ mF_X8_28
  have hl := lv_entry ([.ref (zad g 4)] : List Value) (n := 1) (Nat.le_of_ble_eq_true rfl)
  rw [lg_entry_eq]
  generalize (lg_sl ([.ref (zad g 4)] : List Value) ++ List.replicate (1 - (lg_sl ([.ref (zad g 4)] : List Value)).length) Slot.unset).toArray = ls at hl ⊢
  have hl : lv_has ls 1 [(0, .ref (zad g 4))] := hl
  unfold fX8_name at h
  refine lv_aload_n hx hb dX8_name_0 rfl (lv_at hl 0 rfl) ?_
  refine zgX8_6 (v := (zL S 0)) hx hb hf hown P0 Z L28 rfl dX8_name_1 ?_
  exact zr_l hY P0 hx hb hr hlocks h Z dX8_name_4

set_option maxHeartbeats 4000000 in
set_option maxRecDepth 100000 in
theorem kX8_value {g : zG} (l : Launch) (hO : zinjX g) (S : zSt) (r : Int32) (S' : zSt) (h : fX8_value S = some (r, S')) : zMi (zYX g) l yX8_value vX8_value { frames := 0, cells := 0, slots := 0, locals := 0 } ([.ref (zad g 4)] : List Value) S r S' := by
  have hY := zOkX hO
  refine Met.ofW (cc := cX8_value) (maxL := 1) (ret := (some .int)) (by decide) rfl ?_
  intro p e s m args below meth c s₁ B hml hv
  obtain ⟨rfl, hP⟩ := hv
  have hx := B.exec
  have hb := B.bytes
  have hr := B.returns
  have hts := atoms_spec (ws := vX8_value) B.pre
  have hT : ∀ w ∈ zTB, w.before ([.ref (zad g 4)] : List Value).toArray s = true := fun w h => hts w (List.mem_cons_of_mem _ h)
  have hown : s.vm.findClass RX8 = some m.cls := findClass_of_methodNamed B.named
  have hlocks := B.notSynchronized
  have P0 := hP.2
  have Z : zZ (zYX g) S s s.heap [] := ⟨hP.1, va_S.rf⟩
  have hf : ∀ w ∈ u_ws RX8 TX8 7, w.before ([.ref (zad g 4)] : List Value).toArray s = true := fun w hw => hT w (mU_X8 w hw)
  have L25 := hT _ mF_X8_25
  have hl := lv_entry ([.ref (zad g 4)] : List Value) (n := 1) (Nat.le_of_ble_eq_true rfl)
  rw [lg_entry_eq]
  generalize (lg_sl ([.ref (zad g 4)] : List Value) ++ List.replicate (1 - (lg_sl ([.ref (zad g 4)] : List Value)).length) Slot.unset).toArray = ls at hl ⊢
  have hl : lv_has ls 1 [(0, .ref (zad g 4))] := hl
  unfold fX8_value at h
  refine lv_aload_n hx hb dX8_value_0 rfl (lv_at hl 0 rfl) ?_
  refine zgX8_5 (v := (zI S 13)) hx hb hf hown P0 Z L25 rfl dX8_value_1 ?_
  exact zr_i hY P0 hx hb hr hlocks h Z dX8_value_4

set_option maxHeartbeats 4000000 in
set_option maxRecDepth 100000 in
theorem kX5_readAtom {g : zG} (l : Launch) (hO : zinjX g) (oE : Int32 → zSt → Option (Int32 × zSt)) (F G : Nat) (hE : ∀ (x1 : Int32) (S : zSt) (r : Int32) (S' : zSt), oE x1 S = some (r, S') → zMi (zYX g) l yX5_readExpr vX5_readExpr { frames := F, cells := 0, slots := 0, locals := G } ([.ref (zad g 3), .int x1] : List Value) S r S') (a1 : Int32) (S : zSt) (r : Int32) (S' : zSt) (h : fX5_readAtom oE a1 S = some (r, S')) : zMi (zYX g) l yX5_readAtom vX5_readAtom { frames := F + 5, cells := 0, slots := 0, locals := G + 104 } ([.ref (zad g 3), .int a1] : List Value) S r S' := by
  have hY := zOkX hO
  refine Met.ofW (cc := cX5_readAtom) (maxL := 2) (ret := (some .boolean)) (by decide) rfl ?_
  intro p e s m args below meth c s₁ B hml hv
  obtain ⟨rfl, hP⟩ := hv
  have hx := B.exec
  have hb := B.bytes
  have hr := B.returns
  have hts := atoms_spec (ws := vX5_readAtom) B.pre
  have hT : ∀ w ∈ zTB, w.before ([.ref (zad g 3), .int a1] : List Value).toArray s = true := fun w h => hts w (List.mem_cons_of_mem _ h)
  have hown : s.vm.findClass RX5 = some m.cls := findClass_of_methodNamed B.named
  have hlocks := B.notSynchronized
  have P0 := hP.2
  have Z : zZ (zYX g) S s s.heap [] := ⟨hP.1, va_S.rf⟩
  have hf : ∀ w ∈ u_ws RX5 TX5 6, w.before ([.ref (zad g 3), .int a1] : List Value).toArray s = true := fun w hw => hT w (mU_X5 w hw)
  have L25 := hT _ mF_X5_25
  have L29 := hT _ mF_X5_29
  have B98 : ∀ (S : zSt), fX5_readAtom_98 oE S = some (r, S') → ∀ (H : Heap) (locs : List Loc), zZ (zYX g) S s H locs → ∀ ls : Array Slot, lv_has ls 2 [(0, .ref (zad g 3))] → W p l e (headSpec vX5_readAtom { frames := F + 5, cells := 0, slots := 0, locals := G + 104 }).room s m ([.ref (zad g 3), .int a1] : List Value).toArray below meth c H locs 0 0 (MQ below (zQi (zYX g) r S') ([.ref (zad g 3), .int a1] : List Value).toArray s 0 0 (zYX g).2.2.1) (F0 m 98 ls []) := by
    intro S h H locs Z ls hl
    unfold fX5_readAtom_98 at h
    refine lv_aload_n hx hb dX5_readAtom_98 rfl (lv_at hl 0 rfl) ?_
    refine zgX5_0 hx hb hf hown P0 Z L25 dX5_readAtom_99 ?_
    obtain ⟨r19, S20, ec, h⟩ := zbd_s h
    refine zc_Vv hY P0 ⟨hx, hb, hml, hown, hT⟩ (As := []) (rest := []) (kX8_advance l hO  S r19 S20 ec) (cwV 0 hT (zgV mL_X5_94 mI_X8_advance mS_X8_advance mN_X8 mC_X8_advance) rfl rfl rfl hdnX8_advance ⟨(by omega : 2 + 1 ≤ F + 5), (by omega : 8 + (2 + 11) + (41) ≤ G + 104)⟩) (zrecX_4 P0 Z) Z rfl hl.1 rfl (Nat.le_of_ble_eq_true rfl) dX5_readAtom_102 (fun H locs Z => ?_)
    refine lv_iconst (v := (nI 1)) hx hb dX5_readAtom_105 (by decide) ?_
    exact zr_z hY P0 hx hb hr hlocks (by decide) h Z dX5_readAtom_106
  have hl := lv_entry ([.ref (zad g 3), .int a1] : List Value) (n := 2) (Nat.le_of_ble_eq_true rfl)
  rw [lg_entry_eq]
  generalize (lg_sl ([.ref (zad g 3), .int a1] : List Value) ++ List.replicate (2 - (lg_sl ([.ref (zad g 3), .int a1] : List Value)).length) Slot.unset).toArray = ls at hl ⊢
  have hl : lv_has ls 2 [(0, .ref (zad g 3)), (1, .int a1)] := hl
  unfold fX5_readAtom at h
  refine lv_aload_n hx hb dX5_readAtom_0 rfl (lv_at hl 0 rfl) ?_
  refine zgX5_0 hx hb hf hown P0 Z L25 dX5_readAtom_1 ?_
  obtain ⟨r1, S2, ec, h⟩ := zbd_s h
  refine zc_Vi hY P0 ⟨hx, hb, hml, hown, hT⟩ (As := []) (rest := []) (kX8_kind l hO  S r1 S2 ec) (cwV 0 hT (zgV mL_X5_47 mI_X8_kind mS_X8_kind mN_X8 mC_X8_kind) rfl rfl rfl hdnX8_kind ⟨(by omega : 0 + 1 ≤ F + 5), (by omega : 8 + (1 + 11) + (0) ≤ G + 104)⟩) (zrecX_4 P0 Z) Z rfl hl.1 rfl (Nat.le_of_ble_eq_true rfl) dX5_readAtom_4 (fun H locs Z => ?_)
  by_cases q1 : r1 = (nI 1)
  · have h := zi_t q1 h
    refine ztbl (off := 25) (tgt := 32) hx hb q1 dX5_readAtom_7 (by decide) (by decide) (by decide) (by decide) ?_
    refine lv_aload_n hx hb dX5_readAtom_32 rfl (lv_at hl 0 rfl) ?_
    refine zgX5_1 hx hb hf hown P0 Z L29 dX5_readAtom_33 ?_
    refine lv_iconst (v := (nI 0)) hx hb dX5_readAtom_36 (by decide) ?_
    refine lv_aload_n hx hb dX5_readAtom_37 rfl (lv_at hl 0 rfl) ?_
    refine zgX5_0 hx hb hf hown P0 Z L25 dX5_readAtom_38 ?_
    obtain ⟨r3, S4, ec, h⟩ := zbd_s h
    refine zc_Vi hY P0 ⟨hx, hb, hml, hown, hT⟩ (As := []) (rest := [.int (nI 0), .ref (zad g 2)]) (kX8_value l hO  S2 r3 S4 ec) (cwV 0 hT (zgV mL_X5_145 mI_X8_value mS_X8_value mN_X8 mC_X8_value) rfl rfl rfl hdnX8_value ⟨(by omega : 0 + 1 ≤ F + 5), (by omega : 8 + (1 + 11) + (0) ≤ G + 104)⟩) (zrecX_4 P0 Z) Z rfl hl.1 rfl (Nat.le_of_ble_eq_true rfl) dX5_readAtom_41 (fun H locs Z => ?_)
    obtain ⟨r5, S6, ec, h⟩ := zbd_s h
    refine zc_Vv hY P0 ⟨hx, hb, hml, hown, hT⟩ (As := [.int (nI 0), .int r3]) (rest := []) (kX4_addDeed l hO (nI 0) r3 S4 r5 S6 ec) (cwV 2 hT (zgV mL_X5_128 mI_X4_addDeed mS_X4_addDeed mN_X4 mC_X4_addDeed) rfl rfl rfl hdnX4_addDeed ⟨(by omega : 1 + 1 ≤ F + 5), (by omega : 8 + (3 + 11) + (25) ≤ G + 104)⟩) (zrecX_2 P0 Z) Z rfl hl.1 rfl (Nat.le_of_ble_eq_true rfl) dX5_readAtom_44 (fun H locs Z => ?_)
    refine lv_goto (tgt := 98) hx hb dX5_readAtom_47 (by decide) ?_
    exact B98 S6 h _ _ Z ls (lv_sub hl [0] rfl)
  have h := zi_f q1 h
  by_cases q2 : r1 = (nI 2)
  · have h := zi_t q2 h
    refine ztbl (off := 61) (tgt := 68) hx hb q2 dX5_readAtom_7 (by decide) (by decide) (by decide) (by decide) ?_
    refine lv_aload_n hx hb dX5_readAtom_68 rfl (lv_at hl 0 rfl) ?_
    refine zgX5_1 hx hb hf hown P0 Z L29 dX5_readAtom_69 ?_
    refine lv_aload_n hx hb dX5_readAtom_72 rfl (lv_at hl 0 rfl) ?_
    refine zgX5_0 hx hb hf hown P0 Z L25 dX5_readAtom_73 ?_
    obtain ⟨r7, S8, ec, h⟩ := zbd_s h
    refine zc_Vl hY P0 ⟨hx, hb, hml, hown, hT⟩ (As := []) (rest := [.ref (zad g 2)]) (kX8_name l hO  S2 r7 S8 ec) (cwV 0 hT (zgV mL_X5_86 mI_X8_name mS_X8_name mN_X8 mC_X8_name) rfl rfl rfl hdnX8_name ⟨(by omega : 0 + 1 ≤ F + 5), (by omega : 8 + (1 + 11) + (0) ≤ G + 104)⟩) (zrecX_4 P0 Z) Z rfl hl.1 rfl (Nat.le_of_ble_eq_true rfl) dX5_readAtom_76 (fun H locs Z => ?_)
    refine lv_aload_n hx hb dX5_readAtom_79 rfl (lv_at hl 0 rfl) ?_
    refine zgX5_0 hx hb hf hown P0 Z L25 dX5_readAtom_80 ?_
    obtain ⟨r9, S10, ec, h⟩ := zbd_s h
    refine zc_Vi hY P0 ⟨hx, hb, hml, hown, hT⟩ (As := []) (rest := [.long r7, .ref (zad g 2)]) (kX8_place l hO  S8 r9 S10 ec) (cwV 0 hT (zgV mL_X5_83 mI_X8_place mS_X8_place mN_X8 mC_X8_place) rfl rfl rfl hdnX8_place ⟨(by omega : 0 + 1 ≤ F + 5), (by omega : 8 + (1 + 11) + (0) ≤ G + 104)⟩) (zrecX_4 P0 Z) Z rfl hl.1 rfl (Nat.le_of_ble_eq_true rfl) dX5_readAtom_83 (fun H locs Z => ?_)
    obtain ⟨r11, S12, ec, h⟩ := zbd_s h
    refine zc_Vv hY P0 ⟨hx, hb, hml, hown, hT⟩ (As := [.long r7, .int r9]) (rest := []) (kX4_addName l hO r7 r9 S10 r11 S12 ec) (cwV 2 hT (zgV mL_X5_148 mI_X4_addName mS_X4_addName mN_X4 mC_X4_addName) rfl rfl rfl hdnX4_addName ⟨(by omega : 1 + 1 ≤ F + 5), (by omega : 8 + (4 + 11) + (25) ≤ G + 104)⟩) (zrecX_2 P0 Z) Z rfl hl.1 rfl (Nat.le_of_ble_eq_true rfl) dX5_readAtom_86 (fun H locs Z => ?_)
    refine lv_goto (tgt := 98) hx hb dX5_readAtom_89 (by decide) ?_
    exact B98 S12 h _ _ Z ls (lv_sub hl [0] rfl)
  have h := zi_f q2 h
  by_cases q3 : r1 = (nI 3)
  · have h := zi_t q3 h
    refine ztbl (off := 43) (tgt := 50) hx hb q3 dX5_readAtom_7 (by decide) (by decide) (by decide) (by decide) ?_
    refine lv_aload_n hx hb dX5_readAtom_50 rfl (lv_at hl 0 rfl) ?_
    refine zgX5_1 hx hb hf hown P0 Z L29 dX5_readAtom_51 ?_
    refine lv_iconst (v := (nI 1)) hx hb dX5_readAtom_54 (by decide) ?_
    refine lv_aload_n hx hb dX5_readAtom_55 rfl (lv_at hl 0 rfl) ?_
    refine zgX5_0 hx hb hf hown P0 Z L25 dX5_readAtom_56 ?_
    obtain ⟨r13, S14, ec, h⟩ := zbd_s h
    refine zc_Vi hY P0 ⟨hx, hb, hml, hown, hT⟩ (As := []) (rest := [.int (nI 1), .ref (zad g 2)]) (kX8_value l hO  S2 r13 S14 ec) (cwV 0 hT (zgV mL_X5_145 mI_X8_value mS_X8_value mN_X8 mC_X8_value) rfl rfl rfl hdnX8_value ⟨(by omega : 0 + 1 ≤ F + 5), (by omega : 8 + (1 + 11) + (0) ≤ G + 104)⟩) (zrecX_4 P0 Z) Z rfl hl.1 rfl (Nat.le_of_ble_eq_true rfl) dX5_readAtom_59 (fun H locs Z => ?_)
    obtain ⟨r15, S16, ec, h⟩ := zbd_s h
    refine zc_Vv hY P0 ⟨hx, hb, hml, hown, hT⟩ (As := [.int (nI 1), .int r13]) (rest := []) (kX4_addDeed l hO (nI 1) r13 S14 r15 S16 ec) (cwV 2 hT (zgV mL_X5_128 mI_X4_addDeed mS_X4_addDeed mN_X4 mC_X4_addDeed) rfl rfl rfl hdnX4_addDeed ⟨(by omega : 1 + 1 ≤ F + 5), (by omega : 8 + (3 + 11) + (25) ≤ G + 104)⟩) (zrecX_2 P0 Z) Z rfl hl.1 rfl (Nat.le_of_ble_eq_true rfl) dX5_readAtom_62 (fun H locs Z => ?_)
    refine lv_goto (tgt := 98) hx hb dX5_readAtom_65 (by decide) ?_
    exact B98 S16 h _ _ Z ls (lv_sub hl [0] rfl)
  have h := zi_f q3 h
  have u1 : ¬ r1.toInt = 1 := lv_neT q1 (by decide)
  have u2 : ¬ r1.toInt = 2 := lv_neT q2 (by decide)
  have u3 : ¬ r1.toInt = 3 := lv_neT q3 (by decide)
  refine lv_tableOut (tgt := 92) hx hb dX5_readAtom_7 (by omega) (by decide) ?_
  refine lv_aload_n hx hb dX5_readAtom_92 rfl (lv_at hl 0 rfl) ?_
  refine lv_iload_n hx hb dX5_readAtom_93 rfl (lv_at hl 1 rfl) ?_
  obtain ⟨r17, S18, ec, h⟩ := zbd_s h
  refine zc_Vi hY P0 ⟨hx, hb, hml, hown, hT⟩ (As := [.int a1]) (rest := []) (kX5_readWithin l hO oE F G hE a1 S2 r17 S18 ec) (cwV 1 hT (zgV mL_X5_152 mI_X5_readWithin mS_X5_readWithin mN_X5 mC_X5_readWithin) rfl rfl rfl hdnX5_readWithin ⟨(by omega : F + 4 + 1 ≤ F + 5), (by omega : 8 + (2 + 11) + (G + 83) ≤ G + 104)⟩) (zrecX_3 P0 Z) Z rfl hl.1 rfl (Nat.le_of_ble_eq_true rfl) dX5_readAtom_94 (fun H locs Z => ?_)
  obtain ⟨hn, h⟩ := zbo_s h
  exact zr_z hY P0 hx hb hr hlocks hn h Z dX5_readAtom_97

set_option maxHeartbeats 4000000 in
set_option maxRecDepth 100000 in
theorem kX5_readAtoms {g : zG} (l : Launch) (hO : zinjX g) (oE : Int32 → zSt → Option (Int32 × zSt)) (F G : Nat) (hE : ∀ (x1 : Int32) (S : zSt) (r : Int32) (S' : zSt), oE x1 S = some (r, S') → zMi (zYX g) l yX5_readExpr vX5_readExpr { frames := F, cells := 0, slots := 0, locals := G } ([.ref (zad g 3), .int x1] : List Value) S r S') (a1 : Int32) (S : zSt) (r : Int32) (S' : zSt) (h : fX5_readAtoms oE a1 S = some (r, S')) : zMi (zYX g) l yX5_readAtoms vX5_readAtoms { frames := F + 6, cells := 0, slots := 0, locals := G + 125 } ([.ref (zad g 3), .int a1] : List Value) S r S' := by
  have hY := zOkX hO
  refine Met.ofW (cc := cX5_readAtoms) (maxL := 3) (ret := (some .boolean)) (by decide) rfl ?_
  intro p e s m args below meth c s₁ B hml hv
  obtain ⟨rfl, hP⟩ := hv
  have hx := B.exec
  have hb := B.bytes
  have hr := B.returns
  have hts := atoms_spec (ws := vX5_readAtoms) B.pre
  have hT : ∀ w ∈ zTB, w.before ([.ref (zad g 3), .int a1] : List Value).toArray s = true := fun w h => hts w (List.mem_cons_of_mem _ h)
  have hown : s.vm.findClass RX5 = some m.cls := findClass_of_methodNamed B.named
  have hlocks := B.notSynchronized
  have P0 := hP.2
  have Z : zZ (zYX g) S s s.heap [] := ⟨hP.1, va_S.rf⟩
  have hf : ∀ w ∈ u_ws RX5 TX5 6, w.before ([.ref (zad g 3), .int a1] : List Value).toArray s = true := fun w hw => hT w (mU_X5 w hw)
  have L25 := hT _ mF_X5_25
  have L29 := hT _ mF_X5_29
  have B50 : ∀ (x2 : Int32) (S : zSt), fX5_readAtoms_50 oE x2 S = some (r, S') → ∀ (H : Heap) (locs : List Loc), zZ (zYX g) S s H locs → ∀ ls : Array Slot, lv_has ls 3 [(0, .ref (zad g 3)), (2, .int x2)] → W p l e (headSpec vX5_readAtoms { frames := F + 6, cells := 0, slots := 0, locals := G + 125 }).room s m ([.ref (zad g 3), .int a1] : List Value).toArray below meth c H locs 0 0 (MQ below (zQi (zYX g) r S') ([.ref (zad g 3), .int a1] : List Value).toArray s 0 0 (zYX g).2.2.1) (F0 m 50 ls []) := by
    intro x2 S h H locs Z ls hl
    unfold fX5_readAtoms_50 at h
    refine lv_iload_n hx hb dX5_readAtoms_50 rfl (lv_at hl 1 rfl) ?_
    refine lv_if_ne (tgt := 59) hx hb dX5_readAtoms_51 (by decide) (fun q => ?_) (fun q => ?_)
    · have h := zi_f q h
      refine lv_iload_n hx hb dX5_readAtoms_59 rfl (lv_at hl 1 rfl) ?_
      refine lv_iconst (v := (nI 1)) hx hb dX5_readAtoms_60 (by decide) ?_
      refine lv_icmp_le (tgt := 73) hx hb dX5_readAtoms_61 (by decide) (fun q => ?_) (fun q => ?_)
      · have h := zi_t q h
        refine lv_iconst (v := (nI 1)) hx hb dX5_readAtoms_73 (by decide) ?_
        exact zr_z hY P0 hx hb hr hlocks (by decide) h Z dX5_readAtoms_74
      · have h := zi_f q h
        refine lv_aload_n hx hb dX5_readAtoms_64 rfl (lv_at hl 0 rfl) ?_
        refine zgX5_1 hx hb hf hown P0 Z L29 dX5_readAtoms_65 ?_
        refine lv_iconst (v := (nI 5)) hx hb dX5_readAtoms_68 (by decide) ?_
        refine lv_iload_n hx hb dX5_readAtoms_69 rfl (lv_at hl 1 rfl) ?_
        obtain ⟨r9, S10, ec, h⟩ := zbd_s h
        refine zc_Vv hY P0 ⟨hx, hb, hml, hown, hT⟩ (As := [.int (nI 5), .int x2]) (rest := []) (kX4_addDeed l hO (nI 5) x2 S r9 S10 ec) (cwV 2 hT (zgV mL_X5_128 mI_X4_addDeed mS_X4_addDeed mN_X4 mC_X4_addDeed) rfl rfl rfl hdnX4_addDeed ⟨(by omega : 1 + 1 ≤ F + 6), (by omega : 8 + (3 + 11) + (25) ≤ G + 125)⟩) (zrecX_2 P0 Z) Z rfl hl.1 rfl (Nat.le_of_ble_eq_true rfl) dX5_readAtoms_70 (fun H locs Z => ?_)
        refine lv_iconst (v := (nI 1)) hx hb dX5_readAtoms_73 (by decide) ?_
        exact zr_z hY P0 hx hb hr hlocks (by decide) h Z dX5_readAtoms_74
    · have h := zi_t q h
      refine lv_aload_n hx hb dX5_readAtoms_54 rfl (lv_at hl 0 rfl) ?_
      obtain ⟨r11, S12, ec, h⟩ := zbd_s h
      refine zc_Vi hY P0 ⟨hx, hb, hml, hown, hT⟩ (As := []) (rest := []) (kX5_cannotStand l hO  S r11 S12 ec) (cwV 0 hT (zgV mL_X5_77 mI_X5_cannotStand mS_X5_cannotStand mN_X5 mC_X5_cannotStand) rfl rfl rfl hdnX5_cannotStand ⟨(by omega : 1 + 1 ≤ F + 6), (by omega : 8 + (2 + 11) + (22) ≤ G + 125)⟩) (zrecX_3 P0 Z) Z rfl hl.1 rfl (Nat.le_of_ble_eq_true rfl) dX5_readAtoms_55 (fun H locs Z => ?_)
      obtain ⟨hn, h⟩ := zbo_s h
      exact zr_z hY P0 hx hb hr hlocks hn h Z dX5_readAtoms_58
  have B2 : ∀ (n : Nat) (x1 : Int32) (x2 : Int32) (S : zSt), fX5_readAtoms_2L oE n (x1, x2, S) = some (r, S') → ∀ (H : Heap) (locs : List Loc), zZ (zYX g) S s H locs → ∀ ls : Array Slot, lv_has ls 3 [(0, .ref (zad g 3)), (1, .int x1), (2, .int x2)] → W p l e (headSpec vX5_readAtoms { frames := F + 6, cells := 0, slots := 0, locals := G + 125 }).room s m ([.ref (zad g 3), .int a1] : List Value).toArray below meth c H locs 0 0 (MQ below (zQi (zYX g) r S') ([.ref (zad g 3), .int a1] : List Value).toArray s 0 0 (zYX g).2.2.1) (F0 m 2 ls []) := by
    intro n
    induction n with
    | zero => intro x1 x2 S h; exact absurd h (fun h => nomatch h)
    | succ n K2 =>
      intro x1 x2 S h H locs Z ls hl
      have h : fX5_readAtoms_2 oE (fX5_readAtoms_2L oE n) x1 x2 S = some (r, S') := h
      unfold fX5_readAtoms_2 at h
      refine lv_iload_n hx hb dX5_readAtoms_2 rfl (lv_at hl 2 rfl) ?_
      refine lv_bipush (v := (nI 10)) hx hb dX5_readAtoms_3 (by decide) ?_
      refine lv_icmp_gt (tgt := 50) hx hb dX5_readAtoms_5 (by decide) (fun q => ?_) (fun q => ?_)
      · have h := zi_t q h
        exact B50 x2 S h _ _ Z ls (lv_sub hl [0, 2] rfl)
      · have h := zi_f q h
        refine lv_aload_n hx hb dX5_readAtoms_8 rfl (lv_at hl 0 rfl) ?_
        obtain ⟨r1, S2, ec, h⟩ := zbd_s h
        refine zc_Vi hY P0 ⟨hx, hb, hml, hown, hT⟩ (As := []) (rest := []) (kX5_beginsAtom l hO  S r1 S2 ec) (cwV 0 hT (zgV mL_X5_139 mI_X5_beginsAtom mS_X5_beginsAtom mN_X5 mC_X5_beginsAtom) rfl rfl rfl hdnX5_beginsAtom ⟨(by omega : 1 + 1 ≤ F + 6), (by omega : 8 + (2 + 11) + (20) ≤ G + 125)⟩) (zrecX_3 P0 Z) Z rfl hl.1 rfl (Nat.le_of_ble_eq_true rfl) dX5_readAtoms_9 (fun H locs Z => ?_)
        refine lv_if_eq (tgt := 50) hx hb dX5_readAtoms_12 (by decide) (fun q => ?_) (fun q => ?_)
        · have h := zi_t q h
          exact B50 x2 S2 h _ _ Z ls (lv_sub hl [0, 2] rfl)
        · have h := zi_f q h
          refine lv_iload_n hx hb dX5_readAtoms_15 rfl (lv_at hl 2 rfl) ?_
          refine lv_bipush (v := (nI 10)) hx hb dX5_readAtoms_16 (by decide) ?_
          refine lv_icmp_ne (tgt := 34) hx hb dX5_readAtoms_18 (by decide) (fun q => ?_) (fun q => ?_)
          · have h := zi_f q h
            refine lv_aload_n hx hb dX5_readAtoms_34 rfl (lv_at hl 0 rfl) ?_
            refine lv_iload_n hx hb dX5_readAtoms_35 rfl (lv_at hl 1 rfl) ?_
            obtain ⟨r3, S4, ec, h⟩ := zbd_s h
            refine zc_Vi hY P0 ⟨hx, hb, hml, hown, hT⟩ (As := [.int x1]) (rest := []) (kX5_readAtom l hO oE F G hE x1 S2 r3 S4 ec) (cwV 1 hT (zgV mL_X5_142 mI_X5_readAtom mS_X5_readAtom mN_X5 mC_X5_readAtom) rfl rfl rfl hdnX5_readAtom ⟨(by omega : F + 5 + 1 ≤ F + 6), (by omega : 8 + (2 + 11) + (G + 104) ≤ G + 125)⟩) (zrecX_3 P0 Z) Z rfl hl.1 rfl (Nat.le_of_ble_eq_true rfl) dX5_readAtoms_36 (fun H locs Z => ?_)
            refine lv_if_ne (tgt := 44) hx hb dX5_readAtoms_39 (by decide) (fun q => ?_) (fun q => ?_)
            · have h := zi_f q h
              refine lv_iinc (v := (x2 + (nI 1))) (lv' := [(2, .int (x2 + (nI 1))), (0, .ref (zad g 3)), (1, .int x1)]) hx hb dX5_readAtoms_44 hl (k := 2) rfl rfl (by decide) rfl (fun ls hl => ?_)
              refine lv_goto (tgt := 2) hx hb dX5_readAtoms_47 (by decide) ?_
              exact K2 x1 (x2 + (nI 1)) S4 h _ _ Z ls (lv_sub hl [1, 2, 0] rfl)
            · have h := zi_t q h
              refine lv_iconst (v := (nI 0)) hx hb dX5_readAtoms_42 (by decide) ?_
              exact zr_z hY P0 hx hb hr hlocks (by decide) h Z dX5_readAtoms_43
          · have h := zi_t q h
            refine lv_aload_n hx hb dX5_readAtoms_21 rfl (lv_at hl 0 rfl) ?_
            refine lv_iconst (v := (nI 3)) hx hb dX5_readAtoms_22 (by decide) ?_
            refine lv_aload_n hx hb dX5_readAtoms_23 rfl (lv_at hl 0 rfl) ?_
            refine zgX5_0 hx hb hf hown P0 Z L25 dX5_readAtoms_24 ?_
            obtain ⟨r5, S6, ec, h⟩ := zbd_s h
            refine zc_Vi hY P0 ⟨hx, hb, hml, hown, hT⟩ (As := []) (rest := [.int (nI 3), .ref (zad g 3)]) (kX8_place l hO  S2 r5 S6 ec) (cwV 0 hT (zgV mL_X5_83 mI_X8_place mS_X8_place mN_X8 mC_X8_place) rfl rfl rfl hdnX8_place ⟨(by omega : 0 + 1 ≤ F + 6), (by omega : 8 + (1 + 11) + (0) ≤ G + 125)⟩) (zrecX_4 P0 Z) Z rfl hl.1 rfl (Nat.le_of_ble_eq_true rfl) dX5_readAtoms_27 (fun H locs Z => ?_)
            obtain ⟨r7, S8, ec, h⟩ := zbd_s h
            refine zc_Vi hY P0 ⟨hx, hb, hml, hown, hT⟩ (As := [.int (nI 3), .int r5]) (rest := []) (kX5_fail l hO (nI 3) r5 S6 r7 S8 ec) (cwV 2 hT (zgV mL_X5_66 mI_X5_fail mS_X5_fail mN_X5 mC_X5_fail) rfl rfl rfl hdnX5_fail ⟨(by omega : 0 + 1 ≤ F + 6), (by omega : 8 + (3 + 11) + (0) ≤ G + 125)⟩) (zrecX_3 P0 Z) Z rfl hl.1 rfl (Nat.le_of_ble_eq_true rfl) dX5_readAtoms_30 (fun H locs Z => ?_)
            obtain ⟨hn, h⟩ := zbo_s h
            exact zr_z hY P0 hx hb hr hlocks hn h Z dX5_readAtoms_33
  have hl := lv_entry ([.ref (zad g 3), .int a1] : List Value) (n := 3) (Nat.le_of_ble_eq_true rfl)
  rw [lg_entry_eq]
  generalize (lg_sl ([.ref (zad g 3), .int a1] : List Value) ++ List.replicate (3 - (lg_sl ([.ref (zad g 3), .int a1] : List Value)).length) Slot.unset).toArray = ls at hl ⊢
  have hl : lv_has ls 3 [(0, .ref (zad g 3)), (1, .int a1)] := hl
  unfold fX5_readAtoms at h
  refine lv_iconst (v := (nI 0)) hx hb dX5_readAtoms_0 (by decide) ?_
  refine lv_istore_n (lv' := [(2, .int (nI 0)), (0, .ref (zad g 3)), (1, .int a1)]) hx hb dX5_readAtoms_1 rfl hl (by decide) rfl (fun ls hl => ?_)
  exact B2 zFU a1 (nI 0) S h _ _ Z ls (lv_sub hl [1, 2, 0] rfl)

set_option maxHeartbeats 4000000 in
set_option maxRecDepth 100000 in
theorem kX4_settlePointers {g : zG} (l : Launch) (hO : zinjX g) (a1 : Int32) (a2 : Int32) (a3 : Int32) (S : zSt) (r : Unit) (S' : zSt) (h : fX4_settlePointers a1 a2 a3 S = some (r, S')) : zMv (zYX g) l yX4_settlePointers vX4_settlePointers { frames := 1, cells := 0, slots := 0, locals := 20 } ([.ref (zad g 2), .int a1, .int a2, .int a3] : List Value) S S' := by
  have hY := zOkX hO
  refine Met.ofW (cc := cX4_settlePointers) (maxL := 4) (ret := none) (by decide) rfl ?_
  intro p e s m args below meth c s₁ B hml hv
  obtain ⟨rfl, hP⟩ := hv
  have hx := B.exec
  have hb := B.bytes
  have hr := B.returns
  have hts := atoms_spec (ws := vX4_settlePointers) B.pre
  have hT : ∀ w ∈ zTB, w.before ([.ref (zad g 2), .int a1, .int a2, .int a3] : List Value).toArray s = true := fun w h => hts w (List.mem_cons_of_mem _ h)
  have hown : s.vm.findClass RX4 = some m.cls := findClass_of_methodNamed B.named
  have hlocks := B.notSynchronized
  have P0 := hP.2
  have Z : zZ (zYX g) S s s.heap [] := ⟨hP.1, va_S.rf⟩
  have hf : ∀ w ∈ u_ws RX4 TX4 12, w.before ([.ref (zad g 2), .int a1, .int a2, .int a3] : List Value).toArray s = true := fun w hw => hT w (mU_X4 w hw)
  have L35 := hT _ mF_X4_35
  have L38 := hT _ mF_X4_38
  have hl := lv_entry ([.ref (zad g 2), .int a1, .int a2, .int a3] : List Value) (n := 4) (Nat.le_of_ble_eq_true rfl)
  rw [lg_entry_eq]
  generalize (lg_sl ([.ref (zad g 2), .int a1, .int a2, .int a3] : List Value) ++ List.replicate (4 - (lg_sl ([.ref (zad g 2), .int a1, .int a2, .int a3] : List Value)).length) Slot.unset).toArray = ls at hl ⊢
  have hl : lv_has ls 4 [(0, .ref (zad g 2)), (1, .int a1), (2, .int a2), (3, .int a3)] := hl
  unfold fX4_settlePointers at h
  refine lv_iload_n hx hb dX4_settlePointers_0 rfl (lv_at hl 1 rfl) ?_
  obtain ⟨r1, S2, ec, h⟩ := zbd_s h
  refine zc_Si hY P0 ⟨hx, hb, hml, hown, hT⟩ (As := [.int a1]) (rest := []) (kX4_isDeed l hO a1 S r1 S2 ec) (va_cwS 1 hT (zgS mL_X4_68 mT_X4_isDeed mN_X4 mC_X4_isDeed) rfl rfl rfl hdnX4_isDeed ⟨Nat.le_of_ble_eq_true rfl, Nat.le_of_ble_eq_true rfl⟩) Z rfl hl.1 rfl (Nat.le_of_ble_eq_true rfl) dX4_settlePointers_1 (fun H locs Z => ?_)
  refine lv_if_eq (tgt := 21) hx hb dX4_settlePointers_4 (by decide) (fun q => ?_) (fun q => ?_)
  · have h := zi_t q h
    exact zr_v hY P0 hx hb hr hlocks h Z dX4_settlePointers_21
  · have h := zi_f q h
    refine lv_aload_n hx hb dX4_settlePointers_7 rfl (lv_at hl 0 rfl) ?_
    refine zgX4_7 hx hb hf hown P0 Z L35 dX4_settlePointers_8 ?_
    refine lv_iload_n hx hb dX4_settlePointers_11 rfl (lv_at hl 1 rfl) ?_
    refine lv_iload_n hx hb dX4_settlePointers_12 rfl (lv_at hl 2 rfl) ?_
    obtain ⟨hin, h⟩ := zck_s h
    refine zsX_18 hO hx hb P0 Z hin dX4_settlePointers_13 (fun H locs Z => ?_)
    refine lv_aload_n hx hb dX4_settlePointers_14 rfl (lv_at hl 0 rfl) ?_
    refine zgX4_8 hx hb hf hown P0 Z L38 dX4_settlePointers_15 ?_
    refine lv_iload_n hx hb dX4_settlePointers_18 rfl (lv_at hl 1 rfl) ?_
    refine lv_iload_n hx hb dX4_settlePointers_19 rfl (lv_at hl 3 rfl) ?_
    obtain ⟨hin, h⟩ := zck_s h
    refine zsX_19 hO hx hb P0 Z hin dX4_settlePointers_20 (fun H locs Z => ?_)
    exact zr_v hY P0 hx hb hr hlocks h Z dX4_settlePointers_21

set_option maxHeartbeats 4000000 in
set_option maxRecDepth 100000 in
theorem kX5_has_23 {g : zG} (l : Launch) (hO : zinjX g) (a1 : Int32) (a2 : Int32) (a3 : Int64) (S : zSt) (r : Int32) (S' : zSt) (h : fX5_has_23 a1 a2 a3 S = some (r, S')) : zMi (zYX g) l yX5_has vX5_has { frames := 0, cells := 0, slots := 0, locals := 0 } ([.ref (zad g 23), .int a1, .int a2, .long a3] : List Value) S r S' := by
  have hY := zOkX hO
  refine Met.ofW (cc := cX5_has) (maxL := 6) (ret := (some .boolean)) (by decide) rfl ?_
  intro p e s m args below meth c s₁ B hml hv
  obtain ⟨rfl, hP⟩ := hv
  have hx := B.exec
  have hb := B.bytes
  have hr := B.returns
  have hts := atoms_spec (ws := vX5_has) B.pre
  have hT : ∀ w ∈ zTB, w.before ([.ref (zad g 23), .int a1, .int a2, .long a3] : List Value).toArray s = true := fun w h => hts w (List.mem_cons_of_mem _ h)
  have hown : s.vm.findClass RX5 = some m.cls := findClass_of_methodNamed B.named
  have hlocks := B.notSynchronized
  have P0 := hP.2
  have Z : zZ (zYX g) S s s.heap [] := ⟨hP.1, va_S.rf⟩
  have B11 : ∀ (n : Nat) (x2 : Int32) (x3 : Int64) (x5 : Int32) (S : zSt), fX5_has_23_11L n (x2, x3, x5, S) = some (r, S') → ∀ (H : Heap) (locs : List Loc), zZ (zYX g) S s H locs → ∀ ls : Array Slot, lv_has ls 6 [(0, .ref (zad g 23)), (2, .int x2), (3, .long x3), (5, .int x5)] → W p l e (headSpec vX5_has { frames := 0, cells := 0, slots := 0, locals := 0 }).room s m ([.ref (zad g 23), .int a1, .int a2, .long a3] : List Value).toArray below meth c H locs 0 0 (MQ below (zQi (zYX g) r S') ([.ref (zad g 23), .int a1, .int a2, .long a3] : List Value).toArray s 0 0 (zYX g).2.2.1) (F0 m 11 ls []) := by
    intro n
    induction n with
    | zero => intro x2 x3 x5 S h; exact absurd h (fun h => nomatch h)
    | succ n K11 =>
      intro x2 x3 x5 S h H locs Z ls hl
      have h : fX5_has_23_11 (fX5_has_23_11L n) x2 x3 x5 S = some (r, S') := h
      unfold fX5_has_23_11 at h
      refine lv_iload hx hb dX5_has_11 (lv_at hl 3 rfl) ?_
      refine lv_iload_n hx hb dX5_has_13 rfl (lv_at hl 1 rfl) ?_
      refine lv_icmp_ge (tgt := 41) hx hb dX5_has_14 (by decide) (fun q => ?_) (fun q => ?_)
      · have h := zi_t q h
        refine lv_iconst (v := (nI 0)) hx hb dX5_has_41 (by decide) ?_
        exact zr_z hY P0 hx hb hr hlocks (by decide) h Z dX5_has_42
      · have h := zi_f q h
        refine lv_iload hx hb dX5_has_17 (lv_at hl 3 rfl) ?_
        refine lv_aload_n hx hb dX5_has_19 rfl (lv_at hl 0 rfl) ?_
        refine zaX_23 hx hb P0 Z dX5_has_20 ?_
        refine lv_icmp_ge (tgt := 41) hx hb dX5_has_21 (by decide) (fun q => ?_) (fun q => ?_)
        · have h := zi_t q h
          refine lv_iconst (v := (nI 0)) hx hb dX5_has_41 (by decide) ?_
          exact zr_z hY P0 hx hb hr hlocks (by decide) h Z dX5_has_42
        · have h := zi_f q h
          refine lv_aload_n hx hb dX5_has_24 rfl (lv_at hl 0 rfl) ?_
          refine lv_iload hx hb dX5_has_25 (lv_at hl 3 rfl) ?_
          obtain ⟨v1, ev, hin, h⟩ := zld_s h
          refine zlX_23 hx hb P0 Z ev hin dX5_has_27 ?_
          refine lv_lload_n hx hb dX5_has_28 rfl (lv_at hl 2 rfl) ?_
          refine W.lcmp hx hb dX5_has_29 ?_
          refine lv_if_ne (tgt := 35) hx hb dX5_has_30 (by decide) (fun q => ?_) (fun q => ?_)
          · have h := zi_f q h
            refine lv_iinc (v := (x5 + (nI 1))) (lv' := [(5, .int (x5 + (nI 1))), (0, .ref (zad g 23)), (2, .int x2), (3, .long x3)]) hx hb dX5_has_35 hl (k := 3) rfl rfl (by decide) rfl (fun ls hl => ?_)
            refine lv_goto (tgt := 11) hx hb dX5_has_38 (by decide) ?_
            exact K11 x2 x3 (x5 + (nI 1)) S h _ _ Z ls (lv_sub hl [1, 2, 3, 0] rfl)
          · have h := zi_t q h
            refine lv_iconst (v := (nI 1)) hx hb dX5_has_33 (by decide) ?_
            exact zr_z hY P0 hx hb hr hlocks (by decide) h Z dX5_has_34
  have hl := lv_entry ([.ref (zad g 23), .int a1, .int a2, .long a3] : List Value) (n := 6) (Nat.le_of_ble_eq_true rfl)
  rw [lg_entry_eq]
  generalize (lg_sl ([.ref (zad g 23), .int a1, .int a2, .long a3] : List Value) ++ List.replicate (6 - (lg_sl ([.ref (zad g 23), .int a1, .int a2, .long a3] : List Value)).length) Slot.unset).toArray = ls at hl ⊢
  have hl : lv_has ls 6 [(0, .ref (zad g 23)), (1, .int a1), (2, .int a2), (3, .long a3)] := hl
  unfold fX5_has_23 at h
  refine lv_iload_n hx hb dX5_has_0 rfl (lv_at hl 1 rfl) ?_
  refine lv_if_ge (tgt := 8) hx hb dX5_has_1 (by decide) (fun q => ?_) (fun q => ?_)
  · have h := zi_t q h
    refine lv_iload_n hx hb dX5_has_8 rfl (lv_at hl 1 rfl) ?_
    refine lv_istore (lv' := [(5, .int a1), (0, .ref (zad g 23)), (1, .int a1), (2, .int a2), (3, .long a3)]) hx hb dX5_has_9 hl (by decide) rfl (fun ls hl => ?_)
    exact B11 zFU a2 a3 a1 S h _ _ Z ls (lv_sub hl [1, 3, 4, 0] rfl)
  · have h := zi_f q h
    refine lv_iconst (v := (nI 0)) hx hb dX5_has_4 (by decide) ?_
    refine lv_goto (tgt := 9) hx hb dX5_has_5 (by decide) ?_
    refine lv_istore (lv' := [(5, .int (nI 0)), (0, .ref (zad g 23)), (1, .int a1), (2, .int a2), (3, .long a3)]) hx hb dX5_has_9 hl (by decide) rfl (fun ls hl => ?_)
    exact B11 zFU a2 a3 (nI 0) S h _ _ Z ls (lv_sub hl [1, 3, 4, 0] rfl)
