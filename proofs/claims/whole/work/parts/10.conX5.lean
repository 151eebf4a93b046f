set_option maxHeartbeats 4000000 in
set_option maxRecDepth 100000 in
theorem kX9_next {g : zG} (l : Launch) (hO : zinjX g) (S : zSt) (r : Int32) (S' : zSt) (h : fX9_next S = some (r, S')) : zMi (zYX g) l yX9_next vX9_next { frames := 6, cells := 0, slots := 0, locals := 130 } ([.ref (zad g 0)] : List Value) S r S' := by
  have hY := zOkX hO
  refine Met.ofW (cc := cX9_next) (maxL := 1) (ret := (some .int)) (by decide) rfl ?_
  intro p e s m args below meth c s₁ B hml hv
  obtain ⟨rfl, hP⟩ := hv
  have hx := B.exec
  have hb := B.bytes
  have hr := B.returns
  have hts := atoms_spec (ws := vX9_next) B.pre
  have hT : ∀ w ∈ zTB, w.before ([.ref (zad g 0)] : List Value).toArray s = true := fun w h => hts w (List.mem_cons_of_mem _ h)
  have hown : s.vm.findClass RX9 = some m.cls := findClass_of_methodNamed B.named
  have hlocks := B.notSynchronized
  have P0 := hP.2
  have Z : zZ (zYX g) S s s.heap [] := ⟨hP.1, va_S.rf⟩
  have hf : ∀ w ∈ u_ws RX9 TX9 13, w.before ([.ref (zad g 0)] : List Value).toArray s = true := fun w hw => hT w (mU_X9 w hw)
  have L71 := hT _ mF_X9_71
  have L56 := hT _ mF_X9_56
  have hl := lv_entry ([.ref (zad g 0)] : List Value) (n := 1) (Nat.le_of_ble_eq_true rfl)
  rw [lg_entry_eq]
  generalize (lg_sl ([.ref (zad g 0)] : List Value) ++ List.replicate (1 - (lg_sl ([.ref (zad g 0)] : List Value)).length) Slot.unset).toArray = ls at hl ⊢
  have hl : lv_has ls 1 [(0, .ref (zad g 0))] := hl
  unfold fX9_next at h
  refine lv_aload_n hx hb dX9_next_0 rfl (lv_at hl 0 rfl) ?_
  refine zgX9_8 (v := (zI S 0)) hx hb hf hown P0 Z L71 rfl dX9_next_1 ?_
  refine lv_if_eq (tgt := 17) hx hb dX9_next_4 (by decide) (fun q => ?_) (fun q => ?_)
  · have h := zi_t q h
    refine lv_bipush (v := (-3 : Int32)) hx hb dX9_next_17 (by decide) ?_
    exact zr_i hY P0 hx hb hr hlocks h Z dX9_next_19
  · have h := zi_f q h
    refine lv_aload_n hx hb dX9_next_7 rfl (lv_at hl 0 rfl) ?_
    refine zgX9_5 hx hb hf hown P0 Z L56 dX9_next_8 ?_
    obtain ⟨r1, S2, ec, h⟩ := zbd_s h
    refine zc_Vi hY P0 ⟨hx, hb, hml, hown, hT⟩ (As := []) (rest := []) (kX2_look l hO  S r1 S2 ec) (cwV 0 hT (zgV mL_X9_129 mI_X2_look mS_X2_look mN_X2 mC_X2_look) rfl rfl rfl hdnX2_look ⟨Nat.le_of_ble_eq_true rfl, Nat.le_of_ble_eq_true rfl⟩) (zrecX_7 P0 Z) Z rfl hl.1 rfl (Nat.le_of_ble_eq_true rfl) dX9_next_11 (fun H locs Z => ?_)
    refine lv_goto (tgt := 19) hx hb dX9_next_14 (by decide) ?_
    exact zr_i hY P0 hx hb hr hlocks h Z dX9_next_19

set_option maxHeartbeats 4000000 in
set_option maxRecDepth 100000 in
theorem kX9_stopAt {g : zG} (l : Launch) (hO : zinjX g) (a1 : Int32) (S : zSt) (r : Int32) (S' : zSt) (h : fX9_stopAt a1 S = some (r, S')) : zMi (zYX g) l yX9_stopAt vX9_stopAt { frames := 1, cells := 0, slots := 0, locals := 20 } ([.ref (zad g 0), .int a1] : List Value) S r S' := by
  have hY := zOkX hO
  refine Met.ofW (cc := cX9_stopAt) (maxL := 3) (ret := (some .int)) (by decide) rfl ?_
  intro p e s m args below meth c s₁ B hml hv
  obtain ⟨rfl, hP⟩ := hv
  have hx := B.exec
  have hb := B.bytes
  have hr := B.returns
  have hts := atoms_spec (ws := vX9_stopAt) B.pre
  have hT : ∀ w ∈ zTB, w.before ([.ref (zad g 0), .int a1] : List Value).toArray s = true := fun w h => hts w (List.mem_cons_of_mem _ h)
  have hown : s.vm.findClass RX9 = some m.cls := findClass_of_methodNamed B.named
  have hlocks := B.notSynchronized
  have P0 := hP.2
  have Z : zZ (zYX g) S s s.heap [] := ⟨hP.1, va_S.rf⟩
  have hf : ∀ w ∈ u_ws RX9 TX9 13, w.before ([.ref (zad g 0), .int a1] : List Value).toArray s = true := fun w hw => hT w (mU_X9 w hw)
  have L71 := hT _ mF_X9_71
  have L19 := hT _ mF_X9_19
  have L85 := hT _ mF_X9_85
  have hl := lv_entry ([.ref (zad g 0), .int a1] : List Value) (n := 3) (Nat.le_of_ble_eq_true rfl)
  rw [lg_entry_eq]
  generalize (lg_sl ([.ref (zad g 0), .int a1] : List Value) ++ List.replicate (3 - (lg_sl ([.ref (zad g 0), .int a1] : List Value)).length) Slot.unset).toArray = ls at hl ⊢
  have hl : lv_has ls 3 [(0, .ref (zad g 0)), (1, .int a1)] := hl
  unfold fX9_stopAt at h
  refine lv_aload_n hx hb dX9_stopAt_0 rfl (lv_at hl 0 rfl) ?_
  refine zgX9_8 (v := (zI S 0)) hx hb hf hown P0 Z L71 rfl dX9_stopAt_1 ?_
  refine lv_if_ne (tgt := 10) hx hb dX9_stopAt_4 (by decide) (fun q => ?_) (fun q => ?_)
  · have h := zi_f q h
    refine lv_iload_n hx hb dX9_stopAt_10 rfl (lv_at hl 1 rfl) ?_
    refine lv_iconst (v := (-1 : Int32)) hx hb dX9_stopAt_11 (by decide) ?_
    refine lv_icmp_lt (tgt := 26) hx hb dX9_stopAt_12 (by decide) (fun q => ?_) (fun q => ?_)
    · have h := zi_t q h
      refine lv_iconst (v := (-1 : Int32)) hx hb dX9_stopAt_26 (by decide) ?_
      exact zr_i hY P0 hx hb hr hlocks h Z dX9_stopAt_27
    · have h := zi_f q h
      refine lv_iload_n hx hb dX9_stopAt_15 rfl (lv_at hl 1 rfl) ?_
      refine lv_aload_n hx hb dX9_stopAt_16 rfl (lv_at hl 0 rfl) ?_
      refine zgX9_1 hx hb hf hown P0 Z L19 dX9_stopAt_17 ?_
      obtain ⟨r1, S2, ec, h⟩ := zbd_s h
      refine zc_Vi hY P0 ⟨hx, hb, hml, hown, hT⟩ (As := []) (rest := [.int a1]) (kX4_size l hO  S r1 S2 ec) (cwV 0 hT (zgV mL_X9_118 mI_X4_size mS_X4_size mN_X4 mC_X4_size) rfl rfl rfl hdnX4_size ⟨Nat.le_of_ble_eq_true rfl, Nat.le_of_ble_eq_true rfl⟩) (zrecX_2 P0 Z) Z rfl hl.1 rfl (Nat.le_of_ble_eq_true rfl) dX9_stopAt_20 (fun H locs Z => ?_)
      refine lv_icmp_lt (tgt := 28) hx hb dX9_stopAt_23 (by decide) (fun q => ?_) (fun q => ?_)
      · have h := zi_t q h
        refine lv_aload_n hx hb dX9_stopAt_28 rfl (lv_at hl 0 rfl) ?_
        refine zgX9_12 (v := (zI S2 4)) hx hb hf hown P0 Z L85 rfl dX9_stopAt_29 ?_
        refine lv_istore_n (lv' := [(2, .int (zI S2 4)), (0, .ref (zad g 0)), (1, .int a1)]) hx hb dX9_stopAt_32 rfl hl (by decide) rfl (fun ls hl => ?_)
        refine lv_aload_n hx hb dX9_stopAt_33 rfl (lv_at hl 1 rfl) ?_
        refine lv_iload_n hx hb dX9_stopAt_34 rfl (lv_at hl 2 rfl) ?_
        refine zpX9_12 hO hx hb hf hown P0 Z L85 dX9_stopAt_35 (fun H locs Z => ?_)
        refine lv_iload_n hx hb dX9_stopAt_38 rfl (lv_at hl 0 rfl) ?_
        exact zr_i hY P0 hx hb hr hlocks h Z dX9_stopAt_39
      · have h := zi_f q h
        refine lv_iconst (v := (-1 : Int32)) hx hb dX9_stopAt_26 (by decide) ?_
        exact zr_i hY P0 hx hb hr hlocks h Z dX9_stopAt_27
  · have h := zi_t q h
    refine lv_bipush (v := (-3 : Int32)) hx hb dX9_stopAt_7 (by decide) ?_
    exact zr_i hY P0 hx hb hr hlocks h Z dX9_stopAt_9

set_option maxHeartbeats 4000000 in
set_option maxRecDepth 100000 in
theorem kX0_isFree {g : zG} (l : Launch) (hO : zinjX g) (a1 : Int32) (S : zSt) (r : Int32) (S' : zSt) (h : fX0_isFree a1 S = some (r, S')) : zMi (zYX g) l yX0_isFree vX0_isFree { frames := 1, cells := 0, slots := 0, locals := 21 } ([.ref (zad g 5), .int a1] : List Value) S r S' := by
  have hY := zOkX hO
  refine Met.ofW (cc := cX0_isFree) (maxL := 2) (ret := (some .boolean)) (by decide) rfl ?_
  intro p e s m args below meth c s₁ B hml hv
  obtain ⟨rfl, hP⟩ := hv
  have hx := B.exec
  have hb := B.bytes
  have hr := B.returns
  have hts := atoms_spec (ws := vX0_isFree) B.pre
  have hT : ∀ w ∈ zTB, w.before ([.ref (zad g 5), .int a1] : List Value).toArray s = true := fun w h => hts w (List.mem_cons_of_mem _ h)
  have hown : s.vm.findClass RX0 = some m.cls := findClass_of_methodNamed B.named
  have hlocks := B.notSynchronized
  have P0 := hP.2
  have Z : zZ (zYX g) S s s.heap [] := ⟨hP.1, va_S.rf⟩
  have hl := lv_entry ([.ref (zad g 5), .int a1] : List Value) (n := 2) (Nat.le_of_ble_eq_true rfl)
  rw [lg_entry_eq]
  generalize (lg_sl ([.ref (zad g 5), .int a1] : List Value) ++ List.replicate (2 - (lg_sl ([.ref (zad g 5), .int a1] : List Value)).length) Slot.unset).toArray = ls at hl ⊢
  have hl : lv_has ls 2 [(0, .ref (zad g 5)), (1, .int a1)] := hl
  unfold fX0_isFree at h
  refine lv_aload_n hx hb dX0_isFree_0 rfl (lv_at hl 0 rfl) ?_
  refine lv_iload_n hx hb dX0_isFree_1 rfl (lv_at hl 1 rfl) ?_
  obtain ⟨r1, S2, ec, h⟩ := zbd_s h
  refine zc_Vi hY P0 ⟨hx, hb, hml, hown, hT⟩ (As := [.int a1]) (rest := []) (kX0_kindOf l hO a1 S r1 S2 ec) (cwV 1 hT (zgV mL_X0_48 mI_X0_kindOf mS_X0_kindOf mN_X0 mC_X0_kindOf) rfl rfl rfl hdnX0_kindOf ⟨Nat.le_of_ble_eq_true rfl, Nat.le_of_ble_eq_true rfl⟩) (zrecX_5 P0 Z) Z rfl hl.1 rfl (Nat.le_of_ble_eq_true rfl) dX0_isFree_2 (fun H locs Z => ?_)
  refine lv_iconst (v := (-1 : Int32)) hx hb dX0_isFree_5 (by decide) ?_
  refine lv_icmp_ne (tgt := 13) hx hb dX0_isFree_6 (by decide) (fun q => ?_) (fun q => ?_)
  · have h := zi_f q h
    refine lv_iconst (v := (nI 0)) hx hb dX0_isFree_13 (by decide) ?_
    exact zr_z hY P0 hx hb hr hlocks (by decide) h Z dX0_isFree_14
  · have h := zi_t q h
    refine lv_iconst (v := (nI 1)) hx hb dX0_isFree_9 (by decide) ?_
    refine lv_goto (tgt := 14) hx hb dX0_isFree_10 (by decide) ?_
    exact zr_z hY P0 hx hb hr hlocks (by decide) h Z dX0_isFree_14

set_option maxHeartbeats 4000000 in
set_option maxRecDepth 100000 in
theorem kX0_free {g : zG} (l : Launch) (hO : zinjX g) (a1 : Int32) (S : zSt) (r : Unit) (S' : zSt) (h : fX0_free a1 S = some (r, S')) : zMv (zYX g) l yX0_free vX0_free { frames := 2, cells := 0, slots := 0, locals := 42 } ([.ref (zad g 5), .int a1] : List Value) S S' := by
  have hY := zOkX hO
  refine Met.ofW (cc := cX0_free) (maxL := 2) (ret := none) (by decide) rfl ?_
  intro p e s m args below meth c s₁ B hml hv
  obtain ⟨rfl, hP⟩ := hv
  have hx := B.exec
  have hb := B.bytes
  have hr := B.returns
  have hts := atoms_spec (ws := vX0_free) B.pre
  have hT : ∀ w ∈ zTB, w.before ([.ref (zad g 5), .int a1] : List Value).toArray s = true := fun w h => hts w (List.mem_cons_of_mem _ h)
  have hown : s.vm.findClass RX0 = some m.cls := findClass_of_methodNamed B.named
  have hlocks := B.notSynchronized
  have P0 := hP.2
  have Z : zZ (zYX g) S s s.heap [] := ⟨hP.1, va_S.rf⟩
  have hf : ∀ w ∈ u_ws RX0 TX0 9, w.before ([.ref (zad g 5), .int a1] : List Value).toArray s = true := fun w hw => hT w (mU_X0 w hw)
  have L24 := hT _ mF_X0_24
  have L34 := hT _ mF_X0_34
  have hl := lv_entry ([.ref (zad g 5), .int a1] : List Value) (n := 2) (Nat.le_of_ble_eq_true rfl)
  rw [lg_entry_eq]
  generalize (lg_sl ([.ref (zad g 5), .int a1] : List Value) ++ List.replicate (2 - (lg_sl ([.ref (zad g 5), .int a1] : List Value)).length) Slot.unset).toArray = ls at hl ⊢
  have hl : lv_has ls 2 [(0, .ref (zad g 5)), (1, .int a1)] := hl
  unfold fX0_free at h
  refine lv_aload_n hx hb dX0_free_0 rfl (lv_at hl 0 rfl) ?_
  refine lv_iload_n hx hb dX0_free_1 rfl (lv_at hl 1 rfl) ?_
  obtain ⟨r1, S2, ec, h⟩ := zbd_s h
  refine zc_Vi hY P0 ⟨hx, hb, hml, hown, hT⟩ (As := [.int a1]) (rest := []) (kX0_isFree l hO a1 S r1 S2 ec) (cwV 1 hT (zgV mL_X0_40 mI_X0_isFree mS_X0_isFree mN_X0 mC_X0_isFree) rfl rfl rfl hdnX0_isFree ⟨Nat.le_of_ble_eq_true rfl, Nat.le_of_ble_eq_true rfl⟩) (zrecX_5 P0 Z) Z rfl hl.1 rfl (Nat.le_of_ble_eq_true rfl) dX0_free_2 (fun H locs Z => ?_)
  refine lv_if_ne (tgt := 47) hx hb dX0_free_5 (by decide) (fun q => ?_) (fun q => ?_)
  · have h := zi_f q h
    exact zr_v hY P0 hx hb hr hlocks h Z dX0_free_47
  · have h := zi_t q h
    refine lv_aload_n hx hb dX0_free_8 rfl (lv_at hl 0 rfl) ?_
    refine lv_iload_n hx hb dX0_free_9 rfl (lv_at hl 1 rfl) ?_
    refine lv_iconst (v := (-1 : Int32)) hx hb dX0_free_10 (by decide) ?_
    refine lv_iconst (v := (nI 0)) hx hb dX0_free_11 (by decide) ?_
    refine lv_bipush (v := (-3 : Int32)) hx hb dX0_free_12 (by decide) ?_
    obtain ⟨r3, S4, ec, h⟩ := zbd_s h
    refine zc_Vv hY P0 ⟨hx, hb, hml, hown, hT⟩ (As := [.int a1, .int (-1 : Int32), .int (nI 0), .int (-3 : Int32)]) (rest := []) (kX0_become l hO a1 (-1 : Int32) (nI 0) (-3 : Int32) S2 r3 S4 ec) (cwV 4 hT (zgV mL_X0_44 mI_X0_become mS_X0_become mN_X0 mC_X0_become) rfl rfl rfl hdnX0_become ⟨Nat.le_of_ble_eq_true rfl, Nat.le_of_ble_eq_true rfl⟩) (zrecX_5 P0 Z) Z rfl hl.1 rfl (Nat.le_of_ble_eq_true rfl) dX0_free_14 (fun H locs Z => ?_)
    refine lv_aload_n hx hb dX0_free_17 rfl (lv_at hl 0 rfl) ?_
    refine lv_dup hx hb dX0_free_18 rfl ?_
    refine zgX0_4 (v := (zI S4 14)) hx hb hf hown P0 Z L24 rfl dX0_free_19 ?_
    refine lv_iconst (v := (nI 1)) hx hb dX0_free_22 (by decide) ?_
    refine lv_isub hx hb dX0_free_23 ?_
    refine zpX0_4 hO hx hb hf hown P0 Z L24 dX0_free_24 (fun H locs Z => ?_)
    refine lv_aload_n hx hb dX0_free_27 rfl (lv_at hl 0 rfl) ?_
    refine lv_iload_n hx hb dX0_free_28 rfl (lv_at hl 1 rfl) ?_
    refine lv_aload_n hx hb dX0_free_29 rfl (lv_at hl 0 rfl) ?_
    refine zgX0_7 (v := (zI S4 17)) hx hb hf hown P0 Z L34 rfl dX0_free_30 ?_
    refine lv_icmp_ge (tgt := 40) hx hb dX0_free_33 (by decide) (fun q => ?_) (fun q => ?_)
    · have h := zi_t q h
      refine lv_aload_n hx hb dX0_free_40 rfl (lv_at hl 0 rfl) ?_
      refine zgX0_7 (v := (zI S4 17)) hx hb hf hown P0 Z L34 rfl dX0_free_41 ?_
      refine zpX0_7 hO hx hb hf hown P0 Z L34 dX0_free_44 (fun H locs Z => ?_)
      exact zr_v hY P0 hx hb hr hlocks h Z dX0_free_47
    · have h := zi_f q h
      refine lv_iload_n hx hb dX0_free_36 rfl (lv_at hl 1 rfl) ?_
      refine lv_goto (tgt := 44) hx hb dX0_free_37 (by decide) ?_
      refine zpX0_7 hO hx hb hf hown P0 Z L34 dX0_free_44 (fun H locs Z => ?_)
      exact zr_v hY P0 hx hb hr hlocks h Z dX0_free_47

set_option maxHeartbeats 4000000 in
set_option maxRecDepth 100000 in
theorem kX0_hasOne {g : zG} (l : Launch) (hO : zinjX g) (a1 : Int32) (S : zSt) (r : Int32) (S' : zSt) (h : fX0_hasOne a1 S = some (r, S')) : zMi (zYX g) l yX0_hasOne vX0_hasOne { frames := 1, cells := 0, slots := 0, locals := 21 } ([.ref (zad g 5), .int a1] : List Value) S r S' := by
  have hY := zOkX hO
  refine Met.ofW (cc := cX0_hasOne) (maxL := 2) (ret := (some .boolean)) (by decide) rfl ?_
  intro p e s m args below meth c s₁ B hml hv
  obtain ⟨rfl, hP⟩ := hv
  have hx := B.exec
  have hb := B.bytes
  have hr := B.returns
  have hts := atoms_spec (ws := vX0_hasOne) B.pre
  have hT : ∀ w ∈ zTB, w.before ([.ref (zad g 5), .int a1] : List Value).toArray s = true := fun w h => hts w (List.mem_cons_of_mem _ h)
  have hown : s.vm.findClass RX0 = some m.cls := findClass_of_methodNamed B.named
  have hlocks := B.notSynchronized
  have P0 := hP.2
  have Z : zZ (zYX g) S s s.heap [] := ⟨hP.1, va_S.rf⟩
  have hl := lv_entry ([.ref (zad g 5), .int a1] : List Value) (n := 2) (Nat.le_of_ble_eq_true rfl)
  rw [lg_entry_eq]
  generalize (lg_sl ([.ref (zad g 5), .int a1] : List Value) ++ List.replicate (2 - (lg_sl ([.ref (zad g 5), .int a1] : List Value)).length) Slot.unset).toArray = ls at hl ⊢
  have hl : lv_has ls 2 [(0, .ref (zad g 5)), (1, .int a1)] := hl
  unfold fX0_hasOne at h
  refine lv_aload_n hx hb dX0_hasOne_0 rfl (lv_at hl 0 rfl) ?_
  refine lv_iload_n hx hb dX0_hasOne_1 rfl (lv_at hl 1 rfl) ?_
  obtain ⟨r1, S2, ec, h⟩ := zbd_s h
  refine zc_Vi hY P0 ⟨hx, hb, hml, hown, hT⟩ (As := [.int a1]) (rest := []) (kX0_kindOf l hO a1 S r1 S2 ec) (cwV 1 hT (zgV mL_X0_48 mI_X0_kindOf mS_X0_kindOf mN_X0 mC_X0_kindOf) rfl rfl rfl hdnX0_kindOf ⟨Nat.le_of_ble_eq_true rfl, Nat.le_of_ble_eq_true rfl⟩) (zrecX_5 P0 Z) Z rfl hl.1 rfl (Nat.le_of_ble_eq_true rfl) dX0_hasOne_2 (fun H locs Z => ?_)
  refine lv_bipush (v := (nI 6)) hx hb dX0_hasOne_5 (by decide) ?_
  refine lv_icmp_ne (tgt := 14) hx hb dX0_hasOne_7 (by decide) (fun q => ?_) (fun q => ?_)
  · have h := zi_f q h
    refine lv_iconst (v := (nI 0)) hx hb dX0_hasOne_14 (by decide) ?_
    exact zr_z hY P0 hx hb hr hlocks (by decide) h Z dX0_hasOne_15
  · have h := zi_t q h
    refine lv_iconst (v := (nI 1)) hx hb dX0_hasOne_10 (by decide) ?_
    refine lv_goto (tgt := 15) hx hb dX0_hasOne_11 (by decide) ?_
    exact zr_z hY P0 hx hb hr hlocks (by decide) h Z dX0_hasOne_15

set_option maxHeartbeats 4000000 in
set_option maxRecDepth 100000 in
theorem kX0_hasTwo {g : zG} (l : Launch) (hO : zinjX g) (a1 : Int32) (S : zSt) (r : Int32) (S' : zSt) (h : fX0_hasTwo a1 S = some (r, S')) : zMi (zYX g) l yX0_hasTwo vX0_hasTwo { frames := 1, cells := 0, slots := 0, locals := 21 } ([.ref (zad g 5), .int a1] : List Value) S r S' := by
  have hY := zOkX hO
  refine Met.ofW (cc := cX0_hasTwo) (maxL := 3) (ret := (some .boolean)) (by decide) rfl ?_
  intro p e s m args below meth c s₁ B hml hv
  obtain ⟨rfl, hP⟩ := hv
  have hx := B.exec
  have hb := B.bytes
  have hr := B.returns
  have hts := atoms_spec (ws := vX0_hasTwo) B.pre
  have hT : ∀ w ∈ zTB, w.before ([.ref (zad g 5), .int a1] : List Value).toArray s = true := fun w h => hts w (List.mem_cons_of_mem _ h)
  have hown : s.vm.findClass RX0 = some m.cls := findClass_of_methodNamed B.named
  have hlocks := B.notSynchronized
  have P0 := hP.2
  have Z : zZ (zYX g) S s s.heap [] := ⟨hP.1, va_S.rf⟩
  have hl := lv_entry ([.ref (zad g 5), .int a1] : List Value) (n := 3) (Nat.le_of_ble_eq_true rfl)
  rw [lg_entry_eq]
  generalize (lg_sl ([.ref (zad g 5), .int a1] : List Value) ++ List.replicate (3 - (lg_sl ([.ref (zad g 5), .int a1] : List Value)).length) Slot.unset).toArray = ls at hl ⊢
  have hl : lv_has ls 3 [(0, .ref (zad g 5)), (1, .int a1)] := hl
  unfold fX0_hasTwo at h
  refine lv_aload_n hx hb dX0_hasTwo_0 rfl (lv_at hl 0 rfl) ?_
  refine lv_iload_n hx hb dX0_hasTwo_1 rfl (lv_at hl 1 rfl) ?_
  obtain ⟨r1, S2, ec, h⟩ := zbd_s h
  refine zc_Vi hY P0 ⟨hx, hb, hml, hown, hT⟩ (As := [.int a1]) (rest := []) (kX0_kindOf l hO a1 S r1 S2 ec) (cwV 1 hT (zgV mL_X0_48 mI_X0_kindOf mS_X0_kindOf mN_X0 mC_X0_kindOf) rfl rfl rfl hdnX0_kindOf ⟨Nat.le_of_ble_eq_true rfl, Nat.le_of_ble_eq_true rfl⟩) (zrecX_5 P0 Z) Z rfl hl.1 rfl (Nat.le_of_ble_eq_true rfl) dX0_hasTwo_2 (fun H locs Z => ?_)
  refine lv_istore_n (lv' := [(2, .int r1), (0, .ref (zad g 5)), (1, .int a1)]) hx hb dX0_hasTwo_5 rfl hl (by decide) rfl (fun ls hl => ?_)
  refine lv_iload_n hx hb dX0_hasTwo_6 rfl (lv_at hl 0 rfl) ?_
  refine lv_iconst (v := (nI 1)) hx hb dX0_hasTwo_7 (by decide) ?_
  refine lv_icmp_eq (tgt := 16) hx hb dX0_hasTwo_8 (by decide) (fun q => ?_) (fun q => ?_)
  · have h := zi_t q h
    refine lv_iconst (v := (nI 1)) hx hb dX0_hasTwo_16 (by decide) ?_
    refine lv_goto (tgt := 21) hx hb dX0_hasTwo_17 (by decide) ?_
    exact zr_z hY P0 hx hb hr hlocks (by decide) h Z dX0_hasTwo_21
  · have h := zi_f q h
    refine lv_iload_n hx hb dX0_hasTwo_11 rfl (lv_at hl 0 rfl) ?_
    refine lv_iconst (v := (nI 4)) hx hb dX0_hasTwo_12 (by decide) ?_
    refine lv_icmp_ne (tgt := 20) hx hb dX0_hasTwo_13 (by decide) (fun q => ?_) (fun q => ?_)
    · have h := zi_f q h
      refine lv_iconst (v := (nI 0)) hx hb dX0_hasTwo_20 (by decide) ?_
      exact zr_z hY P0 hx hb hr hlocks (by decide) h Z dX0_hasTwo_21
    · have h := zi_t q h
      refine lv_iconst (v := (nI 1)) hx hb dX0_hasTwo_16 (by decide) ?_
      refine lv_goto (tgt := 21) hx hb dX0_hasTwo_17 (by decide) ?_
      exact zr_z hY P0 hx hb hr hlocks (by decide) h Z dX0_hasTwo_21

set_option maxHeartbeats 4000000 in
set_option maxRecDepth 100000 in
theorem kX1_addFound {g : zG} (l : Launch) (hO : zinjX g) (a1 : Int32) (a2 : Int32) (S : zSt) (r : Unit) (S' : zSt) (h : fX1_addFound a1 a2 S = some (r, S')) : zMv (zYX g) l yX1_addFound vX1_addFound { frames := 0, cells := 0, slots := 0, locals := 0 } ([.ref (zad g 9), .int a1, .int a2] : List Value) S S' := by
  have hY := zOkX hO
  refine Met.ofW (cc := cX1_addFound) (maxL := 3) (ret := none) (by decide) rfl ?_
  intro p e s m args below meth c s₁ B hml hv
  obtain ⟨rfl, hP⟩ := hv
  have hx := B.exec
  have hb := B.bytes
  have hr := B.returns
  have hts := atoms_spec (ws := vX1_addFound) B.pre
  have hT : ∀ w ∈ zTB, w.before ([.ref (zad g 9), .int a1, .int a2] : List Value).toArray s = true := fun w h => hts w (List.mem_cons_of_mem _ h)
  have hown : s.vm.findClass RX1 = some m.cls := findClass_of_methodNamed B.named
  have hlocks := B.notSynchronized
  have P0 := hP.2
  have Z : zZ (zYX g) S s s.heap [] := ⟨hP.1, va_S.rf⟩
  have hf : ∀ w ∈ u_ws RX1 TX1 7, w.before ([.ref (zad g 9), .int a1, .int a2] : List Value).toArray s = true := fun w hw => hT w (mU_X1 w hw)
  have L15 := hT _ mF_X1_15
  have L22 := hT _ mF_X1_22
  have L9 := hT _ mF_X1_9
  have hl := lv_entry ([.ref (zad g 9), .int a1, .int a2] : List Value) (n := 3) (Nat.le_of_ble_eq_true rfl)
  rw [lg_entry_eq]
  generalize (lg_sl ([.ref (zad g 9), .int a1, .int a2] : List Value) ++ List.replicate (3 - (lg_sl ([.ref (zad g 9), .int a1, .int a2] : List Value)).length) Slot.unset).toArray = ls at hl ⊢
  have hl : lv_has ls 3 [(0, .ref (zad g 9)), (1, .int a1), (2, .int a2)] := hl
  unfold fX1_addFound at h
  refine lv_iload_n hx hb dX1_addFound_0 rfl (lv_at hl 1 rfl) ?_
  refine lv_if_lt (tgt := 55) hx hb dX1_addFound_1 (by decide) (fun q => ?_) (fun q => ?_)
  · have h := zi_t q h
    exact zr_v hY P0 hx hb hr hlocks h Z dX1_addFound_55
  · have h := zi_f q h
    refine lv_iload_n hx hb dX1_addFound_4 rfl (lv_at hl 1 rfl) ?_
    refine lv_sipush (v := (nI 400)) hx hb dX1_addFound_5 (by decide) ?_
    refine lv_icmp_ge (tgt := 55) hx hb dX1_addFound_8 (by decide) (fun q => ?_) (fun q => ?_)
    · have h := zi_t q h
      exact zr_v hY P0 hx hb hr hlocks h Z dX1_addFound_55
    · have h := zi_f q h
      refine lv_aload_n hx hb dX1_addFound_11 rfl (lv_at hl 0 rfl) ?_
      refine zgX1_4 (v := (zI S 27)) hx hb hf hown P0 Z L15 rfl dX1_addFound_12 ?_
      refine lv_if_lt (tgt := 55) hx hb dX1_addFound_15 (by decide) (fun q => ?_) (fun q => ?_)
      · have h := zi_t q h
        exact zr_v hY P0 hx hb hr hlocks h Z dX1_addFound_55
      · have h := zi_f q h
        refine lv_aload_n hx hb dX1_addFound_18 rfl (lv_at hl 0 rfl) ?_
        refine zgX1_4 (v := (zI S 27)) hx hb hf hown P0 Z L15 rfl dX1_addFound_19 ?_
        refine lv_sipush (v := (nI 400)) hx hb dX1_addFound_22 (by decide) ?_
        refine lv_icmp_ge (tgt := 55) hx hb dX1_addFound_25 (by decide) (fun q => ?_) (fun q => ?_)
        · have h := zi_t q h
          exact zr_v hY P0 hx hb hr hlocks h Z dX1_addFound_55
        · have h := zi_f q h
          refine lv_aload_n hx hb dX1_addFound_28 rfl (lv_at hl 0 rfl) ?_
          refine zgX1_6 hx hb hf hown P0 Z L22 dX1_addFound_29 ?_
          refine lv_iload_n hx hb dX1_addFound_32 rfl (lv_at hl 1 rfl) ?_
          refine lv_iload_n hx hb dX1_addFound_33 rfl (lv_at hl 2 rfl) ?_
          obtain ⟨hin, h⟩ := zck_s h
          refine zsX_38 hO hx hb P0 Z hin dX1_addFound_34 (fun H locs Z => ?_)
          refine lv_aload_n hx hb dX1_addFound_35 rfl (lv_at hl 0 rfl) ?_
          refine zgX1_3 hx hb hf hown P0 Z L9 dX1_addFound_36 ?_
          refine lv_aload_n hx hb dX1_addFound_39 rfl (lv_at hl 0 rfl) ?_
          refine zgX1_4 (v := (zI S 27)) hx hb hf hown P0 Z L15 rfl dX1_addFound_40 ?_
          refine lv_iload_n hx hb dX1_addFound_43 rfl (lv_at hl 1 rfl) ?_
          obtain ⟨hin, h⟩ := zck_s h
          refine zsX_36 hO hx hb P0 Z hin dX1_addFound_44 (fun H locs Z => ?_)
          refine lv_aload_n hx hb dX1_addFound_45 rfl (lv_at hl 0 rfl) ?_
          refine lv_dup hx hb dX1_addFound_46 rfl ?_
          refine zgX1_4 (v := (zI S 27)) hx hb hf hown P0 Z L15 rfl dX1_addFound_47 ?_
          refine lv_iconst (v := (nI 1)) hx hb dX1_addFound_50 (by decide) ?_
          refine lv_iadd hx hb dX1_addFound_51 ?_
          refine zpX1_4 hO hx hb hf hown P0 Z L15 dX1_addFound_52 (fun H locs Z => ?_)
          exact zr_v hY P0 hx hb hr hlocks h Z dX1_addFound_55

set_option maxHeartbeats 4000000 in
set_option maxRecDepth 100000 in
theorem kX1_lengthOf {g : zG} (l : Launch) (hO : zinjX g) (a1 : Int32) (S : zSt) (r : Int32) (S' : zSt) (h : fX1_lengthOf a1 S = some (r, S')) : zMi (zYX g) l yX1_lengthOf vX1_lengthOf { frames := 0, cells := 0, slots := 0, locals := 0 } ([.ref (zad g 9), .int a1] : List Value) S r S' := by
  have hY := zOkX hO
  refine Met.ofW (cc := cX1_lengthOf) (maxL := 2) (ret := (some .int)) (by decide) rfl ?_
  intro p e s m args below meth c s₁ B hml hv
  obtain ⟨rfl, hP⟩ := hv
  have hx := B.exec
  have hb := B.bytes
  have hr := B.returns
  have hts := atoms_spec (ws := vX1_lengthOf) B.pre
  have hT : ∀ w ∈ zTB, w.before ([.ref (zad g 9), .int a1] : List Value).toArray s = true := fun w h => hts w (List.mem_cons_of_mem _ h)
  have hown : s.vm.findClass RX1 = some m.cls := findClass_of_methodNamed B.named
  have hlocks := B.notSynchronized
  have P0 := hP.2
  have Z : zZ (zYX g) S s s.heap [] := ⟨hP.1, va_S.rf⟩
  have hf : ∀ w ∈ u_ws RX1 TX1 7, w.before ([.ref (zad g 9), .int a1] : List Value).toArray s = true := fun w hw => hT w (mU_X1 w hw)
  have L19 := hT _ mF_X1_19
  have hl := lv_entry ([.ref (zad g 9), .int a1] : List Value) (n := 2) (Nat.le_of_ble_eq_true rfl)
  rw [lg_entry_eq]
  generalize (lg_sl ([.ref (zad g 9), .int a1] : List Value) ++ List.replicate (2 - (lg_sl ([.ref (zad g 9), .int a1] : List Value)).length) Slot.unset).toArray = ls at hl ⊢
  have hl : lv_has ls 2 [(0, .ref (zad g 9)), (1, .int a1)] := hl
  unfold fX1_lengthOf at h
  refine lv_iload_n hx hb dX1_lengthOf_0 rfl (lv_at hl 1 rfl) ?_
  refine lv_if_lt (tgt := 20) hx hb dX1_lengthOf_1 (by decide) (fun q => ?_) (fun q => ?_)
  · have h := zi_t q h
    refine lv_iconst (v := (nI 0)) hx hb dX1_lengthOf_20 (by decide) ?_
    exact zr_i hY P0 hx hb hr hlocks h Z dX1_lengthOf_21
  · have h := zi_f q h
    refine lv_iload_n hx hb dX1_lengthOf_4 rfl (lv_at hl 1 rfl) ?_
    refine lv_sipush (v := (nI 400)) hx hb dX1_lengthOf_5 (by decide) ?_
    refine lv_icmp_ge (tgt := 20) hx hb dX1_lengthOf_8 (by decide) (fun q => ?_) (fun q => ?_)
    · have h := zi_t q h
      refine lv_iconst (v := (nI 0)) hx hb dX1_lengthOf_20 (by decide) ?_
      exact zr_i hY P0 hx hb hr hlocks h Z dX1_lengthOf_21
    · have h := zi_f q h
      refine lv_aload_n hx hb dX1_lengthOf_11 rfl (lv_at hl 0 rfl) ?_
      refine zgX1_5 hx hb hf hown P0 Z L19 dX1_lengthOf_12 ?_
      refine lv_iload_n hx hb dX1_lengthOf_15 rfl (lv_at hl 1 rfl) ?_
      obtain ⟨v1, ev, hin, h⟩ := zld_s h
      refine zlX_37 hx hb P0 Z ev hin dX1_lengthOf_16 ?_
      refine lv_goto (tgt := 21) hx hb dX1_lengthOf_17 (by decide) ?_
      exact zr_i hY P0 hx hb hr hlocks h Z dX1_lengthOf_21

set_option maxHeartbeats 4000000 in
set_option maxRecDepth 100000 in
theorem kX1_comeTo {g : zG} (l : Launch) (hO : zinjX g) (a1 : Int32) (a2 : Int32) (S : zSt) (r : Unit) (S' : zSt) (h : fX1_comeTo a1 a2 S = some (r, S')) : zMv (zYX g) l yX1_comeTo vX1_comeTo { frames := 1, cells := 0, slots := 0, locals := 22 } ([.ref (zad g 9), .int a1, .int a2] : List Value) S S' := by
  have hY := zOkX hO
  refine Met.ofW (cc := cX1_comeTo) (maxL := 3) (ret := none) (by decide) rfl ?_
  intro p e s m args below meth c s₁ B hml hv
  obtain ⟨rfl, hP⟩ := hv
  have hx := B.exec
  have hb := B.bytes
  have hr := B.returns
  have hts := atoms_spec (ws := vX1_comeTo) B.pre
  have hT : ∀ w ∈ zTB, w.before ([.ref (zad g 9), .int a1, .int a2] : List Value).toArray s = true := fun w h => hts w (List.mem_cons_of_mem _ h)
  have hown : s.vm.findClass RX1 = some m.cls := findClass_of_methodNamed B.named
  have hlocks := B.notSynchronized
  have P0 := hP.2
  have Z : zZ (zYX g) S s s.heap [] := ⟨hP.1, va_S.rf⟩
  have hf : ∀ w ∈ u_ws RX1 TX1 7, w.before ([.ref (zad g 9), .int a1, .int a2] : List Value).toArray s = true := fun w hw => hT w (mU_X1 w hw)
  have L19 := hT _ mF_X1_19
  have hl := lv_entry ([.ref (zad g 9), .int a1, .int a2] : List Value) (n := 3) (Nat.le_of_ble_eq_true rfl)
  rw [lg_entry_eq]
  generalize (lg_sl ([.ref (zad g 9), .int a1, .int a2] : List Value) ++ List.replicate (3 - (lg_sl ([.ref (zad g 9), .int a1, .int a2] : List Value)).length) Slot.unset).toArray = ls at hl ⊢
  have hl : lv_has ls 3 [(0, .ref (zad g 9)), (1, .int a1), (2, .int a2)] := hl
  unfold fX1_comeTo at h
  refine lv_iload_n hx hb dX1_comeTo_0 rfl (lv_at hl 1 rfl) ?_
  refine lv_if_lt (tgt := 39) hx hb dX1_comeTo_1 (by decide) (fun q => ?_) (fun q => ?_)
  · have h := zi_t q h
    exact zr_v hY P0 hx hb hr hlocks h Z dX1_comeTo_39
  · have h := zi_f q h
    refine lv_iload_n hx hb dX1_comeTo_4 rfl (lv_at hl 1 rfl) ?_
    refine lv_sipush (v := (nI 400)) hx hb dX1_comeTo_5 (by decide) ?_
    refine lv_icmp_ge (tgt := 39) hx hb dX1_comeTo_8 (by decide) (fun q => ?_) (fun q => ?_)
    · have h := zi_t q h
      exact zr_v hY P0 hx hb hr hlocks h Z dX1_comeTo_39
    · have h := zi_f q h
      refine lv_aload_n hx hb dX1_comeTo_11 rfl (lv_at hl 0 rfl) ?_
      refine zgX1_5 hx hb hf hown P0 Z L19 dX1_comeTo_12 ?_
      refine lv_iload_n hx hb dX1_comeTo_15 rfl (lv_at hl 1 rfl) ?_
      obtain ⟨v1, ev, hin, h⟩ := zld_s h
      refine zlX_37 hx hb P0 Z ev hin dX1_comeTo_16 ?_
      refine lv_if_ne (tgt := 39) hx hb dX1_comeTo_17 (by decide) (fun q => ?_) (fun q => ?_)
      · have h := zi_f q h
        exact zr_v hY P0 hx hb hr hlocks h Z dX1_comeTo_39
      · have h := zi_t q h
        refine lv_aload_n hx hb dX1_comeTo_20 rfl (lv_at hl 0 rfl) ?_
        refine zgX1_5 hx hb hf hown P0 Z L19 dX1_comeTo_21 ?_
        refine lv_iload_n hx hb dX1_comeTo_24 rfl (lv_at hl 1 rfl) ?_
        refine lv_aload_n hx hb dX1_comeTo_25 rfl (lv_at hl 0 rfl) ?_
        refine lv_iload_n hx hb dX1_comeTo_26 rfl (lv_at hl 2 rfl) ?_
        obtain ⟨r2, S3, ec, h⟩ := zbd_s h
        refine zc_Vi hY P0 ⟨hx, hb, hml, hown, hT⟩ (As := [.int a2]) (rest := [.int a1, .ref (zad g 37)]) (kX1_lengthOf l hO a2 S r2 S3 ec) (cwV 1 hT (zgV mL_X1_40 mI_X1_lengthOf mS_X1_lengthOf mN_X1 mC_X1_lengthOf) rfl rfl rfl hdnX1_lengthOf ⟨Nat.le_of_ble_eq_true rfl, Nat.le_of_ble_eq_true rfl⟩) (zrecX_9 P0 Z) Z rfl hl.1 rfl (Nat.le_of_ble_eq_true rfl) dX1_comeTo_27 (fun H locs Z => ?_)
        refine lv_iconst (v := (nI 1)) hx hb dX1_comeTo_30 (by decide) ?_
        refine lv_iadd hx hb dX1_comeTo_31 ?_
        obtain ⟨hin, h⟩ := zck_s h
        refine zsX_37 hO hx hb P0 Z hin dX1_comeTo_32 (fun H locs Z => ?_)
        refine lv_aload_n hx hb dX1_comeTo_33 rfl (lv_at hl 0 rfl) ?_
        refine lv_iload_n hx hb dX1_comeTo_34 rfl (lv_at hl 1 rfl) ?_
        refine lv_iload_n hx hb dX1_comeTo_35 rfl (lv_at hl 2 rfl) ?_
        obtain ⟨r4, S5, ec, h⟩ := zbd_s h
        refine zc_Vv hY P0 ⟨hx, hb, hml, hown, hT⟩ (As := [.int a1, .int a2]) (rest := []) (kX1_addFound l hO a1 a2 (wA S3 37 (a1.toNatClampNeg) (r2 + (nI 1))) r4 S5 ec) (cwV 2 hT (zgV mL_X1_78 mI_X1_addFound mS_X1_addFound mN_X1 mC_X1_addFound) rfl rfl rfl hdnX1_addFound ⟨Nat.le_of_ble_eq_true rfl, Nat.le_of_ble_eq_true rfl⟩) (zrecX_9 P0 Z) Z rfl hl.1 rfl (Nat.le_of_ble_eq_true rfl) dX1_comeTo_36 (fun H locs Z => ?_)
        exact zr_v hY P0 hx hb hr hlocks h Z dX1_comeTo_39

set_option maxHeartbeats 4000000 in
set_option maxRecDepth 100000 in
theorem kX6_size {g : zG} (l : Launch) (hO : zinjX g) (S : zSt) (r : Int32) (S' : zSt) (h : fX6_size S = some (r, S')) : zMi (zYX g) l yX6_size vX6_size { frames := 0, cells := 0, slots := 0, locals := 0 } ([.ref (zad g 6)] : List Value) S r S' := by
  have hY := zOkX hO
  refine Met.ofW (cc := cX6_size) (maxL := 1) (ret := (some .int)) (by decide) rfl ?_
  intro p e s m args below meth c s₁ B hml hv
  obtain ⟨rfl, hP⟩ := hv
  have hx := B.exec
  have hb := B.bytes
  have hr := B.returns
  have hts := atoms_spec (ws := vX6_size) B.pre
  have hT : ∀ w ∈ zTB, w.before ([.ref (zad g 6)] : List Value).toArray s = true := fun w h => hts w (List.mem_cons_of_mem _ h)
  have hown : s.vm.findClass RX6 = some m.cls := findClass_of_methodNamed B.named
  have hlocks := B.notSynchronized
  have P0 := hP.2
  have Z : zZ (zYX g) S s s.heap [] := ⟨hP.1, va_S.rf⟩
  have hf : ∀ w ∈ u_ws RX6 TX6 4, w.before ([.ref (zad g 6)] : List Value).toArray s = true := fun w hw => hT w (mU_X6 w hw)
  have L18 := hT _ mF_X6_18
  have hl := lv_entry ([.ref (zad g 6)] : List Value) (n := 1) (Nat.le_of_ble_eq_true rfl)
  rw [lg_entry_eq]
  generalize (lg_sl ([.ref (zad g 6)] : List Value) ++ List.replicate (1 - (lg_sl ([.ref (zad g 6)] : List Value)).length) Slot.unset).toArray = ls at hl ⊢
  have hl : lv_has ls 1 [(0, .ref (zad g 6))] := hl
  unfold fX6_size at h
  refine lv_aload_n hx hb dX6_size_0 rfl (lv_at hl 0 rfl) ?_
  refine zgX6_2 (v := (zI S 19)) hx hb hf hown P0 Z L18 rfl dX6_size_1 ?_
  exact zr_i hY P0 hx hb hr hlocks h Z dX6_size_4

set_option maxHeartbeats 4000000 in
set_option maxRecDepth 100000 in
theorem kX1_markBeginnings {g : zG} (l : Launch) (hO : zinjX g) (S : zSt) (r : Unit) (S' : zSt) (h : fX1_markBeginnings S = some (r, S')) : zMv (zYX g) l yX1_markBeginnings vX1_markBeginnings { frames := 1, cells := 0, slots := 0, locals := 21 } ([.ref (zad g 9)] : List Value) S S' := by
  have hY := zOkX hO
  refine Met.ofW (cc := cX1_markBeginnings) (maxL := 3) (ret := none) (by decide) rfl ?_
  intro p e s m args below meth c s₁ B hml hv
  obtain ⟨rfl, hP⟩ := hv
  have hx := B.exec
  have hb := B.bytes
  have hr := B.returns
  have hts := atoms_spec (ws := vX1_markBeginnings) B.pre
  have hT : ∀ w ∈ zTB, w.before ([.ref (zad g 9)] : List Value).toArray s = true := fun w h => hts w (List.mem_cons_of_mem _ h)
  have hown : s.vm.findClass RX1 = some m.cls := findClass_of_methodNamed B.named
  have hlocks := B.notSynchronized
  have P0 := hP.2
  have Z : zZ (zYX g) S s s.heap [] := ⟨hP.1, va_S.rf⟩
  have hf : ∀ w ∈ u_ws RX1 TX1 7, w.before ([.ref (zad g 9)] : List Value).toArray s = true := fun w hw => hT w (mU_X1 w hw)
  have L19 := hT _ mF_X1_19
  have L25 := hT _ mF_X1_25
  have L33 := hT _ mF_X1_33
  have B39 : ∀ (n : Nat) (x1 : Int32) (S : zSt), fX1_markBeginnings_39L n (x1, S) = some (r, S') → ∀ (H : Heap) (locs : List Loc), zZ (zYX g) S s H locs → ∀ ls : Array Slot, lv_has ls 3 [(0, .ref (zad g 9)), (1, .int x1)] → W p l e (headSpec vX1_markBeginnings { frames := 1, cells := 0, slots := 0, locals := 21 }).room s m ([.ref (zad g 9)] : List Value).toArray below meth c H locs 0 0 (MQ below (zQv (zYX g) S') ([.ref (zad g 9)] : List Value).toArray s 0 0 (zYX g).2.2.1) (F0 m 39 ls []) := by
    intro n
    induction n with
    | zero => intro x1 S h; exact absurd h (fun h => nomatch h)
    | succ n K39 =>
      intro x1 S h H locs Z ls hl
      have h : fX1_markBeginnings_39 (fX1_markBeginnings_39L n) x1 S = some (r, S') := h
      unfold fX1_markBeginnings_39 at h
      refine lv_iload_n hx hb dX1_markBeginnings_39 rfl (lv_at hl 1 rfl) ?_
      refine lv_aload_n hx hb dX1_markBeginnings_40 rfl (lv_at hl 0 rfl) ?_
      refine zgX1_2 hx hb hf hown P0 Z L33 dX1_markBeginnings_41 ?_
      obtain ⟨r3, S4, ec, h⟩ := zbd_s h
      refine zc_Vi hY P0 ⟨hx, hb, hml, hown, hT⟩ (As := []) (rest := [.int x1]) (kX6_size l hO  S r3 S4 ec) (cwV 0 hT (zgV mL_X1_66 mI_X6_size mS_X6_size mN_X6 mC_X6_size) rfl rfl rfl hdnX6_size ⟨Nat.le_of_ble_eq_true rfl, Nat.le_of_ble_eq_true rfl⟩) (zrecX_6 P0 Z) Z rfl hl.1 rfl (Nat.le_of_ble_eq_true rfl) dX1_markBeginnings_44 (fun H locs Z => ?_)
      refine lv_icmp_ge (tgt := 83) hx hb dX1_markBeginnings_47 (by decide) (fun q => ?_) (fun q => ?_)
      · have h := zi_t q h
        exact zr_v hY P0 hx hb hr hlocks h Z dX1_markBeginnings_83
      · have h := zi_f q h
        refine lv_aload_n hx hb dX1_markBeginnings_50 rfl (lv_at hl 0 rfl) ?_
        refine zgX1_2 hx hb hf hown P0 Z L33 dX1_markBeginnings_51 ?_
        refine lv_iload_n hx hb dX1_markBeginnings_54 rfl (lv_at hl 1 rfl) ?_
        obtain ⟨r5, S6, ec, h⟩ := zbd_s h
        refine zc_Vi hY P0 ⟨hx, hb, hml, hown, hT⟩ (As := [.int x1]) (rest := []) (kX6_at l hO x1 S4 r5 S6 ec) (cwV 1 hT (zgV mL_X1_72 mI_X6_at mS_X6_at mN_X6 mC_X6_at) rfl rfl rfl hdnX6_at ⟨Nat.le_of_ble_eq_true rfl, Nat.le_of_ble_eq_true rfl⟩) (zrecX_6 P0 Z) Z rfl hl.1 rfl (Nat.le_of_ble_eq_true rfl) dX1_markBeginnings_55 (fun H locs Z => ?_)
        refine lv_istore_n (lv' := [(2, .int r5), (0, .ref (zad g 9)), (1, .int x1)]) hx hb dX1_markBeginnings_58 rfl hl (by decide) rfl (fun ls hl => ?_)
        refine lv_iload_n hx hb dX1_markBeginnings_59 rfl (lv_at hl 0 rfl) ?_
        refine lv_if_lt (tgt := 77) hx hb dX1_markBeginnings_60 (by decide) (fun q => ?_) (fun q => ?_)
        · have h := zi_t q h
          refine lv_iinc (v := (x1 + (nI 1))) (lv' := [(1, .int (x1 + (nI 1))), (2, .int r5), (0, .ref (zad g 9))]) hx hb dX1_markBeginnings_77 hl (k := 2) rfl rfl (by decide) rfl (fun ls hl => ?_)
          refine lv_goto (tgt := 39) hx hb dX1_markBeginnings_80 (by decide) ?_
          exact K39 (x1 + (nI 1)) S6 h _ _ Z ls (lv_sub hl [2, 0] rfl)
        · have h := zi_f q h
          refine lv_iload_n hx hb dX1_markBeginnings_63 rfl (lv_at hl 0 rfl) ?_
          refine lv_sipush (v := (nI 400)) hx hb dX1_markBeginnings_64 (by decide) ?_
          refine lv_icmp_ge (tgt := 77) hx hb dX1_markBeginnings_67 (by decide) (fun q => ?_) (fun q => ?_)
          · have h := zi_t q h
            refine lv_iinc (v := (x1 + (nI 1))) (lv' := [(1, .int (x1 + (nI 1))), (2, .int r5), (0, .ref (zad g 9))]) hx hb dX1_markBeginnings_77 hl (k := 2) rfl rfl (by decide) rfl (fun ls hl => ?_)
            refine lv_goto (tgt := 39) hx hb dX1_markBeginnings_80 (by decide) ?_
            exact K39 (x1 + (nI 1)) S6 h _ _ Z ls (lv_sub hl [2, 0] rfl)
          · have h := zi_f q h
            refine lv_aload_n hx hb dX1_markBeginnings_70 rfl (lv_at hl 1 rfl) ?_
            refine zgX1_5 hx hb hf hown P0 Z L19 dX1_markBeginnings_71 ?_
            refine lv_iload_n hx hb dX1_markBeginnings_74 rfl (lv_at hl 0 rfl) ?_
            refine lv_iconst (v := (nI 1)) hx hb dX1_markBeginnings_75 (by decide) ?_
            obtain ⟨hin, h⟩ := zck_s h
            refine zsX_37 hO hx hb P0 Z hin dX1_markBeginnings_76 (fun H locs Z => ?_)
            refine lv_iinc (v := (x1 + (nI 1))) (lv' := [(1, .int (x1 + (nI 1))), (2, .int r5), (0, .ref (zad g 9))]) hx hb dX1_markBeginnings_77 hl (k := 2) rfl rfl (by decide) rfl (fun ls hl => ?_)
            refine lv_goto (tgt := 39) hx hb dX1_markBeginnings_80 (by decide) ?_
            exact K39 (x1 + (nI 1)) (wA S6 37 (r5.toNatClampNeg) (nI 1)) h _ _ Z ls (lv_sub hl [2, 0] rfl)
  have B2 : ∀ (n : Nat) (x1 : Int32) (S : zSt), fX1_markBeginnings_2L n (x1, S) = some (r, S') → ∀ (H : Heap) (locs : List Loc), zZ (zYX g) S s H locs → ∀ ls : Array Slot, lv_has ls 3 [(0, .ref (zad g 9)), (1, .int x1)] → W p l e (headSpec vX1_markBeginnings { frames := 1, cells := 0, slots := 0, locals := 21 }).room s m ([.ref (zad g 9)] : List Value).toArray below meth c H locs 0 0 (MQ below (zQv (zYX g) S') ([.ref (zad g 9)] : List Value).toArray s 0 0 (zYX g).2.2.1) (F0 m 2 ls []) := by
    intro n
    induction n with
    | zero => intro x1 S h; exact absurd h (fun h => nomatch h)
    | succ n K2 =>
      intro x1 S h H locs Z ls hl
      have h : fX1_markBeginnings_2 (fX1_markBeginnings_2L n) x1 S = some (r, S') := h
      unfold fX1_markBeginnings_2 at h
      refine lv_iload_n hx hb dX1_markBeginnings_2 rfl (lv_at hl 1 rfl) ?_
      refine lv_sipush (v := (nI 400)) hx hb dX1_markBeginnings_3 (by decide) ?_
      refine lv_icmp_ge (tgt := 37) hx hb dX1_markBeginnings_6 (by decide) (fun q => ?_) (fun q => ?_)
      · have h := zi_t q h
        refine lv_iconst (v := (nI 0)) hx hb dX1_markBeginnings_37 (by decide) ?_
        refine lv_istore_n (lv' := [(1, .int (nI 0)), (0, .ref (zad g 9))]) hx hb dX1_markBeginnings_38 rfl hl (by decide) rfl (fun ls hl => ?_)
        exact B39 zFU (nI 0) S h _ _ Z ls (lv_sub hl [1, 0] rfl)
      · have h := zi_f q h
        refine lv_aload_n hx hb dX1_markBeginnings_9 rfl (lv_at hl 0 rfl) ?_
        refine zgX1_5 hx hb hf hown P0 Z L19 dX1_markBeginnings_10 ?_
        refine lv_iload_n hx hb dX1_markBeginnings_13 rfl (lv_at hl 1 rfl) ?_
        refine lv_iload_n hx hb dX1_markBeginnings_14 rfl (lv_at hl 1 rfl) ?_
        refine lv_aload_n hx hb dX1_markBeginnings_15 rfl (lv_at hl 0 rfl) ?_
        refine zgX1_0 hx hb hf hown P0 Z L25 dX1_markBeginnings_16 ?_
        obtain ⟨r1, S2, ec, h⟩ := zbd_s h
        refine zc_Vi hY P0 ⟨hx, hb, hml, hown, hT⟩ (As := []) (rest := [.int x1, .int x1, .ref (zad g 37)]) (kX4_size l hO  S r1 S2 ec) (cwV 0 hT (zgV mL_X1_85 mI_X4_size mS_X4_size mN_X4 mC_X4_size) rfl rfl rfl hdnX4_size ⟨Nat.le_of_ble_eq_true rfl, Nat.le_of_ble_eq_true rfl⟩) (zrecX_2 P0 Z) Z rfl hl.1 rfl (Nat.le_of_ble_eq_true rfl) dX1_markBeginnings_19 (fun H locs Z => ?_)
        refine lv_icmp_ge (tgt := 29) hx hb dX1_markBeginnings_22 (by decide) (fun q => ?_) (fun q => ?_)
        · have h := zi_t q h
          refine lv_iconst (v := (nI 0)) hx hb dX1_markBeginnings_29 (by decide) ?_
          obtain ⟨hin, h⟩ := zck_s h
          refine zsX_37 hO hx hb P0 Z hin dX1_markBeginnings_30 (fun H locs Z => ?_)
          refine lv_iinc (v := (x1 + (nI 1))) (lv' := [(1, .int (x1 + (nI 1))), (0, .ref (zad g 9))]) hx hb dX1_markBeginnings_31 hl (k := 1) rfl rfl (by decide) rfl (fun ls hl => ?_)
          refine lv_goto (tgt := 2) hx hb dX1_markBeginnings_34 (by decide) ?_
          exact K2 (x1 + (nI 1)) (wA S2 37 (x1.toNatClampNeg) (nI 0)) h _ _ Z ls (lv_sub hl [1, 0] rfl)
        · have h := zi_f q h
          refine lv_iconst (v := (nI 1)) hx hb dX1_markBeginnings_25 (by decide) ?_
          refine lv_goto (tgt := 30) hx hb dX1_markBeginnings_26 (by decide) ?_
          obtain ⟨hin, h⟩ := zck_s h
          refine zsX_37 hO hx hb P0 Z hin dX1_markBeginnings_30 (fun H locs Z => ?_)
          refine lv_iinc (v := (x1 + (nI 1))) (lv' := [(1, .int (x1 + (nI 1))), (0, .ref (zad g 9))]) hx hb dX1_markBeginnings_31 hl (k := 1) rfl rfl (by decide) rfl (fun ls hl => ?_)
          refine lv_goto (tgt := 2) hx hb dX1_markBeginnings_34 (by decide) ?_
          exact K2 (x1 + (nI 1)) (wA S2 37 (x1.toNatClampNeg) (nI 1)) h _ _ Z ls (lv_sub hl [1, 0] rfl)
  have hl := lv_entry ([.ref (zad g 9)] : List Value) (n := 3) (Nat.le_of_ble_eq_true rfl)
  rw [lg_entry_eq]
  generalize (lg_sl ([.ref (zad g 9)] : List Value) ++ List.replicate (3 - (lg_sl ([.ref (zad g 9)] : List Value)).length) Slot.unset).toArray = ls at hl ⊢
  have hl : lv_has ls 3 [(0, .ref (zad g 9))] := hl
  unfold fX1_markBeginnings at h
  refine lv_iconst (v := (nI 0)) hx hb dX1_markBeginnings_0 (by decide) ?_
  refine lv_istore_n (lv' := [(1, .int (nI 0)), (0, .ref (zad g 9))]) hx hb dX1_markBeginnings_1 rfl hl (by decide) rfl (fun ls hl => ?_)
  exact B2 zFU (nI 0) S h _ _ Z ls (lv_sub hl [1, 0] rfl)

set_option maxHeartbeats 4000000 in
set_option maxRecDepth 100000 in
theorem kX1_findKept {g : zG} (l : Launch) (hO : zinjX g) (S : zSt) (r : Unit) (S' : zSt) (h : fX1_findKept S = some (r, S')) : zMv (zYX g) l yX1_findKept vX1_findKept { frames := 2, cells := 0, slots := 0, locals := 44 } ([.ref (zad g 9)] : List Value) S S' := by
  have hY := zOkX hO
  refine Met.ofW (cc := cX1_findKept) (maxL := 5) (ret := none) (by decide) rfl ?_
  intro p e s m args below meth c s₁ B hml hv
  obtain ⟨rfl, hP⟩ := hv
  have hx := B.exec
  have hb := B.bytes
  have hr := B.returns
  have hts := atoms_spec (ws := vX1_findKept) B.pre
  have hT : ∀ w ∈ zTB, w.before ([.ref (zad g 9)] : List Value).toArray s = true := fun w h => hts w (List.mem_cons_of_mem _ h)
  have hown : s.vm.findClass RX1 = some m.cls := findClass_of_methodNamed B.named
  have hlocks := B.notSynchronized
  have P0 := hP.2
  have Z : zZ (zYX g) S s s.heap [] := ⟨hP.1, va_S.rf⟩
  have hf : ∀ w ∈ u_ws RX1 TX1 7, w.before ([.ref (zad g 9)] : List Value).toArray s = true := fun w hw => hT w (mU_X1 w hw)
  have L15 := hT _ mF_X1_15
  have L19 := hT _ mF_X1_19
  have L9 := hT _ mF_X1_9
  have L29 := hT _ mF_X1_29
  have B124 : ∀ (k42 : Int32 × zSt → Option (Unit × zSt)) (K42 : (∀ (x1 : Int32) (S : zSt), k42 (x1, S) = some (r, S') → ∀ (H : Heap) (locs : List Loc), zZ (zYX g) S s H locs → ∀ ls : Array Slot, lv_has ls 5 [(0, .ref (zad g 9)), (1, .int x1)] → W p l e (headSpec vX1_findKept { frames := 2, cells := 0, slots := 0, locals := 44 }).room s m ([.ref (zad g 9)] : List Value).toArray below meth c H locs 0 0 (MQ below (zQv (zYX g) S') ([.ref (zad g 9)] : List Value).toArray s 0 0 (zYX g).2.2.1) (F0 m 42 ls []))) (x1 : Int32) (x2 : Int32) (y0 : Int32) (S : zSt), fX1_findKept_124 k42 x1 x2 y0 S = some (r, S') → ∀ (H : Heap) (locs : List Loc), zZ (zYX g) S s H locs → ∀ ls : Array Slot, lv_has ls 5 [(0, .ref (zad g 9)), (1, .int x1), (2, .int x2)] → W p l e (headSpec vX1_findKept { frames := 2, cells := 0, slots := 0, locals := 44 }).room s m ([.ref (zad g 9)] : List Value).toArray below meth c H locs 0 0 (MQ below (zQv (zYX g) S') ([.ref (zad g 9)] : List Value).toArray s 0 0 (zYX g).2.2.1) (F0 m 124 ls [.int y0, .ref (zad g 9)]) := by
    intro k42 K42 x1 x2 y0 S h H locs Z ls hl
    unfold fX1_findKept_124 at h
    refine lv_iload_n hx hb dX1_findKept_124 rfl (lv_at hl 2 rfl) ?_
    obtain ⟨r19, S20, ec, h⟩ := zbd_s h
    refine zc_Vv hY P0 ⟨hx, hb, hml, hown, hT⟩ (As := [.int y0, .int x2]) (rest := []) (kX1_comeTo l hO y0 x2 S r19 S20 ec) (cwV 2 hT (zgV mL_X1_82 mI_X1_comeTo mS_X1_comeTo mN_X1 mC_X1_comeTo) rfl rfl rfl hdnX1_comeTo ⟨Nat.le_of_ble_eq_true rfl, Nat.le_of_ble_eq_true rfl⟩) (zrecX_9 P0 Z) Z rfl hl.1 rfl (Nat.le_of_ble_eq_true rfl) dX1_findKept_125 (fun H locs Z => ?_)
    refine lv_goto (tgt := 148) hx hb dX1_findKept_128 (by decide) ?_
    refine lv_iinc (v := (x1 + (nI 1))) (lv' := [(1, .int (x1 + (nI 1))), (0, .ref (zad g 9)), (2, .int x2)]) hx hb dX1_findKept_148 hl (k := 1) rfl rfl (by decide) rfl (fun ls hl => ?_)
    refine lv_goto (tgt := 42) hx hb dX1_findKept_151 (by decide) ?_
    exact K42 (x1 + (nI 1)) S20 h _ _ Z ls (lv_sub hl [1, 0] rfl)
  have B107 : ∀ (k42 : Int32 × zSt → Option (Unit × zSt)) (K42 : (∀ (x1 : Int32) (S : zSt), k42 (x1, S) = some (r, S') → ∀ (H : Heap) (locs : List Loc), zZ (zYX g) S s H locs → ∀ ls : Array Slot, lv_has ls 5 [(0, .ref (zad g 9)), (1, .int x1)] → W p l e (headSpec vX1_findKept { frames := 2, cells := 0, slots := 0, locals := 44 }).room s m ([.ref (zad g 9)] : List Value).toArray below meth c H locs 0 0 (MQ below (zQv (zYX g) S') ([.ref (zad g 9)] : List Value).toArray s 0 0 (zYX g).2.2.1) (F0 m 42 ls []))) (x1 : Int32) (x2 : Int32) (x3 : Int32) (x4 : Int32) (y0 : Int32) (S : zSt), fX1_findKept_107 k42 x1 x2 x3 x4 y0 S = some (r, S') → ∀ (H : Heap) (locs : List Loc), zZ (zYX g) S s H locs → ∀ ls : Array Slot, lv_has ls 5 [(0, .ref (zad g 9)), (1, .int x1), (2, .int x2), (3, .int x3), (4, .int x4)] → W p l e (headSpec vX1_findKept { frames := 2, cells := 0, slots := 0, locals := 44 }).room s m ([.ref (zad g 9)] : List Value).toArray below meth c H locs 0 0 (MQ below (zQv (zYX g) S') ([.ref (zad g 9)] : List Value).toArray s 0 0 (zYX g).2.2.1) (F0 m 107 ls [.int y0, .ref (zad g 9)]) := by
    intro k42 K42 x1 x2 x3 x4 y0 S h H locs Z ls hl
    unfold fX1_findKept_107 at h
    refine lv_iload_n hx hb dX1_findKept_107 rfl (lv_at hl 2 rfl) ?_
    obtain ⟨r17, S18, ec, h⟩ := zbd_s h
    refine zc_Vv hY P0 ⟨hx, hb, hml, hown, hT⟩ (As := [.int y0, .int x2]) (rest := []) (kX1_comeTo l hO y0 x2 S r17 S18 ec) (cwV 2 hT (zgV mL_X1_82 mI_X1_comeTo mS_X1_comeTo mN_X1 mC_X1_comeTo) rfl rfl rfl hdnX1_comeTo ⟨Nat.le_of_ble_eq_true rfl, Nat.le_of_ble_eq_true rfl⟩) (zrecX_9 P0 Z) Z rfl hl.1 rfl (Nat.le_of_ble_eq_true rfl) dX1_findKept_108 (fun H locs Z => ?_)
    refine lv_aload_n hx hb dX1_findKept_111 rfl (lv_at hl 0 rfl) ?_
    refine lv_iload_n hx hb dX1_findKept_112 rfl (lv_at hl 3 rfl) ?_
    refine lv_iload hx hb dX1_findKept_113 (lv_at hl 4 rfl) ?_
    refine lv_icmp_ge (tgt := 123) hx hb dX1_findKept_115 (by decide) (fun q => ?_) (fun q => ?_)
    · have h := zi_t q h
      refine lv_iload_n hx hb dX1_findKept_123 rfl (lv_at hl 3 rfl) ?_
      exact B124 k42 K42 x1 x2 x3 S18 h _ _ Z ls (lv_sub hl [0, 1, 2] rfl)
    · have h := zi_f q h
      refine lv_iload hx hb dX1_findKept_118 (lv_at hl 4 rfl) ?_
      refine lv_goto (tgt := 124) hx hb dX1_findKept_120 (by decide) ?_
      exact B124 k42 K42 x1 x2 x4 S18 h _ _ Z ls (lv_sub hl [0, 1, 2] rfl)
  have B42 : ∀ (n : Nat) (x1 : Int32) (S : zSt), fX1_findKept_42L n (x1, S) = some (r, S') → ∀ (H : Heap) (locs : List Loc), zZ (zYX g) S s H locs → ∀ ls : Array Slot, lv_has ls 5 [(0, .ref (zad g 9)), (1, .int x1)] → W p l e (headSpec vX1_findKept { frames := 2, cells := 0, slots := 0, locals := 44 }).room s m ([.ref (zad g 9)] : List Value).toArray below meth c H locs 0 0 (MQ below (zQv (zYX g) S') ([.ref (zad g 9)] : List Value).toArray s 0 0 (zYX g).2.2.1) (F0 m 42 ls []) := by
    intro n
    induction n with
    | zero => intro x1 S h; exact absurd h (fun h => nomatch h)
    | succ n K42 =>
      intro x1 S h H locs Z ls hl
      have h : fX1_findKept_42 (fX1_findKept_42L n) x1 S = some (r, S') := h
      unfold fX1_findKept_42 at h
      refine lv_iload_n hx hb dX1_findKept_42 rfl (lv_at hl 1 rfl) ?_
      refine lv_aload_n hx hb dX1_findKept_43 rfl (lv_at hl 0 rfl) ?_
      refine zgX1_4 (v := (zI S 27)) hx hb hf hown P0 Z L15 rfl dX1_findKept_44 ?_
      refine lv_icmp_ge (tgt := 154) hx hb dX1_findKept_47 (by decide) (fun q => ?_) (fun q => ?_)
      · have h := zi_t q h
        exact zr_v hY P0 hx hb hr hlocks h Z dX1_findKept_154
      · have h := zi_f q h
        refine lv_iload_n hx hb dX1_findKept_50 rfl (lv_at hl 1 rfl) ?_
        refine lv_sipush (v := (nI 400)) hx hb dX1_findKept_51 (by decide) ?_
        refine lv_icmp_ge (tgt := 154) hx hb dX1_findKept_54 (by decide) (fun q => ?_) (fun q => ?_)
        · have h := zi_t q h
          exact zr_v hY P0 hx hb hr hlocks h Z dX1_findKept_154
        · have h := zi_f q h
          refine lv_aload_n hx hb dX1_findKept_57 rfl (lv_at hl 0 rfl) ?_
          refine zgX1_3 hx hb hf hown P0 Z L9 dX1_findKept_58 ?_
          refine lv_iload_n hx hb dX1_findKept_61 rfl (lv_at hl 1 rfl) ?_
          obtain ⟨v6, ev, hin, h⟩ := zld_s h
          refine zlX_36 hx hb P0 Z ev hin dX1_findKept_62 ?_
          refine lv_istore_n (lv' := [(2, .int v6), (0, .ref (zad g 9)), (1, .int x1)]) hx hb dX1_findKept_63 rfl hl (by decide) rfl (fun ls hl => ?_)
          refine lv_aload_n hx hb dX1_findKept_64 rfl (lv_at hl 1 rfl) ?_
          refine zgX1_1 hx hb hf hown P0 Z L29 dX1_findKept_65 ?_
          refine lv_iload_n hx hb dX1_findKept_68 rfl (lv_at hl 0 rfl) ?_
          obtain ⟨r7, S8, ec, h⟩ := zbd_s h
          refine zc_Vi hY P0 ⟨hx, hb, hml, hown, hT⟩ (As := [.int v6]) (rest := []) (kX0_firstOf l hO v6 S r7 S8 ec) (cwV 1 hT (zgV mL_X1_60 mI_X0_firstOf mS_X0_firstOf mN_X0 mC_X0_firstOf) rfl rfl rfl hdnX0_firstOf ⟨Nat.le_of_ble_eq_true rfl, Nat.le_of_ble_eq_true rfl⟩) (zrecX_5 P0 Z) Z rfl hl.1 rfl (Nat.le_of_ble_eq_true rfl) dX1_findKept_69 (fun H locs Z => ?_)
          refine lv_istore_n (lv' := [(3, .int r7), (2, .int v6), (0, .ref (zad g 9)), (1, .int x1)]) hx hb dX1_findKept_72 rfl hl (by decide) rfl (fun ls hl => ?_)
          refine lv_aload_n hx hb dX1_findKept_73 rfl (lv_at hl 2 rfl) ?_
          refine zgX1_1 hx hb hf hown P0 Z L29 dX1_findKept_74 ?_
          refine lv_iload_n hx hb dX1_findKept_77 rfl (lv_at hl 1 rfl) ?_
          obtain ⟨r9, S10, ec, h⟩ := zbd_s h
          refine zc_Vi hY P0 ⟨hx, hb, hml, hown, hT⟩ (As := [.int v6]) (rest := []) (kX0_secondOf l hO v6 S8 r9 S10 ec) (cwV 1 hT (zgV mL_X1_63 mI_X0_secondOf mS_X0_secondOf mN_X0 mC_X0_secondOf) rfl rfl rfl hdnX0_secondOf ⟨Nat.le_of_ble_eq_true rfl, Nat.le_of_ble_eq_true rfl⟩) (zrecX_5 P0 Z) Z rfl hl.1 rfl (Nat.le_of_ble_eq_true rfl) dX1_findKept_78 (fun H locs Z => ?_)
          refine lv_istore (lv' := [(4, .int r9), (3, .int r7), (2, .int v6), (0, .ref (zad g 9)), (1, .int x1)]) hx hb dX1_findKept_81 hl (by decide) rfl (fun ls hl => ?_)
          refine lv_aload_n hx hb dX1_findKept_83 rfl (lv_at hl 3 rfl) ?_
          refine zgX1_1 hx hb hf hown P0 Z L29 dX1_findKept_84 ?_
          refine lv_iload_n hx hb dX1_findKept_87 rfl (lv_at hl 2 rfl) ?_
          obtain ⟨r11, S12, ec, h⟩ := zbd_s h
          refine zc_Vi hY P0 ⟨hx, hb, hml, hown, hT⟩ (As := [.int v6]) (rest := []) (kX0_hasTwo l hO v6 S10 r11 S12 ec) (cwV 1 hT (zgV mL_X1_54 mI_X0_hasTwo mS_X0_hasTwo mN_X0 mC_X0_hasTwo) rfl rfl rfl hdnX0_hasTwo ⟨Nat.le_of_ble_eq_true rfl, Nat.le_of_ble_eq_true rfl⟩) (zrecX_5 P0 Z) Z rfl hl.1 rfl (Nat.le_of_ble_eq_true rfl) dX1_findKept_88 (fun H locs Z => ?_)
          refine lv_if_eq (tgt := 131) hx hb dX1_findKept_91 (by decide) (fun q => ?_) (fun q => ?_)
          · have h := zi_t q h
            refine lv_aload_n hx hb dX1_findKept_131 rfl (lv_at hl 3 rfl) ?_
            refine zgX1_1 hx hb hf hown P0 Z L29 dX1_findKept_132 ?_
            refine lv_iload_n hx hb dX1_findKept_135 rfl (lv_at hl 2 rfl) ?_
            obtain ⟨r13, S14, ec, h⟩ := zbd_s h
            refine zc_Vi hY P0 ⟨hx, hb, hml, hown, hT⟩ (As := [.int v6]) (rest := []) (kX0_hasOne l hO v6 S12 r13 S14 ec) (cwV 1 hT (zgV mL_X1_57 mI_X0_hasOne mS_X0_hasOne mN_X0 mC_X0_hasOne) rfl rfl rfl hdnX0_hasOne ⟨Nat.le_of_ble_eq_true rfl, Nat.le_of_ble_eq_true rfl⟩) (zrecX_5 P0 Z) Z rfl hl.1 rfl (Nat.le_of_ble_eq_true rfl) dX1_findKept_136 (fun H locs Z => ?_)
            refine lv_if_eq (tgt := 148) hx hb dX1_findKept_139 (by decide) (fun q => ?_) (fun q => ?_)
            · have h := zi_t q h
              refine lv_iinc (v := (x1 + (nI 1))) (lv' := [(1, .int (x1 + (nI 1))), (4, .int r9), (3, .int r7), (2, .int v6), (0, .ref (zad g 9))]) hx hb dX1_findKept_148 hl (k := 4) rfl rfl (by decide) rfl (fun ls hl => ?_)
              refine lv_goto (tgt := 42) hx hb dX1_findKept_151 (by decide) ?_
              exact K42 (x1 + (nI 1)) S14 h _ _ Z ls (lv_sub hl [4, 0] rfl)
            · have h := zi_f q h
              refine lv_aload_n hx hb dX1_findKept_142 rfl (lv_at hl 3 rfl) ?_
              refine lv_iload_n hx hb dX1_findKept_143 rfl (lv_at hl 1 rfl) ?_
              refine lv_iload_n hx hb dX1_findKept_144 rfl (lv_at hl 2 rfl) ?_
              obtain ⟨r15, S16, ec, h⟩ := zbd_s h
              refine zc_Vv hY P0 ⟨hx, hb, hml, hown, hT⟩ (As := [.int r7, .int v6]) (rest := []) (kX1_comeTo l hO r7 v6 S14 r15 S16 ec) (cwV 2 hT (zgV mL_X1_82 mI_X1_comeTo mS_X1_comeTo mN_X1 mC_X1_comeTo) rfl rfl rfl hdnX1_comeTo ⟨Nat.le_of_ble_eq_true rfl, Nat.le_of_ble_eq_true rfl⟩) (zrecX_9 P0 Z) Z rfl hl.1 rfl (Nat.le_of_ble_eq_true rfl) dX1_findKept_145 (fun H locs Z => ?_)
              refine lv_iinc (v := (x1 + (nI 1))) (lv' := [(1, .int (x1 + (nI 1))), (4, .int r9), (3, .int r7), (2, .int v6), (0, .ref (zad g 9))]) hx hb dX1_findKept_148 hl (k := 4) rfl rfl (by decide) rfl (fun ls hl => ?_)
              refine lv_goto (tgt := 42) hx hb dX1_findKept_151 (by decide) ?_
              exact K42 (x1 + (nI 1)) S16 h _ _ Z ls (lv_sub hl [4, 0] rfl)
          · have h := zi_f q h
            refine lv_aload_n hx hb dX1_findKept_94 rfl (lv_at hl 3 rfl) ?_
            refine lv_iload_n hx hb dX1_findKept_95 rfl (lv_at hl 1 rfl) ?_
            refine lv_iload hx hb dX1_findKept_96 (lv_at hl 0 rfl) ?_
            refine lv_icmp_ge (tgt := 105) hx hb dX1_findKept_98 (by decide) (fun q => ?_) (fun q => ?_)
            · have h := zi_t q h
              refine lv_iload hx hb dX1_findKept_105 (lv_at hl 0 rfl) ?_
              exact B107 (fX1_findKept_42L n) K42 x1 v6 r7 r9 r9 S12 h _ _ Z ls (lv_sub hl [3, 4, 2, 1, 0] rfl)
            · have h := zi_f q h
              refine lv_iload_n hx hb dX1_findKept_101 rfl (lv_at hl 1 rfl) ?_
              refine lv_goto (tgt := 107) hx hb dX1_findKept_102 (by decide) ?_
              exact B107 (fX1_findKept_42L n) K42 x1 v6 r7 r9 r7 S12 h _ _ Z ls (lv_sub hl [3, 4, 2, 1, 0] rfl)
  have B11 : ∀ (n : Nat) (x1 : Int32) (S : zSt), fX1_findKept_11L n (x1, S) = some (r, S') → ∀ (H : Heap) (locs : List Loc), zZ (zYX g) S s H locs → ∀ ls : Array Slot, lv_has ls 5 [(0, .ref (zad g 9)), (1, .int x1)] → W p l e (headSpec vX1_findKept { frames := 2, cells := 0, slots := 0, locals := 44 }).room s m ([.ref (zad g 9)] : List Value).toArray below meth c H locs 0 0 (MQ below (zQv (zYX g) S') ([.ref (zad g 9)] : List Value).toArray s 0 0 (zYX g).2.2.1) (F0 m 11 ls []) := by
    intro n
    induction n with
    | zero => intro x1 S h; exact absurd h (fun h => nomatch h)
    | succ n K11 =>
      intro x1 S h H locs Z ls hl
      have h : fX1_findKept_11 (fX1_findKept_11L n) x1 S = some (r, S') := h
      unfold fX1_findKept_11 at h
      refine lv_iload_n hx hb dX1_findKept_11 rfl (lv_at hl 1 rfl) ?_
      refine lv_sipush (v := (nI 400)) hx hb dX1_findKept_12 (by decide) ?_
      refine lv_icmp_ge (tgt := 40) hx hb dX1_findKept_15 (by decide) (fun q => ?_) (fun q => ?_)
      · have h := zi_t q h
        refine lv_iconst (v := (nI 0)) hx hb dX1_findKept_40 (by decide) ?_
        refine lv_istore_n (lv' := [(1, .int (nI 0)), (0, .ref (zad g 9))]) hx hb dX1_findKept_41 rfl hl (by decide) rfl (fun ls hl => ?_)
        exact B42 zFU (nI 0) S h _ _ Z ls (lv_sub hl [1, 0] rfl)
      · have h := zi_f q h
        refine lv_aload_n hx hb dX1_findKept_18 rfl (lv_at hl 0 rfl) ?_
        refine zgX1_5 hx hb hf hown P0 Z L19 dX1_findKept_19 ?_
        refine lv_iload_n hx hb dX1_findKept_22 rfl (lv_at hl 1 rfl) ?_
        obtain ⟨v3, ev, hin, h⟩ := zld_s h
        refine zlX_37 hx hb P0 Z ev hin dX1_findKept_23 ?_
        refine lv_iconst (v := (nI 1)) hx hb dX1_findKept_24 (by decide) ?_
        refine lv_icmp_ne (tgt := 34) hx hb dX1_findKept_25 (by decide) (fun q => ?_) (fun q => ?_)
        · have h := zi_f q h
          refine lv_iinc (v := (x1 + (nI 1))) (lv' := [(1, .int (x1 + (nI 1))), (0, .ref (zad g 9))]) hx hb dX1_findKept_34 hl (k := 1) rfl rfl (by decide) rfl (fun ls hl => ?_)
          refine lv_goto (tgt := 11) hx hb dX1_findKept_37 (by decide) ?_
          exact K11 (x1 + (nI 1)) S h _ _ Z ls (lv_sub hl [1, 0] rfl)
        · have h := zi_t q h
          refine lv_aload_n hx hb dX1_findKept_28 rfl (lv_at hl 0 rfl) ?_
          refine lv_iload_n hx hb dX1_findKept_29 rfl (lv_at hl 1 rfl) ?_
          refine lv_iconst (v := (-1 : Int32)) hx hb dX1_findKept_30 (by decide) ?_
          obtain ⟨r4, S5, ec, h⟩ := zbd_s h
          refine zc_Vv hY P0 ⟨hx, hb, hml, hown, hT⟩ (As := [.int x1, .int (-1 : Int32)]) (rest := []) (kX1_addFound l hO x1 (-1 : Int32) S r4 S5 ec) (cwV 2 hT (zgV mL_X1_78 mI_X1_addFound mS_X1_addFound mN_X1 mC_X1_addFound) rfl rfl rfl hdnX1_addFound ⟨Nat.le_of_ble_eq_true rfl, Nat.le_of_ble_eq_true rfl⟩) (zrecX_9 P0 Z) Z rfl hl.1 rfl (Nat.le_of_ble_eq_true rfl) dX1_findKept_31 (fun H locs Z => ?_)
          refine lv_iinc (v := (x1 + (nI 1))) (lv' := [(1, .int (x1 + (nI 1))), (0, .ref (zad g 9))]) hx hb dX1_findKept_34 hl (k := 1) rfl rfl (by decide) rfl (fun ls hl => ?_)
          refine lv_goto (tgt := 11) hx hb dX1_findKept_37 (by decide) ?_
          exact K11 (x1 + (nI 1)) S5 h _ _ Z ls (lv_sub hl [1, 0] rfl)
  have hl := lv_entry ([.ref (zad g 9)] : List Value) (n := 5) (Nat.le_of_ble_eq_true rfl)
  rw [lg_entry_eq]
  generalize (lg_sl ([.ref (zad g 9)] : List Value) ++ List.replicate (5 - (lg_sl ([.ref (zad g 9)] : List Value)).length) Slot.unset).toArray = ls at hl ⊢
  have hl : lv_has ls 5 [(0, .ref (zad g 9))] := hl
  unfold fX1_findKept at h
  refine lv_aload_n hx hb dX1_findKept_0 rfl (lv_at hl 0 rfl) ?_
  refine lv_iconst (v := (nI 0)) hx hb dX1_findKept_1 (by decide) ?_
  refine zpX1_4 hO hx hb hf hown P0 Z L15 dX1_findKept_2 (fun H locs Z => ?_)
  refine lv_aload_n hx hb dX1_findKept_5 rfl (lv_at hl 0 rfl) ?_
  obtain ⟨r1, S2, ec, h⟩ := zbd_s h
  refine zc_Vv hY P0 ⟨hx, hb, hml, hown, hT⟩ (As := []) (rest := []) (kX1_markBeginnings l hO  (wI S 27 (nI 0)) r1 S2 ec) (cwV 0 hT (zgV mL_X1_75 mI_X1_markBeginnings mS_X1_markBeginnings mN_X1 mC_X1_markBeginnings) rfl rfl rfl hdnX1_markBeginnings ⟨Nat.le_of_ble_eq_true rfl, Nat.le_of_ble_eq_true rfl⟩) (zrecX_9 P0 Z) Z rfl hl.1 rfl (Nat.le_of_ble_eq_true rfl) dX1_findKept_6 (fun H locs Z => ?_)
  refine lv_iconst (v := (nI 0)) hx hb dX1_findKept_9 (by decide) ?_
  refine lv_istore_n (lv' := [(1, .int (nI 0)), (0, .ref (zad g 9))]) hx hb dX1_findKept_10 rfl hl (by decide) rfl (fun ls hl => ?_)
  exact B11 zFU (nI 0) S2 h _ _ Z ls (lv_sub hl [1, 0] rfl)

set_option maxHeartbeats 4000000 in
set_option maxRecDepth 100000 in
theorem kX1_freeTheRest {g : zG} (l : Launch) (hO : zinjX g) (S : zSt) (r : Int32) (S' : zSt) (h : fX1_freeTheRest S = some (r, S')) : zMi (zYX g) l yX1_freeTheRest vX1_freeTheRest { frames := 3, cells := 0, slots := 0, locals := 68 } ([.ref (zad g 9)] : List Value) S r S' := by
  have hY := zOkX hO
  refine Met.ofW (cc := cX1_freeTheRest) (maxL := 3) (ret := (some .int)) (by decide) rfl ?_
  intro p e s m args below meth c s₁ B hml hv
  obtain ⟨rfl, hP⟩ := hv
  have hx := B.exec
  have hb := B.bytes
  have hr := B.returns
  have hts := atoms_spec (ws := vX1_freeTheRest) B.pre
  have hT : ∀ w ∈ zTB, w.before ([.ref (zad g 9)] : List Value).toArray s = true := fun w h => hts w (List.mem_cons_of_mem _ h)
  have hown : s.vm.findClass RX1 = some m.cls := findClass_of_methodNamed B.named
  have hlocks := B.notSynchronized
  have P0 := hP.2
  have Z : zZ (zYX g) S s s.heap [] := ⟨hP.1, va_S.rf⟩
  have hf : ∀ w ∈ u_ws RX1 TX1 7, w.before ([.ref (zad g 9)] : List Value).toArray s = true := fun w hw => hT w (mU_X1 w hw)
  have L19 := hT _ mF_X1_19
  have L29 := hT _ mF_X1_29
  have B8 : ∀ (n : Nat) (x1 : Int32) (x2 : Int32) (S : zSt), fX1_freeTheRest_8L n (x1, x2, S) = some (r, S') → ∀ (H : Heap) (locs : List Loc), zZ (zYX g) S s H locs → ∀ ls : Array Slot, lv_has ls 3 [(0, .ref (zad g 9)), (1, .int x1), (2, .int x2)] → W p l e (headSpec vX1_freeTheRest { frames := 3, cells := 0, slots := 0, locals := 68 }).room s m ([.ref (zad g 9)] : List Value).toArray below meth c H locs 0 0 (MQ below (zQi (zYX g) r S') ([.ref (zad g 9)] : List Value).toArray s 0 0 (zYX g).2.2.1) (F0 m 8 ls []) := by
    intro n
    induction n with
    | zero => intro x1 x2 S h; exact absurd h (fun h => nomatch h)
    | succ n K8 =>
      intro x1 x2 S h H locs Z ls hl
      have h : fX1_freeTheRest_8 (fX1_freeTheRest_8L n) x1 x2 S = some (r, S') := h
      unfold fX1_freeTheRest_8 at h
      refine lv_iload_n hx hb dX1_freeTheRest_8 rfl (lv_at hl 2 rfl) ?_
      refine lv_sipush (v := (nI 400)) hx hb dX1_freeTheRest_9 (by decide) ?_
      refine lv_icmp_ge (tgt := 52) hx hb dX1_freeTheRest_12 (by decide) (fun q => ?_) (fun q => ?_)
      · have h := zi_t q h
        refine lv_iload_n hx hb dX1_freeTheRest_52 rfl (lv_at hl 1 rfl) ?_
        exact zr_i hY P0 hx hb hr hlocks h Z dX1_freeTheRest_53
      · have h := zi_f q h
        refine lv_aload_n hx hb dX1_freeTheRest_15 rfl (lv_at hl 0 rfl) ?_
        refine zgX1_5 hx hb hf hown P0 Z L19 dX1_freeTheRest_16 ?_
        refine lv_iload_n hx hb dX1_freeTheRest_19 rfl (lv_at hl 2 rfl) ?_
        obtain ⟨v3, ev, hin, h⟩ := zld_s h
        refine zlX_37 hx hb P0 Z ev hin dX1_freeTheRest_20 ?_
        refine lv_if_ne (tgt := 46) hx hb dX1_freeTheRest_21 (by decide) (fun q => ?_) (fun q => ?_)
        · have h := zi_f q h
          refine lv_iinc (v := (x2 + (nI 1))) (lv' := [(2, .int (x2 + (nI 1))), (0, .ref (zad g 9)), (1, .int x1)]) hx hb dX1_freeTheRest_46 hl (k := 2) rfl rfl (by decide) rfl (fun ls hl => ?_)
          refine lv_goto (tgt := 8) hx hb dX1_freeTheRest_49 (by decide) ?_
          exact K8 x1 (x2 + (nI 1)) S h _ _ Z ls (lv_sub hl [1, 2, 0] rfl)
        · have h := zi_t q h
          refine lv_aload_n hx hb dX1_freeTheRest_24 rfl (lv_at hl 0 rfl) ?_
          refine zgX1_1 hx hb hf hown P0 Z L29 dX1_freeTheRest_25 ?_
          refine lv_iload_n hx hb dX1_freeTheRest_28 rfl (lv_at hl 2 rfl) ?_
          obtain ⟨r4, S5, ec, h⟩ := zbd_s h
          refine zc_Vi hY P0 ⟨hx, hb, hml, hown, hT⟩ (As := [.int x2]) (rest := []) (kX0_isFree l hO x2 S r4 S5 ec) (cwV 1 hT (zgV mL_X1_44 mI_X0_isFree mS_X0_isFree mN_X0 mC_X0_isFree) rfl rfl rfl hdnX0_isFree ⟨Nat.le_of_ble_eq_true rfl, Nat.le_of_ble_eq_true rfl⟩) (zrecX_5 P0 Z) Z rfl hl.1 rfl (Nat.le_of_ble_eq_true rfl) dX1_freeTheRest_29 (fun H locs Z => ?_)
          refine lv_if_ne (tgt := 46) hx hb dX1_freeTheRest_32 (by decide) (fun q => ?_) (fun q => ?_)
          · have h := zi_f q h
            refine lv_iinc (v := (x2 + (nI 1))) (lv' := [(2, .int (x2 + (nI 1))), (0, .ref (zad g 9)), (1, .int x1)]) hx hb dX1_freeTheRest_46 hl (k := 2) rfl rfl (by decide) rfl (fun ls hl => ?_)
            refine lv_goto (tgt := 8) hx hb dX1_freeTheRest_49 (by decide) ?_
            exact K8 x1 (x2 + (nI 1)) S5 h _ _ Z ls (lv_sub hl [1, 2, 0] rfl)
          · have h := zi_t q h
            refine lv_aload_n hx hb dX1_freeTheRest_35 rfl (lv_at hl 0 rfl) ?_
            refine zgX1_1 hx hb hf hown P0 Z L29 dX1_freeTheRest_36 ?_
            refine lv_iload_n hx hb dX1_freeTheRest_39 rfl (lv_at hl 2 rfl) ?_
            obtain ⟨r6, S7, ec, h⟩ := zbd_s h
            refine zc_Vv hY P0 ⟨hx, hb, hml, hown, hT⟩ (As := [.int x2]) (rest := []) (kX0_free l hO x2 S5 r6 S7 ec) (cwV 1 hT (zgV mL_X1_50 mI_X0_free mS_X0_free mN_X0 mC_X0_free) rfl rfl rfl hdnX0_free ⟨Nat.le_of_ble_eq_true rfl, Nat.le_of_ble_eq_true rfl⟩) (zrecX_5 P0 Z) Z rfl hl.1 rfl (Nat.le_of_ble_eq_true rfl) dX1_freeTheRest_40 (fun H locs Z => ?_)
            refine lv_iinc (v := (x1 + (nI 1))) (lv' := [(1, .int (x1 + (nI 1))), (0, .ref (zad g 9)), (2, .int x2)]) hx hb dX1_freeTheRest_43 hl (k := 1) rfl rfl (by decide) rfl (fun ls hl => ?_)
            refine lv_iinc (v := (x2 + (nI 1))) (lv' := [(2, .int (x2 + (nI 1))), (1, .int (x1 + (nI 1))), (0, .ref (zad g 9))]) hx hb dX1_freeTheRest_46 hl (k := 2) rfl rfl (by decide) rfl (fun ls hl => ?_)
            refine lv_goto (tgt := 8) hx hb dX1_freeTheRest_49 (by decide) ?_
            exact K8 (x1 + (nI 1)) (x2 + (nI 1)) S7 h _ _ Z ls (lv_sub hl [2, 1, 0] rfl)
  have hl := lv_entry ([.ref (zad g 9)] : List Value) (n := 3) (Nat.le_of_ble_eq_true rfl)
  rw [lg_entry_eq]
  generalize (lg_sl ([.ref (zad g 9)] : List Value) ++ List.replicate (3 - (lg_sl ([.ref (zad g 9)] : List Value)).length) Slot.unset).toArray = ls at hl ⊢
  have hl : lv_has ls 3 [(0, .ref (zad g 9))] := hl
  unfold fX1_freeTheRest at h
  refine lv_aload_n hx hb dX1_freeTheRest_0 rfl (lv_at hl 0 rfl) ?_
  obtain ⟨r1, S2, ec, h⟩ := zbd_s h
  refine zc_Vv hY P0 ⟨hx, hb, hml, hown, hT⟩ (As := []) (rest := []) (kX1_findKept l hO  S r1 S2 ec) (cwV 0 hT (zgV mL_X1_37 mI_X1_findKept mS_X1_findKept mN_X1 mC_X1_findKept) rfl rfl rfl hdnX1_findKept ⟨Nat.le_of_ble_eq_true rfl, Nat.le_of_ble_eq_true rfl⟩) (zrecX_9 P0 Z) Z rfl hl.1 rfl (Nat.le_of_ble_eq_true rfl) dX1_freeTheRest_1 (fun H locs Z => ?_)
  refine lv_iconst (v := (nI 0)) hx hb dX1_freeTheRest_4 (by decide) ?_
  refine lv_istore_n (lv' := [(1, .int (nI 0)), (0, .ref (zad g 9))]) hx hb dX1_freeTheRest_5 rfl hl (by decide) rfl (fun ls hl => ?_)
  refine lv_iconst (v := (nI 0)) hx hb dX1_freeTheRest_6 (by decide) ?_
  refine lv_istore_n (lv' := [(2, .int (nI 0)), (1, .int (nI 0)), (0, .ref (zad g 9))]) hx hb dX1_freeTheRest_7 rfl hl (by decide) rfl (fun ls hl => ?_)
  exact B8 zFU (nI 0) (nI 0) S2 h _ _ Z ls (lv_sub hl [2, 1, 0] rfl)

set_option maxHeartbeats 4000000 in
set_option maxRecDepth 100000 in
theorem kX9_back {g : zG} (l : Launch) (hO : zinjX g) (a1 : Int32) (S : zSt) (r : Int32) (S' : zSt) (h : fX9_back a1 S = some (r, S')) : zMi (zYX g) l yX9_back vX9_back { frames := 7, cells := 0, slots := 0, locals := 162 } ([.ref (zad g 0), .int a1] : List Value) S r S' := by
  have hY := zOkX hO
  refine Met.ofW (cc := cX9_back) (maxL := 4) (ret := (some .int)) (by decide) rfl ?_
  intro p e s m args below meth c s₁ B hml hv
  obtain ⟨rfl, hP⟩ := hv
  have hx := B.exec
  have hb := B.bytes
  have hr := B.returns
  have hts := atoms_spec (ws := vX9_back) B.pre
  have hT : ∀ w ∈ zTB, w.before ([.ref (zad g 0), .int a1] : List Value).toArray s = true := fun w h => hts w (List.mem_cons_of_mem _ h)
  have hown : s.vm.findClass RX9 = some m.cls := findClass_of_methodNamed B.named
  have hlocks := B.notSynchronized
  have P0 := hP.2
  have Z : zZ (zYX g) S s s.heap [] := ⟨hP.1, va_S.rf⟩
  have hf : ∀ w ∈ u_ws RX9 TX9 13, w.before ([.ref (zad g 0), .int a1] : List Value).toArray s = true := fun w hw => hT w (mU_X9 w hw)
  have L71 := hT _ mF_X9_71
  have L56 := hT _ mF_X9_56
  have L67 := hT _ mF_X9_67
  have L63 := hT _ mF_X9_63
  have B87 : ∀ (k56 : Int32 × Int32 × zSt → Option (Int32 × zSt)) (K56 : (∀ (x2 : Int32) (x3 : Int32) (S : zSt), k56 (x2, x3, S) = some (r, S') → ∀ (H : Heap) (locs : List Loc), zZ (zYX g) S s H locs → ∀ ls : Array Slot, lv_has ls 4 [(0, .ref (zad g 0)), (2, .int x2), (3, .int x3)] → W p l e (headSpec vX9_back { frames := 7, cells := 0, slots := 0, locals := 162 }).room s m ([.ref (zad g 0), .int a1] : List Value).toArray below meth c H locs 0 0 (MQ below (zQi (zYX g) r S') ([.ref (zad g 0), .int a1] : List Value).toArray s 0 0 (zYX g).2.2.1) (F0 m 56 ls []))) (x2 : Int32) (x3 : Int32) (S : zSt), fX9_back_87 k56 x2 x3 S = some (r, S') → ∀ (H : Heap) (locs : List Loc), zZ (zYX g) S s H locs → ∀ ls : Array Slot, lv_has ls 4 [(0, .ref (zad g 0)), (2, .int x2), (3, .int x3)] → W p l e (headSpec vX9_back { frames := 7, cells := 0, slots := 0, locals := 162 }).room s m ([.ref (zad g 0), .int a1] : List Value).toArray below meth c H locs 0 0 (MQ below (zQi (zYX g) r S') ([.ref (zad g 0), .int a1] : List Value).toArray s 0 0 (zYX g).2.2.1) (F0 m 87 ls []) := by
    intro k56 K56 x2 x3 S h H locs Z ls hl
    unfold fX9_back_87 at h
    refine lv_iload_n hx hb dX9_back_87 rfl (lv_at hl 2 rfl) ?_
    refine lv_iload_n hx hb dX9_back_88 rfl (lv_at hl 1 rfl) ?_
    refine lv_icmp_ge (tgt := 100) hx hb dX9_back_89 (by decide) (fun q => ?_) (fun q => ?_)
    · have h := zi_t q h
      refine lv_iinc (v := (x3 + (nI 1))) (lv' := [(3, .int (x3 + (nI 1))), (0, .ref (zad g 0)), (2, .int x2)]) hx hb dX9_back_100 hl (k := 2) rfl rfl (by decide) rfl (fun ls hl => ?_)
      refine lv_goto (tgt := 56) hx hb dX9_back_103 (by decide) ?_
      exact K56 x2 (x3 + (nI 1)) S h _ _ Z ls (lv_sub hl [1, 2, 0] rfl)
    · have h := zi_f q h
      refine lv_aload_n hx hb dX9_back_92 rfl (lv_at hl 0 rfl) ?_
      refine zgX9_5 hx hb hf hown P0 Z L56 dX9_back_93 ?_
      obtain ⟨r12, S13, ec, h⟩ := zbd_s h
      refine zc_Vi hY P0 ⟨hx, hb, hml, hown, hT⟩ (As := []) (rest := []) (kX2_attempt l hO  S r12 S13 ec) (cwV 0 hT (zgV mL_X9_123 mI_X2_attempt mS_X2_attempt mN_X2 mC_X2_attempt) rfl rfl rfl hdnX2_attempt ⟨Nat.le_of_ble_eq_true rfl, Nat.le_of_ble_eq_true rfl⟩) (zrecX_7 P0 Z) Z rfl hl.1 rfl (Nat.le_of_ble_eq_true rfl) dX9_back_96 (fun H locs Z => ?_)
      refine lv_pop hx hb dX9_back_99 rfl ?_
      refine lv_iinc (v := (x3 + (nI 1))) (lv' := [(3, .int (x3 + (nI 1))), (0, .ref (zad g 0)), (2, .int x2)]) hx hb dX9_back_100 hl (k := 2) rfl rfl (by decide) rfl (fun ls hl => ?_)
      refine lv_goto (tgt := 56) hx hb dX9_back_103 (by decide) ?_
      exact K56 x2 (x3 + (nI 1)) S13 h _ _ Z ls (lv_sub hl [1, 2, 0] rfl)
  have B56 : ∀ (n : Nat) (x2 : Int32) (x3 : Int32) (S : zSt), fX9_back_56L n (x2, x3, S) = some (r, S') → ∀ (H : Heap) (locs : List Loc), zZ (zYX g) S s H locs → ∀ ls : Array Slot, lv_has ls 4 [(0, .ref (zad g 0)), (2, .int x2), (3, .int x3)] → W p l e (headSpec vX9_back { frames := 7, cells := 0, slots := 0, locals := 162 }).room s m ([.ref (zad g 0), .int a1] : List Value).toArray below meth c H locs 0 0 (MQ below (zQi (zYX g) r S') ([.ref (zad g 0), .int a1] : List Value).toArray s 0 0 (zYX g).2.2.1) (F0 m 56 ls []) := by
    intro n
    induction n with
    | zero => intro x2 x3 S h; exact absurd h (fun h => nomatch h)
    | succ n K56 =>
      intro x2 x3 S h H locs Z ls hl
      have h : fX9_back_56 (fX9_back_56L n) x2 x3 S = some (r, S') := h
      unfold fX9_back_56 at h
      refine lv_iload_n hx hb dX9_back_56 rfl (lv_at hl 2 rfl) ?_
      refine lv_iload_n hx hb dX9_back_57 rfl (lv_at hl 1 rfl) ?_
      refine lv_icmp_gt (tgt := 106) hx hb dX9_back_58 (by decide) (fun q => ?_) (fun q => ?_)
      · have h := zi_t q h
        refine lv_iload_n hx hb dX9_back_106 rfl (lv_at hl 1 rfl) ?_
        exact zr_i hY P0 hx hb hr hlocks h Z dX9_back_107
      · have h := zi_f q h
        refine lv_iload_n hx hb dX9_back_61 rfl (lv_at hl 2 rfl) ?_
        refine lv_aload_n hx hb dX9_back_62 rfl (lv_at hl 0 rfl) ?_
        refine zgX9_7 hx hb hf hown P0 Z L67 dX9_back_63 ?_
        refine zaX_10 hx hb P0 Z dX9_back_66 ?_
        refine lv_icmp_ge (tgt := 106) hx hb dX9_back_67 (by decide) (fun q => ?_) (fun q => ?_)
        · have h := zi_t q h
          refine lv_iload_n hx hb dX9_back_106 rfl (lv_at hl 1 rfl) ?_
          exact zr_i hY P0 hx hb hr hlocks h Z dX9_back_107
        · have h := zi_f q h
          refine lv_aload_n hx hb dX9_back_70 rfl (lv_at hl 0 rfl) ?_
          refine zgX9_7 hx hb hf hown P0 Z L67 dX9_back_71 ?_
          refine lv_iload_n hx hb dX9_back_74 rfl (lv_at hl 2 rfl) ?_
          obtain ⟨v9, ev, hin, h⟩ := zld_s h
          refine zlX_10 hx hb P0 Z ev hin dX9_back_75 ?_
          refine lv_if_eq (tgt := 87) hx hb dX9_back_76 (by decide) (fun q => ?_) (fun q => ?_)
          · have h := zi_t q h
            exact B87 (fX9_back_56L n) K56 x2 x3 S h _ _ Z ls (lv_sub hl [0, 1, 2] rfl)
          · have h := zi_f q h
            refine lv_aload_n hx hb dX9_back_79 rfl (lv_at hl 0 rfl) ?_
            refine zgX9_6 hx hb hf hown P0 Z L63 dX9_back_80 ?_
            obtain ⟨r10, S11, ec, h⟩ := zbd_s h
            refine zc_Vi hY P0 ⟨hx, hb, hml, hown, hT⟩ (As := []) (rest := []) (kX1_freeTheRest l hO  S r10 S11 ec) (cwV 0 hT (zgV mL_X9_135 mI_X1_freeTheRest mS_X1_freeTheRest mN_X1 mC_X1_freeTheRest) rfl rfl rfl hdnX1_freeTheRest ⟨Nat.le_of_ble_eq_true rfl, Nat.le_of_ble_eq_true rfl⟩) (zrecX_9 P0 Z) Z rfl hl.1 rfl (Nat.le_of_ble_eq_true rfl) dX9_back_83 (fun H locs Z => ?_)
            refine lv_pop hx hb dX9_back_86 rfl ?_
            exact B87 (fX9_back_56L n) K56 x2 x3 S11 h _ _ Z ls (lv_sub hl [0, 1, 2] rfl)
  have hl := lv_entry ([.ref (zad g 0), .int a1] : List Value) (n := 4) (Nat.le_of_ble_eq_true rfl)
  rw [lg_entry_eq]
  generalize (lg_sl ([.ref (zad g 0), .int a1] : List Value) ++ List.replicate (4 - (lg_sl ([.ref (zad g 0), .int a1] : List Value)).length) Slot.unset).toArray = ls at hl ⊢
  have hl : lv_has ls 4 [(0, .ref (zad g 0)), (1, .int a1)] := hl
  unfold fX9_back at h
  refine lv_aload_n hx hb dX9_back_0 rfl (lv_at hl 0 rfl) ?_
  refine zgX9_8 (v := (zI S 0)) hx hb hf hown P0 Z L71 rfl dX9_back_1 ?_
  refine lv_if_ne (tgt := 10) hx hb dX9_back_4 (by decide) (fun q => ?_) (fun q => ?_)
  · have h := zi_f q h
    refine lv_aload_n hx hb dX9_back_10 rfl (lv_at hl 0 rfl) ?_
    refine zgX9_5 hx hb hf hown P0 Z L56 dX9_back_11 ?_
    obtain ⟨r1, S2, ec, h⟩ := zbd_s h
    refine zc_Vi hY P0 ⟨hx, hb, hml, hown, hT⟩ (As := []) (rest := []) (kX2_stepsDone l hO  S r1 S2 ec) (cwV 0 hT (zgV mL_X9_132 mI_X2_stepsDone mS_X2_stepsDone mN_X2 mC_X2_stepsDone) rfl rfl rfl hdnX2_stepsDone ⟨Nat.le_of_ble_eq_true rfl, Nat.le_of_ble_eq_true rfl⟩) (zrecX_7 P0 Z) Z rfl hl.1 rfl (Nat.le_of_ble_eq_true rfl) dX9_back_14 (fun H locs Z => ?_)
    refine lv_iload_n hx hb dX9_back_17 rfl (lv_at hl 1 rfl) ?_
    refine lv_isub hx hb dX9_back_18 ?_
    refine lv_istore_n (lv' := [(2, .int (r1 - a1)), (0, .ref (zad g 0)), (1, .int a1)]) hx hb dX9_back_19 rfl hl (by decide) rfl (fun ls hl => ?_)
    refine lv_iload_n hx hb dX9_back_20 rfl (lv_at hl 2 rfl) ?_
    refine lv_if_lt (tgt := 28) hx hb dX9_back_21 (by decide) (fun q => ?_) (fun q => ?_)
    · have h := zi_t q h
      refine lv_iconst (v := (-1 : Int32)) hx hb dX9_back_28 (by decide) ?_
      exact zr_i hY P0 hx hb hr hlocks h Z dX9_back_29
    · have h := zi_f q h
      refine lv_iload_n hx hb dX9_back_24 rfl (lv_at hl 0 rfl) ?_
      refine lv_if_ge (tgt := 30) hx hb dX9_back_25 (by decide) (fun q => ?_) (fun q => ?_)
      · have h := zi_t q h
        refine lv_aload_n hx hb dX9_back_30 rfl (lv_at hl 1 rfl) ?_
        obtain ⟨r3, S4, ec, h⟩ := zbd_s h
        refine zc_Vv hY P0 ⟨hx, hb, hml, hown, hT⟩ (As := []) (rest := []) (kX9_goOn l hO  S2 r3 S4 ec) (cwV 0 hT (zgV mL_X9_115 mI_X9_goOn mS_X9_goOn mN_X9 mC_X9_goOn) rfl rfl rfl hdnX9_goOn ⟨Nat.le_of_ble_eq_true rfl, Nat.le_of_ble_eq_true rfl⟩) (zrecX_0 P0 Z) Z rfl hl.1 rfl (Nat.le_of_ble_eq_true rfl) dX9_back_31 (fun H locs Z => ?_)
        refine lv_iload_n hx hb dX9_back_34 rfl (lv_at hl 2 rfl) ?_
        refine lv_if_ne (tgt := 40) hx hb dX9_back_35 (by decide) (fun q => ?_) (fun q => ?_)
        · have h := zi_f q h
          refine lv_aload_n hx hb dX9_back_40 rfl (lv_at hl 1 rfl) ?_
          refine lv_iload_n hx hb dX9_back_41 rfl (lv_at hl 0 rfl) ?_
          refine lv_iconst (v := (nI 1)) hx hb dX9_back_42 (by decide) ?_
          refine lv_iadd hx hb dX9_back_43 ?_
          obtain ⟨r5, S6, ec, h⟩ := zbd_s h
          refine zc_Vv hY P0 ⟨hx, hb, hml, hown, hT⟩ (As := [.int ((r1 - a1) + (nI 1))]) (rest := []) (kX9_forgetSweeps l hO ((r1 - a1) + (nI 1)) S4 r5 S6 ec) (cwV 1 hT (zgV mL_X9_109 mI_X9_forgetSweeps mS_X9_forgetSweeps mN_X9 mC_X9_forgetSweeps) rfl rfl rfl hdnX9_forgetSweeps ⟨Nat.le_of_ble_eq_true rfl, Nat.le_of_ble_eq_true rfl⟩) (zrecX_0 P0 Z) Z rfl hl.1 rfl (Nat.le_of_ble_eq_true rfl) dX9_back_44 (fun H locs Z => ?_)
          refine lv_aload_n hx hb dX9_back_47 rfl (lv_at hl 1 rfl) ?_
          refine zgX9_5 hx hb hf hown P0 Z L56 dX9_back_48 ?_
          obtain ⟨r7, S8, ec, h⟩ := zbd_s h
          refine zc_Vv hY P0 ⟨hx, hb, hml, hown, hT⟩ (As := []) (rest := []) (kX2_begin l hO  S6 r7 S8 ec) (cwV 0 hT (zgV mL_X9_112 mI_X2_begin mS_X2_begin mN_X2 mC_X2_begin) rfl rfl rfl hdnX2_begin ⟨Nat.le_of_ble_eq_true rfl, Nat.le_of_ble_eq_true rfl⟩) (zrecX_7 P0 Z) Z rfl hl.1 rfl (Nat.le_of_ble_eq_true rfl) dX9_back_51 (fun H locs Z => ?_)
          refine lv_iconst (v := (nI 0)) hx hb dX9_back_54 (by decide) ?_
          refine lv_istore_n (lv' := [(3, .int (nI 0)), (2, .int (r1 - a1)), (0, .ref (zad g 0)), (1, .int a1)]) hx hb dX9_back_55 rfl hl (by decide) rfl (fun ls hl => ?_)
          exact B56 zFU (r1 - a1) (nI 0) S8 h _ _ Z ls (lv_sub hl [2, 1, 0] rfl)
        · have h := zi_t q h
          refine lv_iload_n hx hb dX9_back_38 rfl (lv_at hl 0 rfl) ?_
          exact zr_i hY P0 hx hb hr hlocks h Z dX9_back_39
      · have h := zi_f q h
        refine lv_iconst (v := (-1 : Int32)) hx hb dX9_back_28 (by decide) ?_
        exact zr_i hY P0 hx hb hr hlocks h Z dX9_back_29
  · have h := zi_t q h
    refine lv_bipush (v := (-3 : Int32)) hx hb dX9_back_7 (by decide) ?_
    exact zr_i hY P0 hx hb hr hlocks h Z dX9_back_9

set_option maxHeartbeats 4000000 in
set_option maxRecDepth 100000 in
theorem kX9_sweep {g : zG} (l : Launch) (hO : zinjX g) (S : zSt) (r : Int32) (S' : zSt) (h : fX9_sweep S = some (r, S')) : zMi (zYX g) l yX9_sweep vX9_sweep { frames := 4, cells := 0, slots := 0, locals := 90 } ([.ref (zad g 0)] : List Value) S r S' := by
  have hY := zOkX hO
  refine Met.ofW (cc := cX9_sweep) (maxL := 3) (ret := (some .int)) (by decide) rfl ?_
  intro p e s m args below meth c s₁ B hml hv
  obtain ⟨rfl, hP⟩ := hv
  have hx := B.exec
  have hb := B.bytes
  have hr := B.returns
  have hts := atoms_spec (ws := vX9_sweep) B.pre
  have hT : ∀ w ∈ zTB, w.before ([.ref (zad g 0)] : List Value).toArray s = true := fun w h => hts w (List.mem_cons_of_mem _ h)
  have hown : s.vm.findClass RX9 = some m.cls := findClass_of_methodNamed B.named
  have hlocks := B.notSynchronized
  have P0 := hP.2
  have Z : zZ (zYX g) S s s.heap [] := ⟨hP.1, va_S.rf⟩
  have hf : ∀ w ∈ u_ws RX9 TX9 13, w.before ([.ref (zad g 0)] : List Value).toArray s = true := fun w hw => hT w (mU_X9 w hw)
  have L71 := hT _ mF_X9_71
  have L63 := hT _ mF_X9_63
  have L56 := hT _ mF_X9_56
  have L67 := hT _ mF_X9_67
  have B50 : ∀ (x1 : Int32) (S : zSt), fX9_sweep_50 x1 S = some (r, S') → ∀ (H : Heap) (locs : List Loc), zZ (zYX g) S s H locs → ∀ ls : Array Slot, lv_has ls 3 [(0, .ref (zad g 0)), (1, .int x1)] → W p l e (headSpec vX9_sweep { frames := 4, cells := 0, slots := 0, locals := 90 }).room s m ([.ref (zad g 0)] : List Value).toArray below meth c H locs 0 0 (MQ below (zQi (zYX g) r S') ([.ref (zad g 0)] : List Value).toArray s 0 0 (zYX g).2.2.1) (F0 m 50 ls []) := by
    intro x1 S h H locs Z ls hl
    unfold fX9_sweep_50 at h
    refine lv_aload_n hx hb dX9_sweep_50 rfl (lv_at hl 0 rfl) ?_
    obtain ⟨r5, S6, ec, h⟩ := zbd_s h
    refine zc_Vv hY P0 ⟨hx, hb, hml, hown, hT⟩ (As := []) (rest := []) (kX9_goOn l hO  S r5 S6 ec) (cwV 0 hT (zgV mL_X9_115 mI_X9_goOn mS_X9_goOn mN_X9 mC_X9_goOn) rfl rfl rfl hdnX9_goOn ⟨Nat.le_of_ble_eq_true rfl, Nat.le_of_ble_eq_true rfl⟩) (zrecX_0 P0 Z) Z rfl hl.1 rfl (Nat.le_of_ble_eq_true rfl) dX9_sweep_51 (fun H locs Z => ?_)
    refine lv_iload_n hx hb dX9_sweep_54 rfl (lv_at hl 1 rfl) ?_
    exact zr_i hY P0 hx hb hr hlocks h Z dX9_sweep_55
  have hl := lv_entry ([.ref (zad g 0)] : List Value) (n := 3) (Nat.le_of_ble_eq_true rfl)
  rw [lg_entry_eq]
  generalize (lg_sl ([.ref (zad g 0)] : List Value) ++ List.replicate (3 - (lg_sl ([.ref (zad g 0)] : List Value)).length) Slot.unset).toArray = ls at hl ⊢
  have hl : lv_has ls 3 [(0, .ref (zad g 0))] := hl
  unfold fX9_sweep at h
  refine lv_aload_n hx hb dX9_sweep_0 rfl (lv_at hl 0 rfl) ?_
  refine zgX9_8 (v := (zI S 0)) hx hb hf hown P0 Z L71 rfl dX9_sweep_1 ?_
  refine lv_if_ne (tgt := 10) hx hb dX9_sweep_4 (by decide) (fun q => ?_) (fun q => ?_)
  · have h := zi_f q h
    refine lv_aload_n hx hb dX9_sweep_10 rfl (lv_at hl 0 rfl) ?_
    refine zgX9_6 hx hb hf hown P0 Z L63 dX9_sweep_11 ?_
    obtain ⟨r1, S2, ec, h⟩ := zbd_s h
    refine zc_Vi hY P0 ⟨hx, hb, hml, hown, hT⟩ (As := []) (rest := []) (kX1_freeTheRest l hO  S r1 S2 ec) (cwV 0 hT (zgV mL_X9_135 mI_X1_freeTheRest mS_X1_freeTheRest mN_X1 mC_X1_freeTheRest) rfl rfl rfl hdnX1_freeTheRest ⟨Nat.le_of_ble_eq_true rfl, Nat.le_of_ble_eq_true rfl⟩) (zrecX_9 P0 Z) Z rfl hl.1 rfl (Nat.le_of_ble_eq_true rfl) dX9_sweep_14 (fun H locs Z => ?_)
    refine lv_istore_n (lv' := [(1, .int r1), (0, .ref (zad g 0))]) hx hb dX9_sweep_17 rfl hl (by decide) rfl (fun ls hl => ?_)
    refine lv_aload_n hx hb dX9_sweep_18 rfl (lv_at hl 1 rfl) ?_
    refine zgX9_5 hx hb hf hown P0 Z L56 dX9_sweep_19 ?_
    obtain ⟨r3, S4, ec, h⟩ := zbd_s h
    refine zc_Vi hY P0 ⟨hx, hb, hml, hown, hT⟩ (As := []) (rest := []) (kX2_stepsDone l hO  S2 r3 S4 ec) (cwV 0 hT (zgV mL_X9_132 mI_X2_stepsDone mS_X2_stepsDone mN_X2 mC_X2_stepsDone) rfl rfl rfl hdnX2_stepsDone ⟨Nat.le_of_ble_eq_true rfl, Nat.le_of_ble_eq_true rfl⟩) (zrecX_7 P0 Z) Z rfl hl.1 rfl (Nat.le_of_ble_eq_true rfl) dX9_sweep_22 (fun H locs Z => ?_)
    refine lv_istore_n (lv' := [(2, .int r3), (1, .int r1), (0, .ref (zad g 0))]) hx hb dX9_sweep_25 rfl hl (by decide) rfl (fun ls hl => ?_)
    refine lv_iload_n hx hb dX9_sweep_26 rfl (lv_at hl 1 rfl) ?_
    refine lv_if_le (tgt := 50) hx hb dX9_sweep_27 (by decide) (fun q => ?_) (fun q => ?_)
    · have h := zi_t q h
      exact B50 r1 S4 h _ _ Z ls (lv_sub hl [2, 1] rfl)
    · have h := zi_f q h
      refine lv_iload_n hx hb dX9_sweep_30 rfl (lv_at hl 0 rfl) ?_
      refine lv_if_lt (tgt := 50) hx hb dX9_sweep_31 (by decide) (fun q => ?_) (fun q => ?_)
      · have h := zi_t q h
        exact B50 r1 S4 h _ _ Z ls (lv_sub hl [2, 1] rfl)
      · have h := zi_f q h
        refine lv_iload_n hx hb dX9_sweep_34 rfl (lv_at hl 0 rfl) ?_
        refine lv_aload_n hx hb dX9_sweep_35 rfl (lv_at hl 2 rfl) ?_
        refine zgX9_7 hx hb hf hown P0 Z L67 dX9_sweep_36 ?_
        refine zaX_10 hx hb P0 Z dX9_sweep_39 ?_
        refine lv_icmp_ge (tgt := 50) hx hb dX9_sweep_40 (by decide) (fun q => ?_) (fun q => ?_)
        · have h := zi_t q h
          exact B50 r1 S4 h _ _ Z ls (lv_sub hl [2, 1] rfl)
        · have h := zi_f q h
          refine lv_aload_n hx hb dX9_sweep_43 rfl (lv_at hl 2 rfl) ?_
          refine zgX9_7 hx hb hf hown P0 Z L67 dX9_sweep_44 ?_
          refine lv_iload_n hx hb dX9_sweep_47 rfl (lv_at hl 0 rfl) ?_
          refine lv_iconst (v := (nI 1)) hx hb dX9_sweep_48 (by decide) ?_
          obtain ⟨hin, h⟩ := zck_s h
          refine zsX_10 hO hx hb P0 Z hin dX9_sweep_49 (fun H locs Z => ?_)
          exact B50 r1 (wA S4 10 (r3.toNatClampNeg) (vp_nar .boolean (nI 1))) h _ _ Z ls (lv_sub hl [2, 1] rfl)
  · have h := zi_t q h
    refine lv_bipush (v := (-3 : Int32)) hx hb dX9_sweep_7 (by decide) ?_
    exact zr_i hY P0 hx hb hr hlocks h Z dX9_sweep_9

set_option maxHeartbeats 4000000 in
set_option maxRecDepth 100000 in
theorem kX0_made {g : zG} (l : Launch) (hO : zinjX g) (S : zSt) (r : Int32) (S' : zSt) (h : fX0_made S = some (r, S')) : zMi (zYX g) l yX0_made vX0_made { frames := 0, cells := 0, slots := 0, locals := 0 } ([.ref (zad g 5)] : List Value) S r S' := by
  have hY := zOkX hO
  refine Met.ofW (cc := cX0_made) (maxL := 1) (ret := (some .int)) (by decide) rfl ?_
  intro p e s m args below meth c s₁ B hml hv
  obtain ⟨rfl, hP⟩ := hv
  have hx := B.exec
  have hb := B.bytes
  have hr := B.returns
  have hts := atoms_spec (ws := vX0_made) B.pre
  have hT : ∀ w ∈ zTB, w.before ([.ref (zad g 5)] : List Value).toArray s = true := fun w h => hts w (List.mem_cons_of_mem _ h)
  have hown : s.vm.findClass RX0 = some m.cls := findClass_of_methodNamed B.named
  have hlocks := B.notSynchronized
  have P0 := hP.2
  have Z : zZ (zYX g) S s s.heap [] := ⟨hP.1, va_S.rf⟩
  have hf : ∀ w ∈ u_ws RX0 TX0 9, w.before ([.ref (zad g 5)] : List Value).toArray s = true := fun w hw => hT w (mU_X0 w hw)
  have L28 := hT _ mF_X0_28
  have hl := lv_entry ([.ref (zad g 5)] : List Value) (n := 1) (Nat.le_of_ble_eq_true rfl)
  rw [lg_entry_eq]
  generalize (lg_sl ([.ref (zad g 5)] : List Value) ++ List.replicate (1 - (lg_sl ([.ref (zad g 5)] : List Value)).length) Slot.unset).toArray = ls at hl ⊢
  have hl : lv_has ls 1 [(0, .ref (zad g 5))] := hl
  unfold fX0_made at h
  refine lv_aload_n hx hb dX0_made_0 rfl (lv_at hl 0 rfl) ?_
  refine zgX0_5 (v := (zI S 15)) hx hb hf hown P0 Z L28 rfl dX0_made_1 ?_
  exact zr_i hY P0 hx hb hr hlocks h Z dX0_made_4

set_option maxHeartbeats 4000000 in
set_option maxRecDepth 100000 in
theorem kX0_most {g : zG} (l : Launch) (hO : zinjX g) (S : zSt) (r : Int32) (S' : zSt) (h : fX0_most S = some (r, S')) : zMi (zYX g) l yX0_most vX0_most { frames := 0, cells := 0, slots := 0, locals := 0 } ([.ref (zad g 5)] : List Value) S r S' := by
  have hY := zOkX hO
  refine Met.ofW (cc := cX0_most) (maxL := 1) (ret := (some .int)) (by decide) rfl ?_
  intro p e s m args below meth c s₁ B hml hv
  obtain ⟨rfl, hP⟩ := hv
  have hx := B.exec
  have hb := B.bytes
  have hr := B.returns
  have hts := atoms_spec (ws := vX0_most) B.pre
  have hT : ∀ w ∈ zTB, w.before ([.ref (zad g 5)] : List Value).toArray s = true := fun w h => hts w (List.mem_cons_of_mem _ h)
  have hown : s.vm.findClass RX0 = some m.cls := findClass_of_methodNamed B.named
  have hlocks := B.notSynchronized
  have P0 := hP.2
  have Z : zZ (zYX g) S s s.heap [] := ⟨hP.1, va_S.rf⟩
  have hf : ∀ w ∈ u_ws RX0 TX0 9, w.before ([.ref (zad g 5)] : List Value).toArray s = true := fun w hw => hT w (mU_X0 w hw)
  have L31 := hT _ mF_X0_31
  have hl := lv_entry ([.ref (zad g 5)] : List Value) (n := 1) (Nat.le_of_ble_eq_true rfl)
  rw [lg_entry_eq]
  generalize (lg_sl ([.ref (zad g 5)] : List Value) ++ List.replicate (1 - (lg_sl ([.ref (zad g 5)] : List Value)).length) Slot.unset).toArray = ls at hl ⊢
  have hl : lv_has ls 1 [(0, .ref (zad g 5))] := hl
  unfold fX0_most at h
  refine lv_aload_n hx hb dX0_most_0 rfl (lv_at hl 0 rfl) ?_
  refine zgX0_6 (v := (zI S 16)) hx hb hf hown P0 Z L31 rfl dX0_most_1 ?_
  exact zr_i hY P0 hx hb hr hlocks h Z dX0_most_4

set_option maxHeartbeats 4000000 in
set_option maxRecDepth 100000 in
theorem kX0_used {g : zG} (l : Launch) (hO : zinjX g) (S : zSt) (r : Int32) (S' : zSt) (h : fX0_used S = some (r, S')) : zMi (zYX g) l yX0_used vX0_used { frames := 0, cells := 0, slots := 0, locals := 0 } ([.ref (zad g 5)] : List Value) S r S' := by
  have hY := zOkX hO
  refine Met.ofW (cc := cX0_used) (maxL := 1) (ret := (some .int)) (by decide) rfl ?_
  intro p e s m args below meth c s₁ B hml hv
  obtain ⟨rfl, hP⟩ := hv
  have hx := B.exec
  have hb := B.bytes
  have hr := B.returns
  have hts := atoms_spec (ws := vX0_used) B.pre
  have hT : ∀ w ∈ zTB, w.before ([.ref (zad g 5)] : List Value).toArray s = true := fun w h => hts w (List.mem_cons_of_mem _ h)
  have hown : s.vm.findClass RX0 = some m.cls := findClass_of_methodNamed B.named
  have hlocks := B.notSynchronized
  have P0 := hP.2
  have Z : zZ (zYX g) S s s.heap [] := ⟨hP.1, va_S.rf⟩
  have hf : ∀ w ∈ u_ws RX0 TX0 9, w.before ([.ref (zad g 5)] : List Value).toArray s = true := fun w hw => hT w (mU_X0 w hw)
  have L24 := hT _ mF_X0_24
  have hl := lv_entry ([.ref (zad g 5)] : List Value) (n := 1) (Nat.le_of_ble_eq_true rfl)
  rw [lg_entry_eq]
  generalize (lg_sl ([.ref (zad g 5)] : List Value) ++ List.replicate (1 - (lg_sl ([.ref (zad g 5)] : List Value)).length) Slot.unset).toArray = ls at hl ⊢
  have hl : lv_has ls 1 [(0, .ref (zad g 5))] := hl
  unfold fX0_used at h
  refine lv_aload_n hx hb dX0_used_0 rfl (lv_at hl 0 rfl) ?_
  refine zgX0_4 (v := (zI S 14)) hx hb hf hown P0 Z L24 rfl dX0_used_1 ?_
  exact zr_i hY P0 hx hb hr hlocks h Z dX0_used_4

set_option maxHeartbeats 4000000 in
set_option maxRecDepth 100000 in
theorem kX1_countKept {g : zG} (l : Launch) (hO : zinjX g) (S : zSt) (r : Int32) (S' : zSt) (h : fX1_countKept S = some (r, S')) : zMi (zYX g) l yX1_countKept vX1_countKept { frames := 3, cells := 0, slots := 0, locals := 68 } ([.ref (zad g 9)] : List Value) S r S' := by
  have hY := zOkX hO
  refine Met.ofW (cc := cX1_countKept) (maxL := 1) (ret := (some .int)) (by decide) rfl ?_
  intro p e s m args below meth c s₁ B hml hv
  obtain ⟨rfl, hP⟩ := hv
  have hx := B.exec
  have hb := B.bytes
  have hr := B.returns
  have hts := atoms_spec (ws := vX1_countKept) B.pre
  have hT : ∀ w ∈ zTB, w.before ([.ref (zad g 9)] : List Value).toArray s = true := fun w h => hts w (List.mem_cons_of_mem _ h)
  have hown : s.vm.findClass RX1 = some m.cls := findClass_of_methodNamed B.named
  have hlocks := B.notSynchronized
  have P0 := hP.2
  have Z : zZ (zYX g) S s s.heap [] := ⟨hP.1, va_S.rf⟩
  have hf : ∀ w ∈ u_ws RX1 TX1 7, w.before ([.ref (zad g 9)] : List Value).toArray s = true := fun w hw => hT w (mU_X1 w hw)
  have L15 := hT _ mF_X1_15
  have hl := lv_entry ([.ref (zad g 9)] : List Value) (n := 1) (Nat.le_of_ble_eq_true rfl)
  rw [lg_entry_eq]
  generalize (lg_sl ([.ref (zad g 9)] : List Value) ++ List.replicate (1 - (lg_sl ([.ref (zad g 9)] : List Value)).length) Slot.unset).toArray = ls at hl ⊢
  have hl : lv_has ls 1 [(0, .ref (zad g 9))] := hl
  unfold fX1_countKept at h
  refine lv_aload_n hx hb dX1_countKept_0 rfl (lv_at hl 0 rfl) ?_
  obtain ⟨r1, S2, ec, h⟩ := zbd_s h
  refine zc_Vv hY P0 ⟨hx, hb, hml, hown, hT⟩ (As := []) (rest := []) (kX1_findKept l hO  S r1 S2 ec) (cwV 0 hT (zgV mL_X1_37 mI_X1_findKept mS_X1_findKept mN_X1 mC_X1_findKept) rfl rfl rfl hdnX1_findKept ⟨Nat.le_of_ble_eq_true rfl, Nat.le_of_ble_eq_true rfl⟩) (zrecX_9 P0 Z) Z rfl hl.1 rfl (Nat.le_of_ble_eq_true rfl) dX1_countKept_1 (fun H locs Z => ?_)
  refine lv_aload_n hx hb dX1_countKept_4 rfl (lv_at hl 0 rfl) ?_
  refine zgX1_4 (v := (zI S2 27)) hx hb hf hown P0 Z L15 rfl dX1_countKept_5 ?_
  exact zr_i hY P0 hx hb hr hlocks h Z dX1_countKept_8

set_option maxHeartbeats 4000000 in
set_option maxRecDepth 100000 in
theorem kX9_count {g : zG} (l : Launch) (hO : zinjX g) (a1 : Int32) (S : zSt) (r : Int32) (S' : zSt) (h : fX9_count a1 S = some (r, S')) : zMi (zYX g) l yX9_count vX9_count { frames := 4, cells := 0, slots := 0, locals := 88 } ([.ref (zad g 0), .int a1] : List Value) S r S' := by
  have hY := zOkX hO
  refine Met.ofW (cc := cX9_count) (maxL := 2) (ret := (some .int)) (by decide) rfl ?_
  intro p e s m args below meth c s₁ B hml hv
  obtain ⟨rfl, hP⟩ := hv
  have hx := B.exec
  have hb := B.bytes
  have hr := B.returns
  have hts := atoms_spec (ws := vX9_count) B.pre
  have hT : ∀ w ∈ zTB, w.before ([.ref (zad g 0), .int a1] : List Value).toArray s = true := fun w h => hts w (List.mem_cons_of_mem _ h)
  have hown : s.vm.findClass RX9 = some m.cls := findClass_of_methodNamed B.named
  have hlocks := B.notSynchronized
  have P0 := hP.2
  have Z : zZ (zYX g) S s s.heap [] := ⟨hP.1, va_S.rf⟩
  have hf : ∀ w ∈ u_ws RX9 TX9 13, w.before ([.ref (zad g 0), .int a1] : List Value).toArray s = true := fun w hw => hT w (mU_X9 w hw)
  have L71 := hT _ mF_X9_71
  have L40 := hT _ mF_X9_40
  have L63 := hT _ mF_X9_63
  have L47 := hT _ mF_X9_47
  have L56 := hT _ mF_X9_56
  have hl := lv_entry ([.ref (zad g 0), .int a1] : List Value) (n := 2) (Nat.le_of_ble_eq_true rfl)
  rw [lg_entry_eq]
  generalize (lg_sl ([.ref (zad g 0), .int a1] : List Value) ++ List.replicate (2 - (lg_sl ([.ref (zad g 0), .int a1] : List Value)).length) Slot.unset).toArray = ls at hl ⊢
  have hl : lv_has ls 2 [(0, .ref (zad g 0)), (1, .int a1)] := hl
  unfold fX9_count at h
  refine lv_aload_n hx hb dX9_count_0 rfl (lv_at hl 0 rfl) ?_
  refine zgX9_8 (v := (zI S 0)) hx hb hf hown P0 Z L71 rfl dX9_count_1 ?_
  refine lv_if_ne (tgt := 10) hx hb dX9_count_4 (by decide) (fun q => ?_) (fun q => ?_)
  · have h := zi_f q h
    refine lv_iload_n hx hb dX9_count_10 rfl (lv_at hl 1 rfl) ?_
    by_cases q0 : a1 = (nI 0)
    · have h := zi_t q0 h
      refine ztbl (off := 41) (tgt := 52) hx hb q0 dX9_count_11 (by decide) (by decide) (by decide) (by decide) ?_
      refine lv_aload_n hx hb dX9_count_52 rfl (lv_at hl 0 rfl) ?_
      refine zgX9_3 hx hb hf hown P0 Z L40 dX9_count_53 ?_
      obtain ⟨r1, S2, ec, h⟩ := zbd_s h
      refine zc_Vi hY P0 ⟨hx, hb, hml, hown, hT⟩ (As := []) (rest := []) (kX0_used l hO  S r1 S2 ec) (cwV 0 hT (zgV mL_X9_138 mI_X0_used mS_X0_used mN_X0 mC_X0_used) rfl rfl rfl hdnX0_used ⟨Nat.le_of_ble_eq_true rfl, Nat.le_of_ble_eq_true rfl⟩) (zrecX_5 P0 Z) Z rfl hl.1 rfl (Nat.le_of_ble_eq_true rfl) dX9_count_56 (fun H locs Z => ?_)
      exact zr_i hY P0 hx hb hr hlocks h Z dX9_count_59
    have h := zi_f q0 h
    by_cases q1 : a1 = (nI 1)
    · have h := zi_t q1 h
      refine ztbl (off := 49) (tgt := 60) hx hb q1 dX9_count_11 (by decide) (by decide) (by decide) (by decide) ?_
      refine lv_aload_n hx hb dX9_count_60 rfl (lv_at hl 0 rfl) ?_
      refine zgX9_6 hx hb hf hown P0 Z L63 dX9_count_61 ?_
      obtain ⟨r3, S4, ec, h⟩ := zbd_s h
      refine zc_Vi hY P0 ⟨hx, hb, hml, hown, hT⟩ (As := []) (rest := []) (kX1_countKept l hO  S r3 S4 ec) (cwV 0 hT (zgV mL_X9_141 mI_X1_countKept mS_X1_countKept mN_X1 mC_X1_countKept) rfl rfl rfl hdnX1_countKept ⟨Nat.le_of_ble_eq_true rfl, Nat.le_of_ble_eq_true rfl⟩) (zrecX_9 P0 Z) Z rfl hl.1 rfl (Nat.le_of_ble_eq_true rfl) dX9_count_64 (fun H locs Z => ?_)
      exact zr_i hY P0 hx hb hr hlocks h Z dX9_count_67
    have h := zi_f q1 h
    by_cases q2 : a1 = (nI 2)
    · have h := zi_t q2 h
      refine ztbl (off := 57) (tgt := 68) hx hb q2 dX9_count_11 (by decide) (by decide) (by decide) (by decide) ?_
      refine lv_aload_n hx hb dX9_count_68 rfl (lv_at hl 0 rfl) ?_
      refine zgX9_4 hx hb hf hown P0 Z L47 dX9_count_69 ?_
      obtain ⟨r5, S6, ec, h⟩ := zbd_s h
      refine zc_Vi hY P0 ⟨hx, hb, hml, hown, hT⟩ (As := []) (rest := []) (kX6_height l hO  S r5 S6 ec) (cwV 0 hT (zgV mL_X9_144 mI_X6_height mS_X6_height mN_X6 mC_X6_height) rfl rfl rfl hdnX6_height ⟨Nat.le_of_ble_eq_true rfl, Nat.le_of_ble_eq_true rfl⟩) (zrecX_6 P0 Z) Z rfl hl.1 rfl (Nat.le_of_ble_eq_true rfl) dX9_count_72 (fun H locs Z => ?_)
      exact zr_i hY P0 hx hb hr hlocks h Z dX9_count_75
    have h := zi_f q2 h
    by_cases q3 : a1 = (nI 3)
    · have h := zi_t q3 h
      refine ztbl (off := 65) (tgt := 76) hx hb q3 dX9_count_11 (by decide) (by decide) (by decide) (by decide) ?_
      refine lv_aload_n hx hb dX9_count_76 rfl (lv_at hl 0 rfl) ?_
      refine zgX9_4 hx hb hf hown P0 Z L47 dX9_count_77 ?_
      obtain ⟨r7, S8, ec, h⟩ := zbd_s h
      refine zc_Vi hY P0 ⟨hx, hb, hml, hown, hT⟩ (As := []) (rest := []) (kX6_dumped l hO  S r7 S8 ec) (cwV 0 hT (zgV mL_X9_147 mI_X6_dumped mS_X6_dumped mN_X6 mC_X6_dumped) rfl rfl rfl hdnX6_dumped ⟨Nat.le_of_ble_eq_true rfl, Nat.le_of_ble_eq_true rfl⟩) (zrecX_6 P0 Z) Z rfl hl.1 rfl (Nat.le_of_ble_eq_true rfl) dX9_count_80 (fun H locs Z => ?_)
      exact zr_i hY P0 hx hb hr hlocks h Z dX9_count_83
    have h := zi_f q3 h
    by_cases q4 : a1 = (nI 4)
    · have h := zi_t q4 h
      refine ztbl (off := 73) (tgt := 84) hx hb q4 dX9_count_11 (by decide) (by decide) (by decide) (by decide) ?_
      refine lv_aload_n hx hb dX9_count_84 rfl (lv_at hl 0 rfl) ?_
      refine zgX9_5 hx hb hf hown P0 Z L56 dX9_count_85 ?_
      obtain ⟨r9, S10, ec, h⟩ := zbd_s h
      refine zc_Vi hY P0 ⟨hx, hb, hml, hown, hT⟩ (As := []) (rest := []) (kX2_stepsDone l hO  S r9 S10 ec) (cwV 0 hT (zgV mL_X9_132 mI_X2_stepsDone mS_X2_stepsDone mN_X2 mC_X2_stepsDone) rfl rfl rfl hdnX2_stepsDone ⟨Nat.le_of_ble_eq_true rfl, Nat.le_of_ble_eq_true rfl⟩) (zrecX_7 P0 Z) Z rfl hl.1 rfl (Nat.le_of_ble_eq_true rfl) dX9_count_88 (fun H locs Z => ?_)
      exact zr_i hY P0 hx hb hr hlocks h Z dX9_count_91
    have h := zi_f q4 h
    by_cases q5 : a1 = (nI 5)
    · have h := zi_t q5 h
      refine ztbl (off := 81) (tgt := 92) hx hb q5 dX9_count_11 (by decide) (by decide) (by decide) (by decide) ?_
      refine lv_aload_n hx hb dX9_count_92 rfl (lv_at hl 0 rfl) ?_
      refine zgX9_3 hx hb hf hown P0 Z L40 dX9_count_93 ?_
      obtain ⟨r11, S12, ec, h⟩ := zbd_s h
      refine zc_Vi hY P0 ⟨hx, hb, hml, hown, hT⟩ (As := []) (rest := []) (kX0_made l hO  S r11 S12 ec) (cwV 0 hT (zgV mL_X9_150 mI_X0_made mS_X0_made mN_X0 mC_X0_made) rfl rfl rfl hdnX0_made ⟨Nat.le_of_ble_eq_true rfl, Nat.le_of_ble_eq_true rfl⟩) (zrecX_5 P0 Z) Z rfl hl.1 rfl (Nat.le_of_ble_eq_true rfl) dX9_count_96 (fun H locs Z => ?_)
      exact zr_i hY P0 hx hb hr hlocks h Z dX9_count_99
    have h := zi_f q5 h
    by_cases q6 : a1 = (nI 6)
    · have h := zi_t q6 h
      refine ztbl (off := 89) (tgt := 100) hx hb q6 dX9_count_11 (by decide) (by decide) (by decide) (by decide) ?_
      refine lv_aload_n hx hb dX9_count_100 rfl (lv_at hl 0 rfl) ?_
      refine zgX9_3 hx hb hf hown P0 Z L40 dX9_count_101 ?_
      obtain ⟨r13, S14, ec, h⟩ := zbd_s h
      refine zc_Vi hY P0 ⟨hx, hb, hml, hown, hT⟩ (As := []) (rest := []) (kX0_most l hO  S r13 S14 ec) (cwV 0 hT (zgV mL_X9_153 mI_X0_most mS_X0_most mN_X0 mC_X0_most) rfl rfl rfl hdnX0_most ⟨Nat.le_of_ble_eq_true rfl, Nat.le_of_ble_eq_true rfl⟩) (zrecX_5 P0 Z) Z rfl hl.1 rfl (Nat.le_of_ble_eq_true rfl) dX9_count_104 (fun H locs Z => ?_)
      exact zr_i hY P0 hx hb hr hlocks h Z dX9_count_107
    have h := zi_f q6 h
    have u0 : ¬ a1.toInt = 0 := lv_neT q0 (by decide)
    have u1 : ¬ a1.toInt = 1 := lv_neT q1 (by decide)
    have u2 : ¬ a1.toInt = 2 := lv_neT q2 (by decide)
    have u3 : ¬ a1.toInt = 3 := lv_neT q3 (by decide)
    have u4 : ¬ a1.toInt = 4 := lv_neT q4 (by decide)
    have u5 : ¬ a1.toInt = 5 := lv_neT q5 (by decide)
    have u6 : ¬ a1.toInt = 6 := lv_neT q6 (by decide)
    refine lv_tableOut (tgt := 108) hx hb dX9_count_11 (by omega) (by decide) ?_
    refine lv_iconst (v := (-1 : Int32)) hx hb dX9_count_108 (by decide) ?_
    exact zr_i hY P0 hx hb hr hlocks h Z dX9_count_109
  · have h := zi_t q h
    refine lv_bipush (v := (-3 : Int32)) hx hb dX9_count_7 (by decide) ?_
    exact zr_i hY P0 hx hb hr hlocks h Z dX9_count_9

set_option maxHeartbeats 4000000 in
set_option maxRecDepth 100000 in
theorem kX0_makerOf {g : zG} (l : Launch) (hO : zinjX g) (a1 : Int32) (S : zSt) (r : Int32) (S' : zSt) (h : fX0_makerOf a1 S = some (r, S')) : zMi (zYX g) l yX0_makerOf vX0_makerOf { frames := 0, cells := 0, slots := 0, locals := 0 } ([.ref (zad g 5), .int a1] : List Value) S r S' := by
  have hY := zOkX hO
  refine Met.ofW (cc := cX0_makerOf) (maxL := 2) (ret := (some .int)) (by decide) rfl ?_
  intro p e s m args below meth c s₁ B hml hv
  obtain ⟨rfl, hP⟩ := hv
  have hx := B.exec
  have hb := B.bytes
  have hr := B.returns
  have hts := atoms_spec (ws := vX0_makerOf) B.pre
  have hT : ∀ w ∈ zTB, w.before ([.ref (zad g 5), .int a1] : List Value).toArray s = true := fun w h => hts w (List.mem_cons_of_mem _ h)
  have hown : s.vm.findClass RX0 = some m.cls := findClass_of_methodNamed B.named
  have hlocks := B.notSynchronized
  have P0 := hP.2
  have Z : zZ (zYX g) S s s.heap [] := ⟨hP.1, va_S.rf⟩
  have hf : ∀ w ∈ u_ws RX0 TX0 9, w.before ([.ref (zad g 5), .int a1] : List Value).toArray s = true := fun w hw => hT w (mU_X0 w hw)
  have L21 := hT _ mF_X0_21
  have hl := lv_entry ([.ref (zad g 5), .int a1] : List Value) (n := 2) (Nat.le_of_ble_eq_true rfl)
  rw [lg_entry_eq]
  generalize (lg_sl ([.ref (zad g 5), .int a1] : List Value) ++ List.replicate (2 - (lg_sl ([.ref (zad g 5), .int a1] : List Value)).length) Slot.unset).toArray = ls at hl ⊢
  have hl : lv_has ls 2 [(0, .ref (zad g 5)), (1, .int a1)] := hl
  unfold fX0_makerOf at h
  refine lv_iload_n hx hb dX0_makerOf_0 rfl (lv_at hl 1 rfl) ?_
  refine lv_if_lt (tgt := 20) hx hb dX0_makerOf_1 (by decide) (fun q => ?_) (fun q => ?_)
  · have h := zi_t q h
    refine lv_bipush (v := (-3 : Int32)) hx hb dX0_makerOf_20 (by decide) ?_
    exact zr_i hY P0 hx hb hr hlocks h Z dX0_makerOf_22
  · have h := zi_f q h
    refine lv_iload_n hx hb dX0_makerOf_4 rfl (lv_at hl 1 rfl) ?_
    refine lv_sipush (v := (nI 400)) hx hb dX0_makerOf_5 (by decide) ?_
    refine lv_icmp_ge (tgt := 20) hx hb dX0_makerOf_8 (by decide) (fun q => ?_) (fun q => ?_)
    · have h := zi_t q h
      refine lv_bipush (v := (-3 : Int32)) hx hb dX0_makerOf_20 (by decide) ?_
      exact zr_i hY P0 hx hb hr hlocks h Z dX0_makerOf_22
    · have h := zi_f q h
      refine lv_aload_n hx hb dX0_makerOf_11 rfl (lv_at hl 0 rfl) ?_
      refine zgX0_3 hx hb hf hown P0 Z L21 dX0_makerOf_12 ?_
      refine lv_iload_n hx hb dX0_makerOf_15 rfl (lv_at hl 1 rfl) ?_
      obtain ⟨v1, ev, hin, h⟩ := zld_s h
      refine zlX_28 hx hb P0 Z ev hin dX0_makerOf_16 ?_
      refine lv_goto (tgt := 22) hx hb dX0_makerOf_17 (by decide) ?_
      exact zr_i hY P0 hx hb hr hlocks h Z dX0_makerOf_22

set_option maxHeartbeats 4000000 in
set_option maxRecDepth 100000 in
theorem kX1_keeps {g : zG} (l : Launch) (hO : zinjX g) (a1 : Int32) (S : zSt) (r : Int32) (S' : zSt) (h : fX1_keeps a1 S = some (r, S')) : zMi (zYX g) l yX1_keeps vX1_keeps { frames := 3, cells := 0, slots := 0, locals := 68 } ([.ref (zad g 9), .int a1] : List Value) S r S' := by
  have hY := zOkX hO
  refine Met.ofW (cc := cX1_keeps) (maxL := 2) (ret := (some .boolean)) (by decide) rfl ?_
  intro p e s m args below meth c s₁ B hml hv
  obtain ⟨rfl, hP⟩ := hv
  have hx := B.exec
  have hb := B.bytes
  have hr := B.returns
  have hts := atoms_spec (ws := vX1_keeps) B.pre
  have hT : ∀ w ∈ zTB, w.before ([.ref (zad g 9), .int a1] : List Value).toArray s = true := fun w h => hts w (List.mem_cons_of_mem _ h)
  have hown : s.vm.findClass RX1 = some m.cls := findClass_of_methodNamed B.named
  have hlocks := B.notSynchronized
  have P0 := hP.2
  have Z : zZ (zYX g) S s s.heap [] := ⟨hP.1, va_S.rf⟩
  have hl := lv_entry ([.ref (zad g 9), .int a1] : List Value) (n := 2) (Nat.le_of_ble_eq_true rfl)
  rw [lg_entry_eq]
  generalize (lg_sl ([.ref (zad g 9), .int a1] : List Value) ++ List.replicate (2 - (lg_sl ([.ref (zad g 9), .int a1] : List Value)).length) Slot.unset).toArray = ls at hl ⊢
  have hl : lv_has ls 2 [(0, .ref (zad g 9)), (1, .int a1)] := hl
  unfold fX1_keeps at h
  refine lv_aload_n hx hb dX1_keeps_0 rfl (lv_at hl 0 rfl) ?_
  obtain ⟨r1, S2, ec, h⟩ := zbd_s h
  refine zc_Vv hY P0 ⟨hx, hb, hml, hown, hT⟩ (As := []) (rest := []) (kX1_findKept l hO  S r1 S2 ec) (cwV 0 hT (zgV mL_X1_37 mI_X1_findKept mS_X1_findKept mN_X1 mC_X1_findKept) rfl rfl rfl hdnX1_findKept ⟨Nat.le_of_ble_eq_true rfl, Nat.le_of_ble_eq_true rfl⟩) (zrecX_9 P0 Z) Z rfl hl.1 rfl (Nat.le_of_ble_eq_true rfl) dX1_keeps_1 (fun H locs Z => ?_)
  refine lv_aload_n hx hb dX1_keeps_4 rfl (lv_at hl 0 rfl) ?_
  refine lv_iload_n hx hb dX1_keeps_5 rfl (lv_at hl 1 rfl) ?_
  obtain ⟨r3, S4, ec, h⟩ := zbd_s h
  refine zc_Vi hY P0 ⟨hx, hb, hml, hown, hT⟩ (As := [.int a1]) (rest := []) (kX1_lengthOf l hO a1 S2 r3 S4 ec) (cwV 1 hT (zgV mL_X1_40 mI_X1_lengthOf mS_X1_lengthOf mN_X1 mC_X1_lengthOf) rfl rfl rfl hdnX1_lengthOf ⟨Nat.le_of_ble_eq_true rfl, Nat.le_of_ble_eq_true rfl⟩) (zrecX_9 P0 Z) Z rfl hl.1 rfl (Nat.le_of_ble_eq_true rfl) dX1_keeps_6 (fun H locs Z => ?_)
  refine lv_if_le (tgt := 16) hx hb dX1_keeps_9 (by decide) (fun q => ?_) (fun q => ?_)
  · have h := zi_t q h
    refine lv_iconst (v := (nI 0)) hx hb dX1_keeps_16 (by decide) ?_
    exact zr_z hY P0 hx hb hr hlocks (by decide) h Z dX1_keeps_17
  · have h := zi_f q h
    refine lv_iconst (v := (nI 1)) hx hb dX1_keeps_12 (by decide) ?_
    refine lv_goto (tgt := 17) hx hb dX1_keeps_13 (by decide) ?_
    exact zr_z hY P0 hx hb hr hlocks (by decide) h Z dX1_keeps_17

set_option maxHeartbeats 4000000 in
set_option maxRecDepth 100000 in
theorem kX1_placesThatHave {g : zG} (l : Launch) (hO : zinjX g) (a1 : Int32) (S : zSt) (r : Int32) (S' : zSt) (h : fX1_placesThatHave a1 S = some (r, S')) : zMi (zYX g) l yX1_placesThatHave vX1_placesThatHave { frames := 3, cells := 0, slots := 0, locals := 68 } ([.ref (zad g 9), .int a1] : List Value) S r S' := by
  have hY := zOkX hO
  refine Met.ofW (cc := cX1_placesThatHave) (maxL := 5) (ret := (some .int)) (by decide) rfl ?_
  intro p e s m args below meth c s₁ B hml hv
  obtain ⟨rfl, hP⟩ := hv
  have hx := B.exec
  have hb := B.bytes
  have hr := B.returns
  have hts := atoms_spec (ws := vX1_placesThatHave) B.pre
  have hT : ∀ w ∈ zTB, w.before ([.ref (zad g 9), .int a1] : List Value).toArray s = true := fun w h => hts w (List.mem_cons_of_mem _ h)
  have hown : s.vm.findClass RX1 = some m.cls := findClass_of_methodNamed B.named
  have hlocks := B.notSynchronized
  have P0 := hP.2
  have Z : zZ (zYX g) S s s.heap [] := ⟨hP.1, va_S.rf⟩
  have hf : ∀ w ∈ u_ws RX1 TX1 7, w.before ([.ref (zad g 9), .int a1] : List Value).toArray s = true := fun w hw => hT w (mU_X1 w hw)
  have L15 := hT _ mF_X1_15
  have L9 := hT _ mF_X1_9
  have L29 := hT _ mF_X1_29
  have L33 := hT _ mF_X1_33
  have B71 : ∀ (k8 : Int32 × Int32 × Int32 × zSt → Option (Int32 × zSt)) (K8 : (∀ (x1 : Int32) (x2 : Int32) (x3 : Int32) (S : zSt), k8 (x1, x2, x3, S) = some (r, S') → ∀ (H : Heap) (locs : List Loc), zZ (zYX g) S s H locs → ∀ ls : Array Slot, lv_has ls 5 [(0, .ref (zad g 9)), (1, .int x1), (2, .int x2), (3, .int x3)] → W p l e (headSpec vX1_placesThatHave { frames := 3, cells := 0, slots := 0, locals := 68 }).room s m ([.ref (zad g 9), .int a1] : List Value).toArray below meth c H locs 0 0 (MQ below (zQi (zYX g) r S') ([.ref (zad g 9), .int a1] : List Value).toArray s 0 0 (zYX g).2.2.1) (F0 m 8 ls []))) (x1 : Int32) (x2 : Int32) (x3 : Int32) (x4 : Int32) (S : zSt), fX1_placesThatHave_71 k8 x1 x2 x3 x4 S = some (r, S') → ∀ (H : Heap) (locs : List Loc), zZ (zYX g) S s H locs → ∀ ls : Array Slot, lv_has ls 5 [(0, .ref (zad g 9)), (1, .int x1), (2, .int x2), (3, .int x3), (4, .int x4)] → W p l e (headSpec vX1_placesThatHave { frames := 3, cells := 0, slots := 0, locals := 68 }).room s m ([.ref (zad g 9), .int a1] : List Value).toArray below meth c H locs 0 0 (MQ below (zQi (zYX g) r S') ([.ref (zad g 9), .int a1] : List Value).toArray s 0 0 (zYX g).2.2.1) (F0 m 71 ls []) := by
    intro k8 K8 x1 x2 x3 x4 S h H locs Z ls hl
    unfold fX1_placesThatHave_71 at h
    refine lv_aload_n hx hb dX1_placesThatHave_71 rfl (lv_at hl 0 rfl) ?_
    refine zgX1_1 hx hb hf hown P0 Z L29 dX1_placesThatHave_72 ?_
    refine lv_iload hx hb dX1_placesThatHave_75 (lv_at hl 4 rfl) ?_
    obtain ⟨r8, S9, ec, h⟩ := zbd_s h
    refine zc_Vi hY P0 ⟨hx, hb, hml, hown, hT⟩ (As := [.int x4]) (rest := []) (kX0_hasTwo l hO x4 S r8 S9 ec) (cwV 1 hT (zgV mL_X1_54 mI_X0_hasTwo mS_X0_hasTwo mN_X0 mC_X0_hasTwo) rfl rfl rfl hdnX0_hasTwo ⟨Nat.le_of_ble_eq_true rfl, Nat.le_of_ble_eq_true rfl⟩) (zrecX_5 P0 Z) Z rfl hl.1 rfl (Nat.le_of_ble_eq_true rfl) dX1_placesThatHave_77 (fun H locs Z => ?_)
    refine lv_if_eq (tgt := 99) hx hb dX1_placesThatHave_80 (by decide) (fun q => ?_) (fun q => ?_)
    · have h := zi_t q h
      refine lv_iinc (v := (x3 + (nI 1))) (lv' := [(3, .int (x3 + (nI 1))), (0, .ref (zad g 9)), (1, .int x1), (2, .int x2), (4, .int x4)]) hx hb dX1_placesThatHave_99 hl (k := 3) rfl rfl (by decide) rfl (fun ls hl => ?_)
      refine lv_goto (tgt := 8) hx hb dX1_placesThatHave_102 (by decide) ?_
      exact K8 x1 x2 (x3 + (nI 1)) S9 h _ _ Z ls (lv_sub hl [1, 2, 3, 0] rfl)
    · have h := zi_f q h
      refine lv_aload_n hx hb dX1_placesThatHave_83 rfl (lv_at hl 0 rfl) ?_
      refine zgX1_1 hx hb hf hown P0 Z L29 dX1_placesThatHave_84 ?_
      refine lv_iload hx hb dX1_placesThatHave_87 (lv_at hl 4 rfl) ?_
      obtain ⟨r10, S11, ec, h⟩ := zbd_s h
      refine zc_Vi hY P0 ⟨hx, hb, hml, hown, hT⟩ (As := [.int x4]) (rest := []) (kX0_secondOf l hO x4 S9 r10 S11 ec) (cwV 1 hT (zgV mL_X1_63 mI_X0_secondOf mS_X0_secondOf mN_X0 mC_X0_secondOf) rfl rfl rfl hdnX0_secondOf ⟨Nat.le_of_ble_eq_true rfl, Nat.le_of_ble_eq_true rfl⟩) (zrecX_5 P0 Z) Z rfl hl.1 rfl (Nat.le_of_ble_eq_true rfl) dX1_placesThatHave_89 (fun H locs Z => ?_)
      refine lv_iload_n hx hb dX1_placesThatHave_92 rfl (lv_at hl 1 rfl) ?_
      refine lv_icmp_ne (tgt := 99) hx hb dX1_placesThatHave_93 (by decide) (fun q => ?_) (fun q => ?_)
      · have h := zi_f q h
        refine lv_iinc (v := (x3 + (nI 1))) (lv' := [(3, .int (x3 + (nI 1))), (0, .ref (zad g 9)), (1, .int x1), (2, .int x2), (4, .int x4)]) hx hb dX1_placesThatHave_99 hl (k := 3) rfl rfl (by decide) rfl (fun ls hl => ?_)
        refine lv_goto (tgt := 8) hx hb dX1_placesThatHave_102 (by decide) ?_
        exact K8 x1 x2 (x3 + (nI 1)) S11 h _ _ Z ls (lv_sub hl [1, 2, 3, 0] rfl)
      · have h := zi_t q h
        refine lv_iinc (v := (x2 + (nI 1))) (lv' := [(2, .int (x2 + (nI 1))), (0, .ref (zad g 9)), (1, .int x1), (3, .int x3), (4, .int x4)]) hx hb dX1_placesThatHave_96 hl (k := 2) rfl rfl (by decide) rfl (fun ls hl => ?_)
        refine lv_iinc (v := (x3 + (nI 1))) (lv' := [(3, .int (x3 + (nI 1))), (2, .int (x2 + (nI 1))), (0, .ref (zad g 9)), (1, .int x1), (4, .int x4)]) hx hb dX1_placesThatHave_99 hl (k := 3) rfl rfl (by decide) rfl (fun ls hl => ?_)
        refine lv_goto (tgt := 8) hx hb dX1_placesThatHave_102 (by decide) ?_
        exact K8 x1 (x2 + (nI 1)) (x3 + (nI 1)) S11 h _ _ Z ls (lv_sub hl [2, 3, 1, 0] rfl)
  have B55 : ∀ (k8 : Int32 × Int32 × Int32 × zSt → Option (Int32 × zSt)) (K8 : (∀ (x1 : Int32) (x2 : Int32) (x3 : Int32) (S : zSt), k8 (x1, x2, x3, S) = some (r, S') → ∀ (H : Heap) (locs : List Loc), zZ (zYX g) S s H locs → ∀ ls : Array Slot, lv_has ls 5 [(0, .ref (zad g 9)), (1, .int x1), (2, .int x2), (3, .int x3)] → W p l e (headSpec vX1_placesThatHave { frames := 3, cells := 0, slots := 0, locals := 68 }).room s m ([.ref (zad g 9), .int a1] : List Value).toArray below meth c H locs 0 0 (MQ below (zQi (zYX g) r S') ([.ref (zad g 9), .int a1] : List Value).toArray s 0 0 (zYX g).2.2.1) (F0 m 8 ls []))) (x1 : Int32) (x2 : Int32) (x3 : Int32) (x4 : Int32) (S : zSt), fX1_placesThatHave_55 k8 x1 x2 x3 x4 S = some (r, S') → ∀ (H : Heap) (locs : List Loc), zZ (zYX g) S s H locs → ∀ ls : Array Slot, lv_has ls 5 [(0, .ref (zad g 9)), (1, .int x1), (2, .int x2), (3, .int x3), (4, .int x4)] → W p l e (headSpec vX1_placesThatHave { frames := 3, cells := 0, slots := 0, locals := 68 }).room s m ([.ref (zad g 9), .int a1] : List Value).toArray below meth c H locs 0 0 (MQ below (zQi (zYX g) r S') ([.ref (zad g 9), .int a1] : List Value).toArray s 0 0 (zYX g).2.2.1) (F0 m 55 ls []) := by
    intro k8 K8 x1 x2 x3 x4 S h H locs Z ls hl
    unfold fX1_placesThatHave_55 at h
    refine lv_aload_n hx hb dX1_placesThatHave_55 rfl (lv_at hl 0 rfl) ?_
    refine zgX1_1 hx hb hf hown P0 Z L29 dX1_placesThatHave_56 ?_
    refine lv_iload hx hb dX1_placesThatHave_59 (lv_at hl 4 rfl) ?_
    obtain ⟨r12, S13, ec, h⟩ := zbd_s h
    refine zc_Vi hY P0 ⟨hx, hb, hml, hown, hT⟩ (As := [.int x4]) (rest := []) (kX0_firstOf l hO x4 S r12 S13 ec) (cwV 1 hT (zgV mL_X1_60 mI_X0_firstOf mS_X0_firstOf mN_X0 mC_X0_firstOf) rfl rfl rfl hdnX0_firstOf ⟨Nat.le_of_ble_eq_true rfl, Nat.le_of_ble_eq_true rfl⟩) (zrecX_5 P0 Z) Z rfl hl.1 rfl (Nat.le_of_ble_eq_true rfl) dX1_placesThatHave_61 (fun H locs Z => ?_)
    refine lv_iload_n hx hb dX1_placesThatHave_64 rfl (lv_at hl 1 rfl) ?_
    refine lv_icmp_ne (tgt := 71) hx hb dX1_placesThatHave_65 (by decide) (fun q => ?_) (fun q => ?_)
    · have h := zi_f q h
      exact B71 k8 K8 x1 x2 x3 x4 S13 h _ _ Z ls (lv_sub hl [0, 1, 2, 3, 4] rfl)
    · have h := zi_t q h
      refine lv_iinc (v := (x2 + (nI 1))) (lv' := [(2, .int (x2 + (nI 1))), (0, .ref (zad g 9)), (1, .int x1), (3, .int x3), (4, .int x4)]) hx hb dX1_placesThatHave_68 hl (k := 2) rfl rfl (by decide) rfl (fun ls hl => ?_)
      exact B71 k8 K8 x1 (x2 + (nI 1)) x3 x4 S13 h _ _ Z ls (lv_sub hl [1, 2, 0, 3, 4] rfl)
  have B107 : ∀ (n : Nat) (x1 : Int32) (x2 : Int32) (x3 : Int32) (S : zSt), fX1_placesThatHave_107L n (x1, x2, x3, S) = some (r, S') → ∀ (H : Heap) (locs : List Loc), zZ (zYX g) S s H locs → ∀ ls : Array Slot, lv_has ls 5 [(0, .ref (zad g 9)), (1, .int x1), (2, .int x2), (3, .int x3)] → W p l e (headSpec vX1_placesThatHave { frames := 3, cells := 0, slots := 0, locals := 68 }).room s m ([.ref (zad g 9), .int a1] : List Value).toArray below meth c H locs 0 0 (MQ below (zQi (zYX g) r S') ([.ref (zad g 9), .int a1] : List Value).toArray s 0 0 (zYX g).2.2.1) (F0 m 107 ls []) := by
    intro n
    induction n with
    | zero => intro x1 x2 x3 S h; exact absurd h (fun h => nomatch h)
    | succ n K107 =>
      intro x1 x2 x3 S h H locs Z ls hl
      have h : fX1_placesThatHave_107 (fX1_placesThatHave_107L n) x1 x2 x3 S = some (r, S') := h
      unfold fX1_placesThatHave_107 at h
      refine lv_iload_n hx hb dX1_placesThatHave_107 rfl (lv_at hl 3 rfl) ?_
      refine lv_aload_n hx hb dX1_placesThatHave_108 rfl (lv_at hl 0 rfl) ?_
      refine zgX1_2 hx hb hf hown P0 Z L33 dX1_placesThatHave_109 ?_
      obtain ⟨r14, S15, ec, h⟩ := zbd_s h
      refine zc_Vi hY P0 ⟨hx, hb, hml, hown, hT⟩ (As := []) (rest := [.int x3]) (kX6_size l hO  S r14 S15 ec) (cwV 0 hT (zgV mL_X1_66 mI_X6_size mS_X6_size mN_X6 mC_X6_size) rfl rfl rfl hdnX6_size ⟨Nat.le_of_ble_eq_true rfl, Nat.le_of_ble_eq_true rfl⟩) (zrecX_6 P0 Z) Z rfl hl.1 rfl (Nat.le_of_ble_eq_true rfl) dX1_placesThatHave_112 (fun H locs Z => ?_)
      refine lv_icmp_ge (tgt := 139) hx hb dX1_placesThatHave_115 (by decide) (fun q => ?_) (fun q => ?_)
      · have h := zi_t q h
        refine lv_iload_n hx hb dX1_placesThatHave_139 rfl (lv_at hl 2 rfl) ?_
        exact zr_i hY P0 hx hb hr hlocks h Z dX1_placesThatHave_140
      · have h := zi_f q h
        refine lv_aload_n hx hb dX1_placesThatHave_118 rfl (lv_at hl 0 rfl) ?_
        refine zgX1_2 hx hb hf hown P0 Z L33 dX1_placesThatHave_119 ?_
        refine lv_iload_n hx hb dX1_placesThatHave_122 rfl (lv_at hl 3 rfl) ?_
        obtain ⟨r16, S17, ec, h⟩ := zbd_s h
        refine zc_Vi hY P0 ⟨hx, hb, hml, hown, hT⟩ (As := [.int x3]) (rest := []) (kX6_at l hO x3 S15 r16 S17 ec) (cwV 1 hT (zgV mL_X1_72 mI_X6_at mS_X6_at mN_X6 mC_X6_at) rfl rfl rfl hdnX6_at ⟨Nat.le_of_ble_eq_true rfl, Nat.le_of_ble_eq_true rfl⟩) (zrecX_6 P0 Z) Z rfl hl.1 rfl (Nat.le_of_ble_eq_true rfl) dX1_placesThatHave_123 (fun H locs Z => ?_)
        refine lv_iload_n hx hb dX1_placesThatHave_126 rfl (lv_at hl 1 rfl) ?_
        refine lv_icmp_ne (tgt := 133) hx hb dX1_placesThatHave_127 (by decide) (fun q => ?_) (fun q => ?_)
        · have h := zi_f q h
          refine lv_iinc (v := (x3 + (nI 1))) (lv' := [(3, .int (x3 + (nI 1))), (0, .ref (zad g 9)), (1, .int x1), (2, .int x2)]) hx hb dX1_placesThatHave_133 hl (k := 3) rfl rfl (by decide) rfl (fun ls hl => ?_)
          refine lv_goto (tgt := 107) hx hb dX1_placesThatHave_136 (by decide) ?_
          exact K107 x1 x2 (x3 + (nI 1)) S17 h _ _ Z ls (lv_sub hl [1, 2, 3, 0] rfl)
        · have h := zi_t q h
          refine lv_iinc (v := (x2 + (nI 1))) (lv' := [(2, .int (x2 + (nI 1))), (0, .ref (zad g 9)), (1, .int x1), (3, .int x3)]) hx hb dX1_placesThatHave_130 hl (k := 2) rfl rfl (by decide) rfl (fun ls hl => ?_)
          refine lv_iinc (v := (x3 + (nI 1))) (lv' := [(3, .int (x3 + (nI 1))), (2, .int (x2 + (nI 1))), (0, .ref (zad g 9)), (1, .int x1)]) hx hb dX1_placesThatHave_133 hl (k := 3) rfl rfl (by decide) rfl (fun ls hl => ?_)
          refine lv_goto (tgt := 107) hx hb dX1_placesThatHave_136 (by decide) ?_
          exact K107 x1 (x2 + (nI 1)) (x3 + (nI 1)) S17 h _ _ Z ls (lv_sub hl [2, 3, 1, 0] rfl)
  have B8 : ∀ (n : Nat) (x1 : Int32) (x2 : Int32) (x3 : Int32) (S : zSt), fX1_placesThatHave_8L n (x1, x2, x3, S) = some (r, S') → ∀ (H : Heap) (locs : List Loc), zZ (zYX g) S s H locs → ∀ ls : Array Slot, lv_has ls 5 [(0, .ref (zad g 9)), (1, .int x1), (2, .int x2), (3, .int x3)] → W p l e (headSpec vX1_placesThatHave { frames := 3, cells := 0, slots := 0, locals := 68 }).room s m ([.ref (zad g 9), .int a1] : List Value).toArray below meth c H locs 0 0 (MQ below (zQi (zYX g) r S') ([.ref (zad g 9), .int a1] : List Value).toArray s 0 0 (zYX g).2.2.1) (F0 m 8 ls []) := by
    intro n
    induction n with
    | zero => intro x1 x2 x3 S h; exact absurd h (fun h => nomatch h)
    | succ n K8 =>
      intro x1 x2 x3 S h H locs Z ls hl
      have h : fX1_placesThatHave_8 (fX1_placesThatHave_8L n) x1 x2 x3 S = some (r, S') := h
      unfold fX1_placesThatHave_8 at h
      refine lv_iload_n hx hb dX1_placesThatHave_8 rfl (lv_at hl 3 rfl) ?_
      refine lv_aload_n hx hb dX1_placesThatHave_9 rfl (lv_at hl 0 rfl) ?_
      refine zgX1_4 (v := (zI S 27)) hx hb hf hown P0 Z L15 rfl dX1_placesThatHave_10 ?_
      refine lv_icmp_ge (tgt := 105) hx hb dX1_placesThatHave_13 (by decide) (fun q => ?_) (fun q => ?_)
      · have h := zi_t q h
        refine lv_iconst (v := (nI 0)) hx hb dX1_placesThatHave_105 (by decide) ?_
        refine lv_istore_n (lv' := [(3, .int (nI 0)), (0, .ref (zad g 9)), (1, .int x1), (2, .int x2)]) hx hb dX1_placesThatHave_106 rfl hl (by decide) rfl (fun ls hl => ?_)
        exact B107 zFU x1 x2 (nI 0) S h _ _ Z ls (lv_sub hl [1, 2, 3, 0] rfl)
      · have h := zi_f q h
        refine lv_iload_n hx hb dX1_placesThatHave_16 rfl (lv_at hl 3 rfl) ?_
        refine lv_sipush (v := (nI 400)) hx hb dX1_placesThatHave_17 (by decide) ?_
        refine lv_icmp_ge (tgt := 105) hx hb dX1_placesThatHave_20 (by decide) (fun q => ?_) (fun q => ?_)
        · have h := zi_t q h
          refine lv_iconst (v := (nI 0)) hx hb dX1_placesThatHave_105 (by decide) ?_
          refine lv_istore_n (lv' := [(3, .int (nI 0)), (0, .ref (zad g 9)), (1, .int x1), (2, .int x2)]) hx hb dX1_placesThatHave_106 rfl hl (by decide) rfl (fun ls hl => ?_)
          exact B107 zFU x1 x2 (nI 0) S h _ _ Z ls (lv_sub hl [1, 2, 3, 0] rfl)
        · have h := zi_f q h
          refine lv_aload_n hx hb dX1_placesThatHave_23 rfl (lv_at hl 0 rfl) ?_
          refine zgX1_3 hx hb hf hown P0 Z L9 dX1_placesThatHave_24 ?_
          refine lv_iload_n hx hb dX1_placesThatHave_27 rfl (lv_at hl 3 rfl) ?_
          obtain ⟨v3, ev, hin, h⟩ := zld_s h
          refine zlX_36 hx hb P0 Z ev hin dX1_placesThatHave_28 ?_
          refine lv_istore (lv' := [(4, .int v3), (0, .ref (zad g 9)), (1, .int x1), (2, .int x2), (3, .int x3)]) hx hb dX1_placesThatHave_29 hl (by decide) rfl (fun ls hl => ?_)
          refine lv_aload_n hx hb dX1_placesThatHave_31 rfl (lv_at hl 1 rfl) ?_
          refine zgX1_1 hx hb hf hown P0 Z L29 dX1_placesThatHave_32 ?_
          refine lv_iload hx hb dX1_placesThatHave_35 (lv_at hl 0 rfl) ?_
          obtain ⟨r4, S5, ec, h⟩ := zbd_s h
          refine zc_Vi hY P0 ⟨hx, hb, hml, hown, hT⟩ (As := [.int v3]) (rest := []) (kX0_hasTwo l hO v3 S r4 S5 ec) (cwV 1 hT (zgV mL_X1_54 mI_X0_hasTwo mS_X0_hasTwo mN_X0 mC_X0_hasTwo) rfl rfl rfl hdnX0_hasTwo ⟨Nat.le_of_ble_eq_true rfl, Nat.le_of_ble_eq_true rfl⟩) (zrecX_5 P0 Z) Z rfl hl.1 rfl (Nat.le_of_ble_eq_true rfl) dX1_placesThatHave_37 (fun H locs Z => ?_)
          refine lv_if_ne (tgt := 55) hx hb dX1_placesThatHave_40 (by decide) (fun q => ?_) (fun q => ?_)
          · have h := zi_f q h
            exact B55 (fX1_placesThatHave_8L n) K8 x1 x2 x3 v3 S5 h _ _ Z ls (lv_sub hl [1, 2, 3, 4, 0] rfl)
          · have h := zi_t q h
            refine lv_aload_n hx hb dX1_placesThatHave_43 rfl (lv_at hl 1 rfl) ?_
            refine zgX1_1 hx hb hf hown P0 Z L29 dX1_placesThatHave_44 ?_
            refine lv_iload hx hb dX1_placesThatHave_47 (lv_at hl 0 rfl) ?_
            obtain ⟨r6, S7, ec, h⟩ := zbd_s h
            refine zc_Vi hY P0 ⟨hx, hb, hml, hown, hT⟩ (As := [.int v3]) (rest := []) (kX0_hasOne l hO v3 S5 r6 S7 ec) (cwV 1 hT (zgV mL_X1_57 mI_X0_hasOne mS_X0_hasOne mN_X0 mC_X0_hasOne) rfl rfl rfl hdnX0_hasOne ⟨Nat.le_of_ble_eq_true rfl, Nat.le_of_ble_eq_true rfl⟩) (zrecX_5 P0 Z) Z rfl hl.1 rfl (Nat.le_of_ble_eq_true rfl) dX1_placesThatHave_49 (fun H locs Z => ?_)
            refine lv_if_eq (tgt := 71) hx hb dX1_placesThatHave_52 (by decide) (fun q => ?_) (fun q => ?_)
            · have h := zi_t q h
              exact B71 (fX1_placesThatHave_8L n) K8 x1 x2 x3 v3 S7 h _ _ Z ls (lv_sub hl [1, 2, 3, 4, 0] rfl)
            · have h := zi_f q h
              exact B55 (fX1_placesThatHave_8L n) K8 x1 x2 x3 v3 S7 h _ _ Z ls (lv_sub hl [1, 2, 3, 4, 0] rfl)
  have hl := lv_entry ([.ref (zad g 9), .int a1] : List Value) (n := 5) (Nat.le_of_ble_eq_true rfl)
  rw [lg_entry_eq]
  generalize (lg_sl ([.ref (zad g 9), .int a1] : List Value) ++ List.replicate (5 - (lg_sl ([.ref (zad g 9), .int a1] : List Value)).length) Slot.unset).toArray = ls at hl ⊢
  have hl : lv_has ls 5 [(0, .ref (zad g 9)), (1, .int a1)] := hl
  unfold fX1_placesThatHave at h
  refine lv_aload_n hx hb dX1_placesThatHave_0 rfl (lv_at hl 0 rfl) ?_
  obtain ⟨r1, S2, ec, h⟩ := zbd_s h
  refine zc_Vv hY P0 ⟨hx, hb, hml, hown, hT⟩ (As := []) (rest := []) (kX1_findKept l hO  S r1 S2 ec) (cwV 0 hT (zgV mL_X1_37 mI_X1_findKept mS_X1_findKept mN_X1 mC_X1_findKept) rfl rfl rfl hdnX1_findKept ⟨Nat.le_of_ble_eq_true rfl, Nat.le_of_ble_eq_true rfl⟩) (zrecX_9 P0 Z) Z rfl hl.1 rfl (Nat.le_of_ble_eq_true rfl) dX1_placesThatHave_1 (fun H locs Z => ?_)
  refine lv_iconst (v := (nI 0)) hx hb dX1_placesThatHave_4 (by decide) ?_
  refine lv_istore_n (lv' := [(2, .int (nI 0)), (0, .ref (zad g 9)), (1, .int a1)]) hx hb dX1_placesThatHave_5 rfl hl (by decide) rfl (fun ls hl => ?_)
  refine lv_iconst (v := (nI 0)) hx hb dX1_placesThatHave_6 (by decide) ?_
  refine lv_istore_n (lv' := [(3, .int (nI 0)), (2, .int (nI 0)), (0, .ref (zad g 9)), (1, .int a1)]) hx hb dX1_placesThatHave_7 rfl hl (by decide) rfl (fun ls hl => ?_)
  exact B8 zFU a1 (nI 0) (nI 0) S2 h _ _ Z ls (lv_sub hl [2, 3, 1, 0] rfl)

set_option maxHeartbeats 4000000 in
set_option maxRecDepth 100000 in
theorem kX9_node {g : zG} (l : Launch) (hO : zinjX g) (a1 : Int32) (a2 : Int32) (S : zSt) (r : Int32) (S' : zSt) (h : fX9_node a1 a2 S = some (r, S')) : zMi (zYX g) l yX9_node vX9_node { frames := 4, cells := 0, slots := 0, locals := 92 } ([.ref (zad g 0), .int a1, .int a2] : List Value) S r S' := by
  have hY := zOkX hO
  refine Met.ofW (cc := cX9_node) (maxL := 3) (ret := (some .int)) (by decide) rfl ?_
  intro p e s m args below meth c s₁ B hml hv
  obtain ⟨rfl, hP⟩ := hv
  have hx := B.exec
  have hb := B.bytes
  have hr := B.returns
  have hts := atoms_spec (ws := vX9_node) B.pre
  have hT : ∀ w ∈ zTB, w.before ([.ref (zad g 0), .int a1, .int a2] : List Value).toArray s = true := fun w h => hts w (List.mem_cons_of_mem _ h)
  have hown : s.vm.findClass RX9 = some m.cls := findClass_of_methodNamed B.named
  have hlocks := B.notSynchronized
  have P0 := hP.2
  have Z : zZ (zYX g) S s s.heap [] := ⟨hP.1, va_S.rf⟩
  have hf : ∀ w ∈ u_ws RX9 TX9 13, w.before ([.ref (zad g 0), .int a1, .int a2] : List Value).toArray s = true := fun w hw => hT w (mU_X9 w hw)
  have L71 := hT _ mF_X9_71
  have L40 := hT _ mF_X9_40
  have L63 := hT _ mF_X9_63
  have hl := lv_entry ([.ref (zad g 0), .int a1, .int a2] : List Value) (n := 3) (Nat.le_of_ble_eq_true rfl)
  rw [lg_entry_eq]
  generalize (lg_sl ([.ref (zad g 0), .int a1, .int a2] : List Value) ++ List.replicate (3 - (lg_sl ([.ref (zad g 0), .int a1, .int a2] : List Value)).length) Slot.unset).toArray = ls at hl ⊢
  have hl : lv_has ls 3 [(0, .ref (zad g 0)), (1, .int a1), (2, .int a2)] := hl
  unfold fX9_node at h
  refine lv_aload_n hx hb dX9_node_0 rfl (lv_at hl 0 rfl) ?_
  refine zgX9_8 (v := (zI S 0)) hx hb hf hown P0 Z L71 rfl dX9_node_1 ?_
  refine lv_if_ne (tgt := 10) hx hb dX9_node_4 (by decide) (fun q => ?_) (fun q => ?_)
  · have h := zi_f q h
    refine lv_aload_n hx hb dX9_node_10 rfl (lv_at hl 0 rfl) ?_
    refine zgX9_3 hx hb hf hown P0 Z L40 dX9_node_11 ?_
    refine lv_iload_n hx hb dX9_node_14 rfl (lv_at hl 1 rfl) ?_
    obtain ⟨r1, S2, ec, h⟩ := zbd_s h
    refine zc_Vi hY P0 ⟨hx, hb, hml, hown, hT⟩ (As := [.int a1]) (rest := []) (kX0_isFree l hO a1 S r1 S2 ec) (cwV 1 hT (zgV mL_X9_156 mI_X0_isFree mS_X0_isFree mN_X0 mC_X0_isFree) rfl rfl rfl hdnX0_isFree ⟨Nat.le_of_ble_eq_true rfl, Nat.le_of_ble_eq_true rfl⟩) (zrecX_5 P0 Z) Z rfl hl.1 rfl (Nat.le_of_ble_eq_true rfl) dX9_node_15 (fun H locs Z => ?_)
    refine lv_if_eq (tgt := 23) hx hb dX9_node_18 (by decide) (fun q => ?_) (fun q => ?_)
    · have h := zi_t q h
      refine lv_iload_n hx hb dX9_node_23 rfl (lv_at hl 2 rfl) ?_
      by_cases q0 : a2 = (nI 0)
      · have h := zi_t q0 h
        refine ztbl (off := 40) (tgt := 64) hx hb q0 dX9_node_24 (by decide) (by decide) (by decide) (by decide) ?_
        refine lv_aload_n hx hb dX9_node_64 rfl (lv_at hl 0 rfl) ?_
        refine zgX9_3 hx hb hf hown P0 Z L40 dX9_node_65 ?_
        refine lv_iload_n hx hb dX9_node_68 rfl (lv_at hl 1 rfl) ?_
        obtain ⟨r3, S4, ec, h⟩ := zbd_s h
        refine zc_Vi hY P0 ⟨hx, hb, hml, hown, hT⟩ (As := [.int a1]) (rest := []) (kX0_kindOf l hO a1 S2 r3 S4 ec) (cwV 1 hT (zgV mL_X9_159 mI_X0_kindOf mS_X0_kindOf mN_X0 mC_X0_kindOf) rfl rfl rfl hdnX0_kindOf ⟨Nat.le_of_ble_eq_true rfl, Nat.le_of_ble_eq_true rfl⟩) (zrecX_5 P0 Z) Z rfl hl.1 rfl (Nat.le_of_ble_eq_true rfl) dX9_node_69 (fun H locs Z => ?_)
        exact zr_i hY P0 hx hb hr hlocks h Z dX9_node_72
      have h := zi_f q0 h
      by_cases q1 : a2 = (nI 1)
      · have h := zi_t q1 h
        refine ztbl (off := 49) (tgt := 73) hx hb q1 dX9_node_24 (by decide) (by decide) (by decide) (by decide) ?_
        refine lv_aload_n hx hb dX9_node_73 rfl (lv_at hl 0 rfl) ?_
        refine zgX9_3 hx hb hf hown P0 Z L40 dX9_node_74 ?_
        refine lv_iload_n hx hb dX9_node_77 rfl (lv_at hl 1 rfl) ?_
        obtain ⟨r5, S6, ec, h⟩ := zbd_s h
        refine zc_Vi hY P0 ⟨hx, hb, hml, hown, hT⟩ (As := [.int a1]) (rest := []) (kX0_firstOf l hO a1 S2 r5 S6 ec) (cwV 1 hT (zgV mL_X9_162 mI_X0_firstOf mS_X0_firstOf mN_X0 mC_X0_firstOf) rfl rfl rfl hdnX0_firstOf ⟨Nat.le_of_ble_eq_true rfl, Nat.le_of_ble_eq_true rfl⟩) (zrecX_5 P0 Z) Z rfl hl.1 rfl (Nat.le_of_ble_eq_true rfl) dX9_node_78 (fun H locs Z => ?_)
        exact zr_i hY P0 hx hb hr hlocks h Z dX9_node_81
      have h := zi_f q1 h
      by_cases q2 : a2 = (nI 2)
      · have h := zi_t q2 h
        refine ztbl (off := 58) (tgt := 82) hx hb q2 dX9_node_24 (by decide) (by decide) (by decide) (by decide) ?_
        refine lv_aload_n hx hb dX9_node_82 rfl (lv_at hl 0 rfl) ?_
        refine zgX9_3 hx hb hf hown P0 Z L40 dX9_node_83 ?_
        refine lv_iload_n hx hb dX9_node_86 rfl (lv_at hl 1 rfl) ?_
        obtain ⟨r7, S8, ec, h⟩ := zbd_s h
        refine zc_Vi hY P0 ⟨hx, hb, hml, hown, hT⟩ (As := [.int a1]) (rest := []) (kX0_secondOf l hO a1 S2 r7 S8 ec) (cwV 1 hT (zgV mL_X9_165 mI_X0_secondOf mS_X0_secondOf mN_X0 mC_X0_secondOf) rfl rfl rfl hdnX0_secondOf ⟨Nat.le_of_ble_eq_true rfl, Nat.le_of_ble_eq_true rfl⟩) (zrecX_5 P0 Z) Z rfl hl.1 rfl (Nat.le_of_ble_eq_true rfl) dX9_node_87 (fun H locs Z => ?_)
        exact zr_i hY P0 hx hb hr hlocks h Z dX9_node_90
      have h := zi_f q2 h
      by_cases q3 : a2 = (nI 3)
      · have h := zi_t q3 h
        refine ztbl (off := 67) (tgt := 91) hx hb q3 dX9_node_24 (by decide) (by decide) (by decide) (by decide) ?_
        refine lv_aload_n hx hb dX9_node_91 rfl (lv_at hl 0 rfl) ?_
        refine zgX9_3 hx hb hf hown P0 Z L40 dX9_node_92 ?_
        refine lv_iload_n hx hb dX9_node_95 rfl (lv_at hl 1 rfl) ?_
        obtain ⟨r9, S10, ec, h⟩ := zbd_s h
        refine zc_Vi hY P0 ⟨hx, hb, hml, hown, hT⟩ (As := [.int a1]) (rest := []) (kX0_makerOf l hO a1 S2 r9 S10 ec) (cwV 1 hT (zgV mL_X9_168 mI_X0_makerOf mS_X0_makerOf mN_X0 mC_X0_makerOf) rfl rfl rfl hdnX0_makerOf ⟨Nat.le_of_ble_eq_true rfl, Nat.le_of_ble_eq_true rfl⟩) (zrecX_5 P0 Z) Z rfl hl.1 rfl (Nat.le_of_ble_eq_true rfl) dX9_node_96 (fun H locs Z => ?_)
        exact zr_i hY P0 hx hb hr hlocks h Z dX9_node_99
      have h := zi_f q3 h
      by_cases q4 : a2 = (nI 4)
      · have h := zi_t q4 h
        refine ztbl (off := 76) (tgt := 100) hx hb q4 dX9_node_24 (by decide) (by decide) (by decide) (by decide) ?_
        refine lv_aload_n hx hb dX9_node_100 rfl (lv_at hl 0 rfl) ?_
        refine zgX9_6 hx hb hf hown P0 Z L63 dX9_node_101 ?_
        refine lv_iload_n hx hb dX9_node_104 rfl (lv_at hl 1 rfl) ?_
        obtain ⟨r11, S12, ec, h⟩ := zbd_s h
        refine zc_Vi hY P0 ⟨hx, hb, hml, hown, hT⟩ (As := [.int a1]) (rest := []) (kX1_placesThatHave l hO a1 S2 r11 S12 ec) (cwV 1 hT (zgV mL_X9_171 mI_X1_placesThatHave mS_X1_placesThatHave mN_X1 mC_X1_placesThatHave) rfl rfl rfl hdnX1_placesThatHave ⟨Nat.le_of_ble_eq_true rfl, Nat.le_of_ble_eq_true rfl⟩) (zrecX_9 P0 Z) Z rfl hl.1 rfl (Nat.le_of_ble_eq_true rfl) dX9_node_105 (fun H locs Z => ?_)
        exact zr_i hY P0 hx hb hr hlocks h Z dX9_node_108
      have h := zi_f q4 h
      by_cases q5 : a2 = (nI 5)
      · have h := zi_t q5 h
        refine ztbl (off := 85) (tgt := 109) hx hb q5 dX9_node_24 (by decide) (by decide) (by decide) (by decide) ?_
        refine lv_aload_n hx hb dX9_node_109 rfl (lv_at hl 0 rfl) ?_
        refine zgX9_6 hx hb hf hown P0 Z L63 dX9_node_110 ?_
        refine lv_iload_n hx hb dX9_node_113 rfl (lv_at hl 1 rfl) ?_
        obtain ⟨r13, S14, ec, h⟩ := zbd_s h
        refine zc_Vi hY P0 ⟨hx, hb, hml, hown, hT⟩ (As := [.int a1]) (rest := []) (kX1_keeps l hO a1 S2 r13 S14 ec) (cwV 1 hT (zgV mL_X9_174 mI_X1_keeps mS_X1_keeps mN_X1 mC_X1_keeps) rfl rfl rfl hdnX1_keeps ⟨Nat.le_of_ble_eq_true rfl, Nat.le_of_ble_eq_true rfl⟩) (zrecX_9 P0 Z) Z rfl hl.1 rfl (Nat.le_of_ble_eq_true rfl) dX9_node_114 (fun H locs Z => ?_)
        refine lv_if_eq (tgt := 124) hx hb dX9_node_117 (by decide) (fun q => ?_) (fun q => ?_)
        · have h := zi_t q h
          refine lv_iconst (v := (nI 0)) hx hb dX9_node_124 (by decide) ?_
          exact zr_i hY P0 hx hb hr hlocks h Z dX9_node_125
        · have h := zi_f q h
          refine lv_iconst (v := (nI 1)) hx hb dX9_node_120 (by decide) ?_
          refine lv_goto (tgt := 125) hx hb dX9_node_121 (by decide) ?_
          exact zr_i hY P0 hx hb hr hlocks h Z dX9_node_125
      have h := zi_f q5 h
      have u0 : ¬ a2.toInt = 0 := lv_neT q0 (by decide)
      have u1 : ¬ a2.toInt = 1 := lv_neT q1 (by decide)
      have u2 : ¬ a2.toInt = 2 := lv_neT q2 (by decide)
      have u3 : ¬ a2.toInt = 3 := lv_neT q3 (by decide)
      have u4 : ¬ a2.toInt = 4 := lv_neT q4 (by decide)
      have u5 : ¬ a2.toInt = 5 := lv_neT q5 (by decide)
      refine lv_tableOut (tgt := 126) hx hb dX9_node_24 (by omega) (by decide) ?_
      refine lv_iconst (v := (-1 : Int32)) hx hb dX9_node_126 (by decide) ?_
      exact zr_i hY P0 hx hb hr hlocks h Z dX9_node_127
    · have h := zi_f q h
      refine lv_iconst (v := (-1 : Int32)) hx hb dX9_node_21 (by decide) ?_
      exact zr_i hY P0 hx hb hr hlocks h Z dX9_node_22
  · have h := zi_t q h
    refine lv_bipush (v := (-3 : Int32)) hx hb dX9_node_7 (by decide) ?_
    exact zr_i hY P0 hx hb hr hlocks h Z dX9_node_9
