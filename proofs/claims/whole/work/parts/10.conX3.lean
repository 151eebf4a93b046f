set_option maxHeartbeats 4000000 in
set_option maxRecDepth 100000 in
theorem kX0_kindOf {g : zG} (l : Launch) (hO : zinjX g) (a1 : Int32) (S : zSt) (r : Int32) (S' : zSt) (h : fX0_kindOf a1 S = some (r, S')) : zMi (zYX g) l yX0_kindOf vX0_kindOf { frames := 0, cells := 0, slots := 0, locals := 0 } ([.ref (zad g 5), .int a1] : List Value) S r S' := by
  have hY := zOkX hO
  refine Met.ofW (cc := cX0_kindOf) (maxL := 2) (ret := (some .int)) (by decide) rfl ?_
  intro p e s m args below meth c s₁ B hml hv
  obtain ⟨rfl, hP⟩ := hv
  have hx := B.exec
  have hb := B.bytes
  have hr := B.returns
  have hts := atoms_spec (ws := vX0_kindOf) B.pre
  have hT : ∀ w ∈ zTB, w.before ([.ref (zad g 5), .int a1] : List Value).toArray s = true := fun w h => hts w (List.mem_cons_of_mem _ h)
  have hown : s.vm.findClass RX0 = some m.cls := findClass_of_methodNamed B.named
  have hlocks := B.notSynchronized
  have P0 := hP.2
  have Z : zZ (zYX g) S s s.heap [] := ⟨hP.1, va_S.rf⟩
  have hf : ∀ w ∈ u_ws RX0 TX0 9, w.before ([.ref (zad g 5), .int a1] : List Value).toArray s = true := fun w hw => hT w (mU_X0 w hw)
  have L9 := hT _ mF_X0_9
  have hl := lv_entry ([.ref (zad g 5), .int a1] : List Value) (n := 2) (Nat.le_of_ble_eq_true rfl)
  rw [lg_entry_eq]
  generalize (lg_sl ([.ref (zad g 5), .int a1] : List Value) ++ List.replicate (2 - (lg_sl ([.ref (zad g 5), .int a1] : List Value)).length) Slot.unset).toArray = ls at hl ⊢
  have hl : lv_has ls 2 [(0, .ref (zad g 5)), (1, .int a1)] := hl
  unfold fX0_kindOf at h
  refine lv_iload_n hx hb dX0_kindOf_0 rfl (lv_at hl 1 rfl) ?_
  refine lv_if_lt (tgt := 20) hx hb dX0_kindOf_1 (by decide) (fun q => ?_) (fun q => ?_)
  · have h := zi_t q h
    refine lv_iconst (v := (-1 : Int32)) hx hb dX0_kindOf_20 (by decide) ?_
    exact zr_i hY P0 hx hb hr hlocks h Z dX0_kindOf_21
  · have h := zi_f q h
    refine lv_iload_n hx hb dX0_kindOf_4 rfl (lv_at hl 1 rfl) ?_
    refine lv_sipush (v := (nI 400)) hx hb dX0_kindOf_5 (by decide) ?_
    refine lv_icmp_ge (tgt := 20) hx hb dX0_kindOf_8 (by decide) (fun q => ?_) (fun q => ?_)
    · have h := zi_t q h
      refine lv_iconst (v := (-1 : Int32)) hx hb dX0_kindOf_20 (by decide) ?_
      exact zr_i hY P0 hx hb hr hlocks h Z dX0_kindOf_21
    · have h := zi_f q h
      refine lv_aload_n hx hb dX0_kindOf_11 rfl (lv_at hl 0 rfl) ?_
      refine zgX0_0 hx hb hf hown P0 Z L9 dX0_kindOf_12 ?_
      refine lv_iload_n hx hb dX0_kindOf_15 rfl (lv_at hl 1 rfl) ?_
      obtain ⟨v1, ev, hin, h⟩ := zld_s h
      refine zlX_25 hx hb P0 Z ev hin dX0_kindOf_16 ?_
      refine lv_goto (tgt := 21) hx hb dX0_kindOf_17 (by decide) ?_
      exact zr_i hY P0 hx hb hr hlocks h Z dX0_kindOf_21

set_option maxHeartbeats 4000000 in
set_option maxRecDepth 100000 in
theorem kX2_failing {g : zG} (l : Launch) (hO : zinjX g) (a1 : Int32) (S : zSt) (r : Int32) (S' : zSt) (h : fX2_failing a1 S = some (r, S')) : zMi (zYX g) l yX2_failing vX2_failing { frames := 0, cells := 0, slots := 0, locals := 0 } ([.ref (zad g 7), .int a1] : List Value) S r S' := by
  have hY := zOkX hO
  refine Met.ofW (cc := cX2_failing) (maxL := 2) (ret := (some .int)) (by decide) rfl ?_
  intro p e s m args below meth c s₁ B hml hv
  obtain ⟨rfl, hP⟩ := hv
  have hx := B.exec
  have hb := B.bytes
  have hr := B.returns
  have hts := atoms_spec (ws := vX2_failing) B.pre
  have hT : ∀ w ∈ zTB, w.before ([.ref (zad g 7), .int a1] : List Value).toArray s = true := fun w h => hts w (List.mem_cons_of_mem _ h)
  have hown : s.vm.findClass RX2 = some m.cls := findClass_of_methodNamed B.named
  have hlocks := B.notSynchronized
  have P0 := hP.2
  have Z : zZ (zYX g) S s s.heap [] := ⟨hP.1, va_S.rf⟩
  have hf : ∀ w ∈ u_ws RX2 TX2 11, w.before ([.ref (zad g 7), .int a1] : List Value).toArray s = true := fun w hw => hT w (mU_X2 w hw)
  have L22 := hT _ mF_X2_22
  have hl := lv_entry ([.ref (zad g 7), .int a1] : List Value) (n := 2) (Nat.le_of_ble_eq_true rfl)
  rw [lg_entry_eq]
  generalize (lg_sl ([.ref (zad g 7), .int a1] : List Value) ++ List.replicate (2 - (lg_sl ([.ref (zad g 7), .int a1] : List Value)).length) Slot.unset).toArray = ls at hl ⊢
  have hl : lv_has ls 2 [(0, .ref (zad g 7)), (1, .int a1)] := hl
  unfold fX2_failing at h
  refine lv_aload_n hx hb dX2_failing_0 rfl (lv_at hl 0 rfl) ?_
  refine lv_iload_n hx hb dX2_failing_1 rfl (lv_at hl 1 rfl) ?_
  refine zpX2_7 hO hx hb hf hown P0 Z L22 dX2_failing_2 (fun H locs Z => ?_)
  refine lv_bipush (v := (nI 7)) hx hb dX2_failing_5 (by decide) ?_
  exact zr_i hY P0 hx hb hr hlocks h Z dX2_failing_7

set_option maxHeartbeats 4000000 in
set_option maxRecDepth 100000 in
theorem kX0_followed {g : zG} (l : Launch) (hO : zinjX g) (a1 : Int32) (S : zSt) (r : Int32) (S' : zSt) (h : fX0_followed a1 S = some (r, S')) : zMi (zYX g) l yX0_followed vX0_followed { frames := 1, cells := 0, slots := 0, locals := 21 } ([.ref (zad g 5), .int a1] : List Value) S r S' := by
  have hY := zOkX hO
  refine Met.ofW (cc := cX0_followed) (maxL := 4) (ret := (some .int)) (by decide) rfl ?_
  intro p e s m args below meth c s₁ B hml hv
  obtain ⟨rfl, hP⟩ := hv
  have hx := B.exec
  have hb := B.bytes
  have hr := B.returns
  have hts := atoms_spec (ws := vX0_followed) B.pre
  have hT : ∀ w ∈ zTB, w.before ([.ref (zad g 5), .int a1] : List Value).toArray s = true := fun w h => hts w (List.mem_cons_of_mem _ h)
  have hown : s.vm.findClass RX0 = some m.cls := findClass_of_methodNamed B.named
  have hlocks := B.notSynchronized
  have P0 := hP.2
  have Z : zZ (zYX g) S s s.heap [] := ⟨hP.1, va_S.rf⟩
  have B4 : ∀ (n : Nat) (x2 : Int32) (x3 : Int32) (S : zSt), fX0_followed_4L n (x2, x3, S) = some (r, S') → ∀ (H : Heap) (locs : List Loc), zZ (zYX g) S s H locs → ∀ ls : Array Slot, lv_has ls 4 [(0, .ref (zad g 5)), (2, .int x2), (3, .int x3)] → W p l e (headSpec vX0_followed { frames := 1, cells := 0, slots := 0, locals := 21 }).room s m ([.ref (zad g 5), .int a1] : List Value).toArray below meth c H locs 0 0 (MQ below (zQi (zYX g) r S') ([.ref (zad g 5), .int a1] : List Value).toArray s 0 0 (zYX g).2.2.1) (F0 m 4 ls []) := by
    intro n
    induction n with
    | zero => intro x2 x3 S h; exact absurd h (fun h => nomatch h)
    | succ n K4 =>
      intro x2 x3 S h H locs Z ls hl
      have h : fX0_followed_4 (fX0_followed_4L n) x2 x3 S = some (r, S') := h
      unfold fX0_followed_4 at h
      refine lv_iload_n hx hb dX0_followed_4 rfl (lv_at hl 2 rfl) ?_
      refine lv_sipush (v := (nI 400)) hx hb dX0_followed_5 (by decide) ?_
      refine lv_icmp_gt (tgt := 35) hx hb dX0_followed_8 (by decide) (fun q => ?_) (fun q => ?_)
      · have h := zi_t q h
        refine lv_iconst (v := (-1 : Int32)) hx hb dX0_followed_35 (by decide) ?_
        exact zr_i hY P0 hx hb hr hlocks h Z dX0_followed_36
      · have h := zi_f q h
        refine lv_aload_n hx hb dX0_followed_11 rfl (lv_at hl 0 rfl) ?_
        refine lv_iload_n hx hb dX0_followed_12 rfl (lv_at hl 1 rfl) ?_
        obtain ⟨r1, S2, ec, h⟩ := zbd_s h
        refine zc_Vi hY P0 ⟨hx, hb, hml, hown, hT⟩ (As := [.int x2]) (rest := []) (kX0_kindOf l hO x2 S r1 S2 ec) (cwV 1 hT (zgV mL_X0_48 mI_X0_kindOf mS_X0_kindOf mN_X0 mC_X0_kindOf) rfl rfl rfl hdnX0_kindOf ⟨Nat.le_of_ble_eq_true rfl, Nat.le_of_ble_eq_true rfl⟩) (zrecX_5 P0 Z) Z rfl hl.1 rfl (Nat.le_of_ble_eq_true rfl) dX0_followed_13 (fun H locs Z => ?_)
        refine lv_bipush (v := (nI 6)) hx hb dX0_followed_16 (by decide) ?_
        refine lv_icmp_eq (tgt := 23) hx hb dX0_followed_18 (by decide) (fun q => ?_) (fun q => ?_)
        · have h := zi_t q h
          refine lv_aload_n hx hb dX0_followed_23 rfl (lv_at hl 0 rfl) ?_
          refine lv_iload_n hx hb dX0_followed_24 rfl (lv_at hl 1 rfl) ?_
          obtain ⟨r3, S4, ec, h⟩ := zbd_s h
          refine zc_Vi hY P0 ⟨hx, hb, hml, hown, hT⟩ (As := [.int x2]) (rest := []) (kX0_firstOf l hO x2 S2 r3 S4 ec) (cwV 1 hT (zgV mL_X0_52 mI_X0_firstOf mS_X0_firstOf mN_X0 mC_X0_firstOf) rfl rfl rfl hdnX0_firstOf ⟨Nat.le_of_ble_eq_true rfl, Nat.le_of_ble_eq_true rfl⟩) (zrecX_5 P0 Z) Z rfl hl.1 rfl (Nat.le_of_ble_eq_true rfl) dX0_followed_25 (fun H locs Z => ?_)
          refine lv_istore_n (lv' := [(2, .int r3), (0, .ref (zad g 5)), (3, .int x3)]) hx hb dX0_followed_28 rfl hl (by decide) rfl (fun ls hl => ?_)
          refine lv_iinc (v := (x3 + (nI 1))) (lv' := [(3, .int (x3 + (nI 1))), (2, .int r3), (0, .ref (zad g 5))]) hx hb dX0_followed_29 hl (k := 2) rfl rfl (by decide) rfl (fun ls hl => ?_)
          refine lv_goto (tgt := 4) hx hb dX0_followed_32 (by decide) ?_
          exact K4 r3 (x3 + (nI 1)) S4 h _ _ Z ls (lv_sub hl [2, 1, 0] rfl)
        · have h := zi_f q h
          refine lv_iload_n hx hb dX0_followed_21 rfl (lv_at hl 1 rfl) ?_
          exact zr_i hY P0 hx hb hr hlocks h Z dX0_followed_22
  have hl := lv_entry ([.ref (zad g 5), .int a1] : List Value) (n := 4) (Nat.le_of_ble_eq_true rfl)
  rw [lg_entry_eq]
  generalize (lg_sl ([.ref (zad g 5), .int a1] : List Value) ++ List.replicate (4 - (lg_sl ([.ref (zad g 5), .int a1] : List Value)).length) Slot.unset).toArray = ls at hl ⊢
  have hl : lv_has ls 4 [(0, .ref (zad g 5)), (1, .int a1)] := hl
  unfold fX0_followed at h
  refine lv_iload_n hx hb dX0_followed_0 rfl (lv_at hl 1 rfl) ?_
  refine lv_istore_n (lv' := [(2, .int a1), (0, .ref (zad g 5)), (1, .int a1)]) hx hb dX0_followed_1 rfl hl (by decide) rfl (fun ls hl => ?_)
  refine lv_iconst (v := (nI 0)) hx hb dX0_followed_2 (by decide) ?_
  refine lv_istore_n (lv' := [(3, .int (nI 0)), (2, .int a1), (0, .ref (zad g 5)), (1, .int a1)]) hx hb dX0_followed_3 rfl hl (by decide) rfl (fun ls hl => ?_)
  exact B4 zFU a1 (nI 0) S h _ _ Z ls (lv_sub hl [2, 1, 0] rfl)

set_option maxHeartbeats 4000000 in
set_option maxRecDepth 100000 in
theorem kX2_isOfSort {g : zG} (l : Launch) (hO : zinjX g) (a0 : Int32) (a1 : Int32) (S : zSt) (r : Int32) (S' : zSt) (h : fX2_isOfSort a0 a1 S = some (r, S')) : zMi (zYX g) l yX2_isOfSort vX2_isOfSort { frames := 0, cells := 0, slots := 0, locals := 0 } ([.int a0, .int a1] : List Value) S r S' := by
  have hY := zOkX hO
  refine Met.ofW (cc := cX2_isOfSort) (maxL := 2) (ret := (some .boolean)) (by decide) rfl ?_
  intro p e s m args below meth c s₁ B hml hv
  obtain ⟨rfl, hP⟩ := hv
  have hx := B.exec
  have hb := B.bytes
  have hr := B.returns
  have hts := atoms_spec (ws := vX2_isOfSort) B.pre
  have hT : ∀ w ∈ zTB, w.before ([.int a0, .int a1] : List Value).toArray s = true := fun w h => hts w (List.mem_cons_of_mem _ h)
  have hown : s.vm.findClass RX2 = some m.cls := findClass_of_methodNamed B.named
  have hlocks := B.notSynchronized
  have P0 := hP.2
  have Z : zZ (zYX g) S s s.heap [] := ⟨hP.1, va_S.rf⟩
  have hl := lv_entry ([.int a0, .int a1] : List Value) (n := 2) (Nat.le_of_ble_eq_true rfl)
  rw [lg_entry_eq]
  generalize (lg_sl ([.int a0, .int a1] : List Value) ++ List.replicate (2 - (lg_sl ([.int a0, .int a1] : List Value)).length) Slot.unset).toArray = ls at hl ⊢
  have hl : lv_has ls 2 [(0, .int a0), (1, .int a1)] := hl
  unfold fX2_isOfSort at h
  refine lv_iload_n hx hb dX2_isOfSort_0 rfl (lv_at hl 0 rfl) ?_
  by_cases q9 : a0 = (nI 9)
  · have h := zi_t q9 h
    refine ztbl (off := 33) (tgt := 34) hx hb q9 dX2_isOfSort_1 (by decide) (by decide) (by decide) (by decide) ?_
    refine lv_iload_n hx hb dX2_isOfSort_34 rfl (lv_at hl 1 rfl) ?_
    refine lv_iconst (v := (nI 4)) hx hb dX2_isOfSort_35 (by decide) ?_
    refine lv_icmp_eq (tgt := 44) hx hb dX2_isOfSort_36 (by decide) (fun q => ?_) (fun q => ?_)
    · have h := zi_t q h
      refine lv_iconst (v := (nI 1)) hx hb dX2_isOfSort_44 (by decide) ?_
      refine lv_goto (tgt := 49) hx hb dX2_isOfSort_45 (by decide) ?_
      exact zr_z hY P0 hx hb hr hlocks (by decide) h Z dX2_isOfSort_49
    · have h := zi_f q h
      refine lv_iload_n hx hb dX2_isOfSort_39 rfl (lv_at hl 1 rfl) ?_
      refine lv_iconst (v := (nI 5)) hx hb dX2_isOfSort_40 (by decide) ?_
      refine lv_icmp_ne (tgt := 48) hx hb dX2_isOfSort_41 (by decide) (fun q => ?_) (fun q => ?_)
      · have h := zi_f q h
        refine lv_iconst (v := (nI 0)) hx hb dX2_isOfSort_48 (by decide) ?_
        exact zr_z hY P0 hx hb hr hlocks (by decide) h Z dX2_isOfSort_49
      · have h := zi_t q h
        refine lv_iconst (v := (nI 1)) hx hb dX2_isOfSort_44 (by decide) ?_
        refine lv_goto (tgt := 49) hx hb dX2_isOfSort_45 (by decide) ?_
        exact zr_z hY P0 hx hb hr hlocks (by decide) h Z dX2_isOfSort_49
  have h := zi_f q9 h
  by_cases q10 : a0 = (nI 10)
  · have h := zi_t q10 h
    refine ztbl (off := 33) (tgt := 34) hx hb q10 dX2_isOfSort_1 (by decide) (by decide) (by decide) (by decide) ?_
    refine lv_iload_n hx hb dX2_isOfSort_34 rfl (lv_at hl 1 rfl) ?_
    refine lv_iconst (v := (nI 4)) hx hb dX2_isOfSort_35 (by decide) ?_
    refine lv_icmp_eq (tgt := 44) hx hb dX2_isOfSort_36 (by decide) (fun q => ?_) (fun q => ?_)
    · have h := zi_t q h
      refine lv_iconst (v := (nI 1)) hx hb dX2_isOfSort_44 (by decide) ?_
      refine lv_goto (tgt := 49) hx hb dX2_isOfSort_45 (by decide) ?_
      exact zr_z hY P0 hx hb hr hlocks (by decide) h Z dX2_isOfSort_49
    · have h := zi_f q h
      refine lv_iload_n hx hb dX2_isOfSort_39 rfl (lv_at hl 1 rfl) ?_
      refine lv_iconst (v := (nI 5)) hx hb dX2_isOfSort_40 (by decide) ?_
      refine lv_icmp_ne (tgt := 48) hx hb dX2_isOfSort_41 (by decide) (fun q => ?_) (fun q => ?_)
      · have h := zi_f q h
        refine lv_iconst (v := (nI 0)) hx hb dX2_isOfSort_48 (by decide) ?_
        exact zr_z hY P0 hx hb hr hlocks (by decide) h Z dX2_isOfSort_49
      · have h := zi_t q h
        refine lv_iconst (v := (nI 1)) hx hb dX2_isOfSort_44 (by decide) ?_
        refine lv_goto (tgt := 49) hx hb dX2_isOfSort_45 (by decide) ?_
        exact zr_z hY P0 hx hb hr hlocks (by decide) h Z dX2_isOfSort_49
  have h := zi_f q10 h
  by_cases q11 : a0 = (nI 11)
  · have h := zi_t q11 h
    refine ztbl (off := 33) (tgt := 34) hx hb q11 dX2_isOfSort_1 (by decide) (by decide) (by decide) (by decide) ?_
    refine lv_iload_n hx hb dX2_isOfSort_34 rfl (lv_at hl 1 rfl) ?_
    refine lv_iconst (v := (nI 4)) hx hb dX2_isOfSort_35 (by decide) ?_
    refine lv_icmp_eq (tgt := 44) hx hb dX2_isOfSort_36 (by decide) (fun q => ?_) (fun q => ?_)
    · have h := zi_t q h
      refine lv_iconst (v := (nI 1)) hx hb dX2_isOfSort_44 (by decide) ?_
      refine lv_goto (tgt := 49) hx hb dX2_isOfSort_45 (by decide) ?_
      exact zr_z hY P0 hx hb hr hlocks (by decide) h Z dX2_isOfSort_49
    · have h := zi_f q h
      refine lv_iload_n hx hb dX2_isOfSort_39 rfl (lv_at hl 1 rfl) ?_
      refine lv_iconst (v := (nI 5)) hx hb dX2_isOfSort_40 (by decide) ?_
      refine lv_icmp_ne (tgt := 48) hx hb dX2_isOfSort_41 (by decide) (fun q => ?_) (fun q => ?_)
      · have h := zi_f q h
        refine lv_iconst (v := (nI 0)) hx hb dX2_isOfSort_48 (by decide) ?_
        exact zr_z hY P0 hx hb hr hlocks (by decide) h Z dX2_isOfSort_49
      · have h := zi_t q h
        refine lv_iconst (v := (nI 1)) hx hb dX2_isOfSort_44 (by decide) ?_
        refine lv_goto (tgt := 49) hx hb dX2_isOfSort_45 (by decide) ?_
        exact zr_z hY P0 hx hb hr hlocks (by decide) h Z dX2_isOfSort_49
  have h := zi_f q11 h
  by_cases q12 : a0 = (nI 12)
  · have h := zi_t q12 h
    refine ztbl (off := 31) (tgt := 32) hx hb q12 dX2_isOfSort_1 (by decide) (by decide) (by decide) (by decide) ?_
    refine lv_iconst (v := (nI 1)) hx hb dX2_isOfSort_32 (by decide) ?_
    exact zr_z hY P0 hx hb hr hlocks (by decide) h Z dX2_isOfSort_33
  have h := zi_f q12 h
  have u9 : ¬ a0.toInt = 9 := lv_neT q9 (by decide)
  have u10 : ¬ a0.toInt = 10 := lv_neT q10 (by decide)
  have u11 : ¬ a0.toInt = 11 := lv_neT q11 (by decide)
  have u12 : ¬ a0.toInt = 12 := lv_neT q12 (by decide)
  refine lv_tableOut (tgt := 50) hx hb dX2_isOfSort_1 (by omega) (by decide) ?_
  refine lv_iload_n hx hb dX2_isOfSort_50 rfl (lv_at hl 1 rfl) ?_
  refine lv_if_ne (tgt := 58) hx hb dX2_isOfSort_51 (by decide) (fun q => ?_) (fun q => ?_)
  · have h := zi_f q h
    refine lv_iconst (v := (nI 0)) hx hb dX2_isOfSort_58 (by decide) ?_
    exact zr_z hY P0 hx hb hr hlocks (by decide) h Z dX2_isOfSort_59
  · have h := zi_t q h
    refine lv_iconst (v := (nI 1)) hx hb dX2_isOfSort_54 (by decide) ?_
    refine lv_goto (tgt := 59) hx hb dX2_isOfSort_55 (by decide) ?_
    exact zr_z hY P0 hx hb hr hlocks (by decide) h Z dX2_isOfSort_59

set_option maxHeartbeats 4000000 in
set_option maxRecDepth 100000 in
theorem kX2_needsOf {g : zG} (l : Launch) (hO : zinjX g) (a0 : Int32) (S : zSt) (r : Int32) (S' : zSt) (h : fX2_needsOf a0 S = some (r, S')) : zMi (zYX g) l yX2_needsOf vX2_needsOf { frames := 0, cells := 0, slots := 0, locals := 0 } ([.int a0] : List Value) S r S' := by
  have hY := zOkX hO
  refine Met.ofW (cc := cX2_needsOf) (maxL := 1) (ret := (some .int)) (by decide) rfl ?_
  intro p e s m args below meth c s₁ B hml hv
  obtain ⟨rfl, hP⟩ := hv
  have hx := B.exec
  have hb := B.bytes
  have hr := B.returns
  have hts := atoms_spec (ws := vX2_needsOf) B.pre
  have hT : ∀ w ∈ zTB, w.before ([.int a0] : List Value).toArray s = true := fun w h => hts w (List.mem_cons_of_mem _ h)
  have hown : s.vm.findClass RX2 = some m.cls := findClass_of_methodNamed B.named
  have hlocks := B.notSynchronized
  have P0 := hP.2
  have Z : zZ (zYX g) S s s.heap [] := ⟨hP.1, va_S.rf⟩
  have L153 := hT _ mF_X2_153
  have hl := lv_entry ([.int a0] : List Value) (n := 1) (Nat.le_of_ble_eq_true rfl)
  rw [lg_entry_eq]
  generalize (lg_sl ([.int a0] : List Value) ++ List.replicate (1 - (lg_sl ([.int a0] : List Value)).length) Slot.unset).toArray = ls at hl ⊢
  have hl : lv_has ls 1 [(0, .int a0)] := hl
  unfold fX2_needsOf at h
  refine lv_iload_n hx hb dX2_needsOf_0 rfl (lv_at hl 0 rfl) ?_
  refine lv_if_lt (tgt := 20) hx hb dX2_needsOf_1 (by decide) (fun q => ?_) (fun q => ?_)
  · have h := zi_t q h
    refine lv_iconst (v := (nI 0)) hx hb dX2_needsOf_20 (by decide) ?_
    exact zr_i hY P0 hx hb hr hlocks h Z dX2_needsOf_21
  · have h := zi_f q h
    refine lv_iload_n hx hb dX2_needsOf_4 rfl (lv_at hl 0 rfl) ?_
    refine zgs_NEEDS hx hb hown P0 Z L153 dX2_needsOf_5 ?_
    refine zas_NEEDS hx hb P0 Z dX2_needsOf_8 ?_
    refine lv_icmp_ge (tgt := 20) hx hb dX2_needsOf_9 (by decide) (fun q => ?_) (fun q => ?_)
    · have h := zi_t q h
      refine lv_iconst (v := (nI 0)) hx hb dX2_needsOf_20 (by decide) ?_
      exact zr_i hY P0 hx hb hr hlocks h Z dX2_needsOf_21
    · have h := zi_f q h
      refine zgs_NEEDS hx hb hown P0 Z L153 dX2_needsOf_12 ?_
      refine lv_iload_n hx hb dX2_needsOf_15 rfl (lv_at hl 0 rfl) ?_
      obtain ⟨v1, ev, hin, h⟩ := zld_s h
      refine zls_NEEDS hx hb P0 Z ev hin dX2_needsOf_16 ?_
      refine lv_goto (tgt := 21) hx hb dX2_needsOf_17 (by decide) ?_
      exact zr_i hY P0 hx hb hr hlocks h Z dX2_needsOf_21

set_option maxHeartbeats 4000000 in
set_option maxRecDepth 100000 in
theorem kX2_isValue {g : zG} (l : Launch) (hO : zinjX g) (a1 : Int32) (S : zSt) (r : Int32) (S' : zSt) (h : fX2_isValue a1 S = some (r, S')) : zMi (zYX g) l yX2_isValue vX2_isValue { frames := 2, cells := 0, slots := 0, locals := 44 } ([.ref (zad g 7), .int a1] : List Value) S r S' := by
  have hY := zOkX hO
  refine Met.ofW (cc := cX2_isValue) (maxL := 4) (ret := (some .boolean)) (by decide) rfl ?_
  intro p e s m args below meth c s₁ B hml hv
  obtain ⟨rfl, hP⟩ := hv
  have hx := B.exec
  have hb := B.bytes
  have hr := B.returns
  have hts := atoms_spec (ws := vX2_isValue) B.pre
  have hT : ∀ w ∈ zTB, w.before ([.ref (zad g 7), .int a1] : List Value).toArray s = true := fun w h => hts w (List.mem_cons_of_mem _ h)
  have hown : s.vm.findClass RX2 = some m.cls := findClass_of_methodNamed B.named
  have hlocks := B.notSynchronized
  have P0 := hP.2
  have Z : zZ (zYX g) S s s.heap [] := ⟨hP.1, va_S.rf⟩
  have hf : ∀ w ∈ u_ws RX2 TX2 11, w.before ([.ref (zad g 7), .int a1] : List Value).toArray s = true := fun w hw => hT w (mU_X2 w hw)
  have L38 := hT _ mF_X2_38
  have L34 := hT _ mF_X2_34
  have B44 : ∀ (x2 : Int32) (x3 : Int32) (S : zSt), fX2_isValue_44 x2 x3 S = some (r, S') → ∀ (H : Heap) (locs : List Loc), zZ (zYX g) S s H locs → ∀ ls : Array Slot, lv_has ls 4 [(0, .ref (zad g 7)), (2, .int x2), (3, .int x3)] → W p l e (headSpec vX2_isValue { frames := 2, cells := 0, slots := 0, locals := 44 }).room s m ([.ref (zad g 7), .int a1] : List Value).toArray below meth c H locs 0 0 (MQ below (zQi (zYX g) r S') ([.ref (zad g 7), .int a1] : List Value).toArray s 0 0 (zYX g).2.2.1) (F0 m 44 ls []) := by
    intro x2 x3 S h H locs Z ls hl
    unfold fX2_isValue_44 at h
    refine lv_aload_n hx hb dX2_isValue_44 rfl (lv_at hl 0 rfl) ?_
    refine zgX2_1 hx hb hf hown P0 Z L38 dX2_isValue_45 ?_
    refine lv_iload_n hx hb dX2_isValue_48 rfl (lv_at hl 1 rfl) ?_
    obtain ⟨r7, S8, ec, h⟩ := zbd_s h
    refine zc_Vi hY P0 ⟨hx, hb, hml, hown, hT⟩ (As := [.int x2]) (rest := []) (kX0_kindOf l hO x2 S r7 S8 ec) (cwV 1 hT (zgV mL_X2_88 mI_X0_kindOf mS_X0_kindOf mN_X0 mC_X0_kindOf) rfl rfl rfl hdnX0_kindOf ⟨Nat.le_of_ble_eq_true rfl, Nat.le_of_ble_eq_true rfl⟩) (zrecX_5 P0 Z) Z rfl hl.1 rfl (Nat.le_of_ble_eq_true rfl) dX2_isValue_49 (fun H locs Z => ?_)
    by_cases q0 : r7 = (nI 0)
    · have h := zi_t q0 h
      refine ztbl (off := 86) (tgt := 138) hx hb q0 dX2_isValue_52 (by decide) (by decide) (by decide) (by decide) ?_
      refine lv_iload_n hx hb dX2_isValue_138 rfl (lv_at hl 2 rfl) ?_
      refine lv_if_ne (tgt := 146) hx hb dX2_isValue_139 (by decide) (fun q => ?_) (fun q => ?_)
      · have h := zi_f q h
        refine lv_iconst (v := (nI 0)) hx hb dX2_isValue_146 (by decide) ?_
        exact zr_z hY P0 hx hb hr hlocks (by decide) h Z dX2_isValue_147
      · have h := zi_t q h
        refine lv_iconst (v := (nI 1)) hx hb dX2_isValue_142 (by decide) ?_
        refine lv_goto (tgt := 147) hx hb dX2_isValue_143 (by decide) ?_
        exact zr_z hY P0 hx hb hr hlocks (by decide) h Z dX2_isValue_147
    have h := zi_f q0 h
    by_cases q2 : r7 = (nI 2)
    · have h := zi_t q2 h
      refine ztbl (off := 40) (tgt := 92) hx hb q2 dX2_isValue_52 (by decide) (by decide) (by decide) (by decide) ?_
      refine lv_iload_n hx hb dX2_isValue_92 rfl (lv_at hl 2 rfl) ?_
      refine lv_aload_n hx hb dX2_isValue_93 rfl (lv_at hl 0 rfl) ?_
      refine zgX2_0 hx hb hf hown P0 Z L34 dX2_isValue_94 ?_
      refine lv_aload_n hx hb dX2_isValue_97 rfl (lv_at hl 0 rfl) ?_
      refine zgX2_1 hx hb hf hown P0 Z L38 dX2_isValue_98 ?_
      refine lv_iload_n hx hb dX2_isValue_101 rfl (lv_at hl 1 rfl) ?_
      obtain ⟨r9, S10, ec, h⟩ := zbd_s h
      refine zc_Vi hY P0 ⟨hx, hb, hml, hown, hT⟩ (As := [.int x2]) (rest := [.ref (zad g 2), .int x3]) (kX0_firstOf l hO x2 S8 r9 S10 ec) (cwV 1 hT (zgV mL_X2_91 mI_X0_firstOf mS_X0_firstOf mN_X0 mC_X0_firstOf) rfl rfl rfl hdnX0_firstOf ⟨Nat.le_of_ble_eq_true rfl, Nat.le_of_ble_eq_true rfl⟩) (zrecX_5 P0 Z) Z rfl hl.1 rfl (Nat.le_of_ble_eq_true rfl) dX2_isValue_102 (fun H locs Z => ?_)
      obtain ⟨r11, S12, ec, h⟩ := zbd_s h
      refine zc_Vi hY P0 ⟨hx, hb, hml, hown, hT⟩ (As := [.int r9]) (rest := [.int x3]) (kX4_parametersOf l hO r9 S10 r11 S12 ec) (cwV 1 hT (zgV mL_X2_107 mI_X4_parametersOf mS_X4_parametersOf mN_X4 mC_X4_parametersOf) rfl rfl rfl hdnX4_parametersOf ⟨Nat.le_of_ble_eq_true rfl, Nat.le_of_ble_eq_true rfl⟩) (zrecX_2 P0 Z) Z rfl hl.1 rfl (Nat.le_of_ble_eq_true rfl) dX2_isValue_105 (fun H locs Z => ?_)
      refine lv_icmp_ge (tgt := 115) hx hb dX2_isValue_108 (by decide) (fun q => ?_) (fun q => ?_)
      · have h := zi_t q h
        refine lv_iconst (v := (nI 0)) hx hb dX2_isValue_115 (by decide) ?_
        exact zr_z hY P0 hx hb hr hlocks (by decide) h Z dX2_isValue_116
      · have h := zi_f q h
        refine lv_iconst (v := (nI 1)) hx hb dX2_isValue_111 (by decide) ?_
        refine lv_goto (tgt := 116) hx hb dX2_isValue_112 (by decide) ?_
        exact zr_z hY P0 hx hb hr hlocks (by decide) h Z dX2_isValue_116
    have h := zi_f q2 h
    by_cases q3 : r7 = (nI 3)
    · have h := zi_t q3 h
      refine ztbl (off := 65) (tgt := 117) hx hb q3 dX2_isValue_52 (by decide) (by decide) (by decide) (by decide) ?_
      refine lv_iload_n hx hb dX2_isValue_117 rfl (lv_at hl 2 rfl) ?_
      refine lv_aload_n hx hb dX2_isValue_118 rfl (lv_at hl 0 rfl) ?_
      refine zgX2_1 hx hb hf hown P0 Z L38 dX2_isValue_119 ?_
      refine lv_iload_n hx hb dX2_isValue_122 rfl (lv_at hl 1 rfl) ?_
      obtain ⟨r13, S14, ec, h⟩ := zbd_s h
      refine zc_Vi hY P0 ⟨hx, hb, hml, hown, hT⟩ (As := [.int x2]) (rest := [.int x3]) (kX0_firstOf l hO x2 S8 r13 S14 ec) (cwV 1 hT (zgV mL_X2_91 mI_X0_firstOf mS_X0_firstOf mN_X0 mC_X0_firstOf) rfl rfl rfl hdnX0_firstOf ⟨Nat.le_of_ble_eq_true rfl, Nat.le_of_ble_eq_true rfl⟩) (zrecX_5 P0 Z) Z rfl hl.1 rfl (Nat.le_of_ble_eq_true rfl) dX2_isValue_123 (fun H locs Z => ?_)
      obtain ⟨r15, S16, ec, h⟩ := zbd_s h
      refine zc_Si hY P0 ⟨hx, hb, hml, hown, hT⟩ (As := [.int r13]) (rest := [.int x3]) (kX2_needsOf l hO r13 S14 r15 S16 ec) (va_cwS 1 hT (zgS mL_X2_113 mT_X2_needsOf mN_X2 mC_X2_needsOf) rfl rfl rfl hdnX2_needsOf ⟨Nat.le_of_ble_eq_true rfl, Nat.le_of_ble_eq_true rfl⟩) Z rfl hl.1 rfl (Nat.le_of_ble_eq_true rfl) dX2_isValue_126 (fun H locs Z => ?_)
      refine lv_icmp_ge (tgt := 136) hx hb dX2_isValue_129 (by decide) (fun q => ?_) (fun q => ?_)
      · have h := zi_t q h
        refine lv_iconst (v := (nI 0)) hx hb dX2_isValue_136 (by decide) ?_
        exact zr_z hY P0 hx hb hr hlocks (by decide) h Z dX2_isValue_137
      · have h := zi_f q h
        refine lv_iconst (v := (nI 1)) hx hb dX2_isValue_132 (by decide) ?_
        refine lv_goto (tgt := 137) hx hb dX2_isValue_133 (by decide) ?_
        exact zr_z hY P0 hx hb hr hlocks (by decide) h Z dX2_isValue_137
    have h := zi_f q3 h
    by_cases q4 : r7 = (nI 4)
    · have h := zi_t q4 h
      refine ztbl (off := 86) (tgt := 138) hx hb q4 dX2_isValue_52 (by decide) (by decide) (by decide) (by decide) ?_
      refine lv_iload_n hx hb dX2_isValue_138 rfl (lv_at hl 2 rfl) ?_
      refine lv_if_ne (tgt := 146) hx hb dX2_isValue_139 (by decide) (fun q => ?_) (fun q => ?_)
      · have h := zi_f q h
        refine lv_iconst (v := (nI 0)) hx hb dX2_isValue_146 (by decide) ?_
        exact zr_z hY P0 hx hb hr hlocks (by decide) h Z dX2_isValue_147
      · have h := zi_t q h
        refine lv_iconst (v := (nI 1)) hx hb dX2_isValue_142 (by decide) ?_
        refine lv_goto (tgt := 147) hx hb dX2_isValue_143 (by decide) ?_
        exact zr_z hY P0 hx hb hr hlocks (by decide) h Z dX2_isValue_147
    have h := zi_f q4 h
    by_cases q5 : r7 = (nI 5)
    · have h := zi_t q5 h
      refine ztbl (off := 86) (tgt := 138) hx hb q5 dX2_isValue_52 (by decide) (by decide) (by decide) (by decide) ?_
      refine lv_iload_n hx hb dX2_isValue_138 rfl (lv_at hl 2 rfl) ?_
      refine lv_if_ne (tgt := 146) hx hb dX2_isValue_139 (by decide) (fun q => ?_) (fun q => ?_)
      · have h := zi_f q h
        refine lv_iconst (v := (nI 0)) hx hb dX2_isValue_146 (by decide) ?_
        exact zr_z hY P0 hx hb hr hlocks (by decide) h Z dX2_isValue_147
      · have h := zi_t q h
        refine lv_iconst (v := (nI 1)) hx hb dX2_isValue_142 (by decide) ?_
        refine lv_goto (tgt := 147) hx hb dX2_isValue_143 (by decide) ?_
        exact zr_z hY P0 hx hb hr hlocks (by decide) h Z dX2_isValue_147
    have h := zi_f q5 h
    by_cases q1 : r7 = (nI 1)
    · refine ztbl (off := 96) (tgt := 148) hx hb q1 dX2_isValue_52 (by decide) (by decide) (by decide) (by decide) ?_
      refine lv_iconst (v := (nI 0)) hx hb dX2_isValue_148 (by decide) ?_
      exact zr_z hY P0 hx hb hr hlocks (by decide) h Z dX2_isValue_149
    have u0 : ¬ r7.toInt = 0 := lv_neT q0 (by decide)
    have u1 : ¬ r7.toInt = 1 := lv_neT q1 (by decide)
    have u2 : ¬ r7.toInt = 2 := lv_neT q2 (by decide)
    have u3 : ¬ r7.toInt = 3 := lv_neT q3 (by decide)
    have u4 : ¬ r7.toInt = 4 := lv_neT q4 (by decide)
    have u5 : ¬ r7.toInt = 5 := lv_neT q5 (by decide)
    refine lv_tableOut (tgt := 148) hx hb dX2_isValue_52 (by omega) (by decide) ?_
    refine lv_iconst (v := (nI 0)) hx hb dX2_isValue_148 (by decide) ?_
    exact zr_z hY P0 hx hb hr hlocks (by decide) h Z dX2_isValue_149
  have B4 : ∀ (n : Nat) (x2 : Int32) (x3 : Int32) (S : zSt), fX2_isValue_4L n (x2, x3, S) = some (r, S') → ∀ (H : Heap) (locs : List Loc), zZ (zYX g) S s H locs → ∀ ls : Array Slot, lv_has ls 4 [(0, .ref (zad g 7)), (2, .int x2), (3, .int x3)] → W p l e (headSpec vX2_isValue { frames := 2, cells := 0, slots := 0, locals := 44 }).room s m ([.ref (zad g 7), .int a1] : List Value).toArray below meth c H locs 0 0 (MQ below (zQi (zYX g) r S') ([.ref (zad g 7), .int a1] : List Value).toArray s 0 0 (zYX g).2.2.1) (F0 m 4 ls []) := by
    intro n
    induction n with
    | zero => intro x2 x3 S h; exact absurd h (fun h => nomatch h)
    | succ n K4 =>
      intro x2 x3 S h H locs Z ls hl
      have h : fX2_isValue_4 (fX2_isValue_4L n) x2 x3 S = some (r, S') := h
      unfold fX2_isValue_4 at h
      refine lv_iload_n hx hb dX2_isValue_4 rfl (lv_at hl 2 rfl) ?_
      refine lv_bipush (v := (nI 8)) hx hb dX2_isValue_5 (by decide) ?_
      refine lv_icmp_gt (tgt := 44) hx hb dX2_isValue_7 (by decide) (fun q => ?_) (fun q => ?_)
      · have h := zi_t q h
        exact B44 x2 x3 S h _ _ Z ls (lv_sub hl [0, 1, 2] rfl)
      · have h := zi_f q h
        refine lv_aload_n hx hb dX2_isValue_10 rfl (lv_at hl 0 rfl) ?_
        refine zgX2_1 hx hb hf hown P0 Z L38 dX2_isValue_11 ?_
        refine lv_iload_n hx hb dX2_isValue_14 rfl (lv_at hl 1 rfl) ?_
        obtain ⟨r1, S2, ec, h⟩ := zbd_s h
        refine zc_Vi hY P0 ⟨hx, hb, hml, hown, hT⟩ (As := [.int x2]) (rest := []) (kX0_kindOf l hO x2 S r1 S2 ec) (cwV 1 hT (zgV mL_X2_88 mI_X0_kindOf mS_X0_kindOf mN_X0 mC_X0_kindOf) rfl rfl rfl hdnX0_kindOf ⟨Nat.le_of_ble_eq_true rfl, Nat.le_of_ble_eq_true rfl⟩) (zrecX_5 P0 Z) Z rfl hl.1 rfl (Nat.le_of_ble_eq_true rfl) dX2_isValue_15 (fun H locs Z => ?_)
        refine lv_iconst (v := (nI 1)) hx hb dX2_isValue_18 (by decide) ?_
        refine lv_icmp_ne (tgt := 44) hx hb dX2_isValue_19 (by decide) (fun q => ?_) (fun q => ?_)
        · have h := zi_f q h
          exact B44 x2 x3 S2 h _ _ Z ls (lv_sub hl [0, 1, 2] rfl)
        · have h := zi_t q h
          refine lv_aload_n hx hb dX2_isValue_22 rfl (lv_at hl 0 rfl) ?_
          refine zgX2_1 hx hb hf hown P0 Z L38 dX2_isValue_23 ?_
          refine lv_aload_n hx hb dX2_isValue_26 rfl (lv_at hl 0 rfl) ?_
          refine zgX2_1 hx hb hf hown P0 Z L38 dX2_isValue_27 ?_
          refine lv_iload_n hx hb dX2_isValue_30 rfl (lv_at hl 1 rfl) ?_
          obtain ⟨r3, S4, ec, h⟩ := zbd_s h
          refine zc_Vi hY P0 ⟨hx, hb, hml, hown, hT⟩ (As := [.int x2]) (rest := [.ref (zad g 5)]) (kX0_firstOf l hO x2 S2 r3 S4 ec) (cwV 1 hT (zgV mL_X2_91 mI_X0_firstOf mS_X0_firstOf mN_X0 mC_X0_firstOf) rfl rfl rfl hdnX0_firstOf ⟨Nat.le_of_ble_eq_true rfl, Nat.le_of_ble_eq_true rfl⟩) (zrecX_5 P0 Z) Z rfl hl.1 rfl (Nat.le_of_ble_eq_true rfl) dX2_isValue_31 (fun H locs Z => ?_)
          obtain ⟨r5, S6, ec, h⟩ := zbd_s h
          refine zc_Vi hY P0 ⟨hx, hb, hml, hown, hT⟩ (As := [.int r3]) (rest := []) (kX0_followed l hO r3 S4 r5 S6 ec) (cwV 1 hT (zgV mL_X2_131 mI_X0_followed mS_X0_followed mN_X0 mC_X0_followed) rfl rfl rfl hdnX0_followed ⟨Nat.le_of_ble_eq_true rfl, Nat.le_of_ble_eq_true rfl⟩) (zrecX_5 P0 Z) Z rfl hl.1 rfl (Nat.le_of_ble_eq_true rfl) dX2_isValue_34 (fun H locs Z => ?_)
          refine lv_istore_n (lv' := [(2, .int r5), (0, .ref (zad g 7)), (3, .int x3)]) hx hb dX2_isValue_37 rfl hl (by decide) rfl (fun ls hl => ?_)
          refine lv_iinc (v := (x3 + (nI 1))) (lv' := [(3, .int (x3 + (nI 1))), (2, .int r5), (0, .ref (zad g 7))]) hx hb dX2_isValue_38 hl (k := 2) rfl rfl (by decide) rfl (fun ls hl => ?_)
          refine lv_goto (tgt := 4) hx hb dX2_isValue_41 (by decide) ?_
          exact K4 r5 (x3 + (nI 1)) S6 h _ _ Z ls (lv_sub hl [2, 1, 0] rfl)
  have hl := lv_entry ([.ref (zad g 7), .int a1] : List Value) (n := 4) (Nat.le_of_ble_eq_true rfl)
  rw [lg_entry_eq]
  generalize (lg_sl ([.ref (zad g 7), .int a1] : List Value) ++ List.replicate (4 - (lg_sl ([.ref (zad g 7), .int a1] : List Value)).length) Slot.unset).toArray = ls at hl ⊢
  have hl : lv_has ls 4 [(0, .ref (zad g 7)), (1, .int a1)] := hl
  unfold fX2_isValue at h
  refine lv_iload_n hx hb dX2_isValue_0 rfl (lv_at hl 1 rfl) ?_
  refine lv_istore_n (lv' := [(2, .int a1), (0, .ref (zad g 7)), (1, .int a1)]) hx hb dX2_isValue_1 rfl hl (by decide) rfl (fun ls hl => ?_)
  refine lv_iconst (v := (nI 0)) hx hb dX2_isValue_2 (by decide) ?_
  refine lv_istore_n (lv' := [(3, .int (nI 0)), (2, .int a1), (0, .ref (zad g 7)), (1, .int a1)]) hx hb dX2_isValue_3 rfl hl (by decide) rfl (fun ls hl => ?_)
  exact B4 zFU a1 (nI 0) S h _ _ Z ls (lv_sub hl [2, 1, 0] rfl)

set_option maxHeartbeats 4000000 in
set_option maxRecDepth 100000 in
theorem kX2_isNil {g : zG} (l : Launch) (hO : zinjX g) (a1 : Int32) (S : zSt) (r : Int32) (S' : zSt) (h : fX2_isNil a1 S = some (r, S')) : zMi (zYX g) l yX2_isNil vX2_isNil { frames := 1, cells := 0, slots := 0, locals := 21 } ([.ref (zad g 7), .int a1] : List Value) S r S' := by
  have hY := zOkX hO
  refine Met.ofW (cc := cX2_isNil) (maxL := 2) (ret := (some .boolean)) (by decide) rfl ?_
  intro p e s m args below meth c s₁ B hml hv
  obtain ⟨rfl, hP⟩ := hv
  have hx := B.exec
  have hb := B.bytes
  have hr := B.returns
  have hts := atoms_spec (ws := vX2_isNil) B.pre
  have hT : ∀ w ∈ zTB, w.before ([.ref (zad g 7), .int a1] : List Value).toArray s = true := fun w h => hts w (List.mem_cons_of_mem _ h)
  have hown : s.vm.findClass RX2 = some m.cls := findClass_of_methodNamed B.named
  have hlocks := B.notSynchronized
  have P0 := hP.2
  have Z : zZ (zYX g) S s s.heap [] := ⟨hP.1, va_S.rf⟩
  have hf : ∀ w ∈ u_ws RX2 TX2 11, w.before ([.ref (zad g 7), .int a1] : List Value).toArray s = true := fun w hw => hT w (mU_X2 w hw)
  have L38 := hT _ mF_X2_38
  have hl := lv_entry ([.ref (zad g 7), .int a1] : List Value) (n := 2) (Nat.le_of_ble_eq_true rfl)
  rw [lg_entry_eq]
  generalize (lg_sl ([.ref (zad g 7), .int a1] : List Value) ++ List.replicate (2 - (lg_sl ([.ref (zad g 7), .int a1] : List Value)).length) Slot.unset).toArray = ls at hl ⊢
  have hl : lv_has ls 2 [(0, .ref (zad g 7)), (1, .int a1)] := hl
  unfold fX2_isNil at h
  refine lv_aload_n hx hb dX2_isNil_0 rfl (lv_at hl 0 rfl) ?_
  refine zgX2_1 hx hb hf hown P0 Z L38 dX2_isNil_1 ?_
  refine lv_iload_n hx hb dX2_isNil_4 rfl (lv_at hl 1 rfl) ?_
  obtain ⟨r1, S2, ec, h⟩ := zbd_s h
  refine zc_Vi hY P0 ⟨hx, hb, hml, hown, hT⟩ (As := [.int a1]) (rest := []) (kX0_kindOf l hO a1 S r1 S2 ec) (cwV 1 hT (zgV mL_X2_88 mI_X0_kindOf mS_X0_kindOf mN_X0 mC_X0_kindOf) rfl rfl rfl hdnX0_kindOf ⟨Nat.le_of_ble_eq_true rfl, Nat.le_of_ble_eq_true rfl⟩) (zrecX_5 P0 Z) Z rfl hl.1 rfl (Nat.le_of_ble_eq_true rfl) dX2_isNil_5 (fun H locs Z => ?_)
  refine lv_iconst (v := (nI 5)) hx hb dX2_isNil_8 (by decide) ?_
  refine lv_icmp_ne (tgt := 16) hx hb dX2_isNil_9 (by decide) (fun q => ?_) (fun q => ?_)
  · have h := zi_f q h
    refine lv_iconst (v := (nI 0)) hx hb dX2_isNil_16 (by decide) ?_
    exact zr_z hY P0 hx hb hr hlocks (by decide) h Z dX2_isNil_17
  · have h := zi_t q h
    refine lv_iconst (v := (nI 1)) hx hb dX2_isNil_12 (by decide) ?_
    refine lv_goto (tgt := 17) hx hb dX2_isNil_13 (by decide) ?_
    exact zr_z hY P0 hx hb hr hlocks (by decide) h Z dX2_isNil_17

set_option maxHeartbeats 4000000 in
set_option maxRecDepth 100000 in
theorem kX2_lookAtValues {g : zG} (l : Launch) (hO : zinjX g) (a1 : Int32) (S : zSt) (r : Int32) (S' : zSt) (h : fX2_lookAtValues a1 S = some (r, S')) : zMi (zYX g) l yX2_lookAtValues vX2_lookAtValues { frames := 2, cells := 0, slots := 0, locals := 42 } ([.ref (zad g 7), .int a1] : List Value) S r S' := by
  have hY := zOkX hO
  refine Met.ofW (cc := cX2_lookAtValues) (maxL := 3) (ret := (some .int)) (by decide) rfl ?_
  intro p e s m args below meth c s₁ B hml hv
  obtain ⟨rfl, hP⟩ := hv
  have hx := B.exec
  have hb := B.bytes
  have hr := B.returns
  have hts := atoms_spec (ws := vX2_lookAtValues) B.pre
  have hT : ∀ w ∈ zTB, w.before ([.ref (zad g 7), .int a1] : List Value).toArray s = true := fun w h => hts w (List.mem_cons_of_mem _ h)
  have hown : s.vm.findClass RX2 = some m.cls := findClass_of_methodNamed B.named
  have hlocks := B.notSynchronized
  have P0 := hP.2
  have Z : zZ (zYX g) S s s.heap [] := ⟨hP.1, va_S.rf⟩
  have hf : ∀ w ∈ u_ws RX2 TX2 11, w.before ([.ref (zad g 7), .int a1] : List Value).toArray s = true := fun w hw => hT w (mU_X2 w hw)
  have L38 := hT _ mF_X2_38
  have L31 := hT _ mF_X2_31
  have L28 := hT _ mF_X2_28
  have B42 : ∀ (y0 : Int32) (S : zSt), fX2_lookAtValues_42 y0 S = some (r, S') → ∀ (H : Heap) (locs : List Loc), zZ (zYX g) S s H locs → ∀ ls : Array Slot, lv_has ls 3 [(0, .ref (zad g 7))] → W p l e (headSpec vX2_lookAtValues { frames := 2, cells := 0, slots := 0, locals := 42 }).room s m ([.ref (zad g 7), .int a1] : List Value).toArray below meth c H locs 0 0 (MQ below (zQi (zYX g) r S') ([.ref (zad g 7), .int a1] : List Value).toArray s 0 0 (zYX g).2.2.1) (F0 m 42 ls [.int y0]) := by
    intro y0 S h H locs Z ls hl
    unfold fX2_lookAtValues_42 at h
    refine lv_istore_n (lv' := [(2, .int y0), (0, .ref (zad g 7))]) hx hb dX2_lookAtValues_42 rfl hl (by decide) rfl (fun ls hl => ?_)
    refine lv_iload_n hx hb dX2_lookAtValues_43 rfl (lv_at hl 0 rfl) ?_
    refine lv_if_eq (tgt := 64) hx hb dX2_lookAtValues_44 (by decide) (fun q => ?_) (fun q => ?_)
    · have h := zi_t q h
      refine lv_iconst (v := (nI 4)) hx hb dX2_lookAtValues_64 (by decide) ?_
      exact zr_i hY P0 hx hb hr hlocks h Z dX2_lookAtValues_65
    · have h := zi_f q h
      refine lv_aload_n hx hb dX2_lookAtValues_47 rfl (lv_at hl 1 rfl) ?_
      refine lv_aload_n hx hb dX2_lookAtValues_48 rfl (lv_at hl 1 rfl) ?_
      refine zgX2_9 (v := (zI S 24)) hx hb hf hown P0 Z L28 rfl dX2_lookAtValues_49 ?_
      obtain ⟨r5, S6, ec, h⟩ := zbd_s h
      refine zc_Vi hY P0 ⟨hx, hb, hml, hown, hT⟩ (As := [.int (zI S 24)]) (rest := []) (kX2_isNil l hO (zI S 24) S r5 S6 ec) (cwV 1 hT (zgV mL_X2_147 mI_X2_isNil mS_X2_isNil mN_X2 mC_X2_isNil) rfl rfl rfl hdnX2_isNil ⟨Nat.le_of_ble_eq_true rfl, Nat.le_of_ble_eq_true rfl⟩) (zrecX_7 P0 Z) Z rfl hl.1 rfl (Nat.le_of_ble_eq_true rfl) dX2_lookAtValues_52 (fun H locs Z => ?_)
      refine lv_if_eq (tgt := 64) hx hb dX2_lookAtValues_55 (by decide) (fun q => ?_) (fun q => ?_)
      · have h := zi_t q h
        refine lv_iconst (v := (nI 4)) hx hb dX2_lookAtValues_64 (by decide) ?_
        exact zr_i hY P0 hx hb hr hlocks h Z dX2_lookAtValues_65
      · have h := zi_f q h
        refine lv_aload_n hx hb dX2_lookAtValues_58 rfl (lv_at hl 1 rfl) ?_
        refine lv_iconst (v := (nI 4)) hx hb dX2_lookAtValues_59 (by decide) ?_
        obtain ⟨r7, S8, ec, h⟩ := zbd_s h
        refine zc_Vi hY P0 ⟨hx, hb, hml, hown, hT⟩ (As := [.int (nI 4)]) (rest := []) (kX2_failing l hO (nI 4) S6 r7 S8 ec) (cwV 1 hT (zgV mL_X2_119 mI_X2_failing mS_X2_failing mN_X2 mC_X2_failing) rfl rfl rfl hdnX2_failing ⟨Nat.le_of_ble_eq_true rfl, Nat.le_of_ble_eq_true rfl⟩) (zrecX_7 P0 Z) Z rfl hl.1 rfl (Nat.le_of_ble_eq_true rfl) dX2_lookAtValues_60 (fun H locs Z => ?_)
        exact zr_i hY P0 hx hb hr hlocks h Z dX2_lookAtValues_63
  have B37 : ∀ (S : zSt), fX2_lookAtValues_37 S = some (r, S') → ∀ (H : Heap) (locs : List Loc), zZ (zYX g) S s H locs → ∀ ls : Array Slot, lv_has ls 3 [(0, .ref (zad g 7))] → W p l e (headSpec vX2_lookAtValues { frames := 2, cells := 0, slots := 0, locals := 42 }).room s m ([.ref (zad g 7), .int a1] : List Value).toArray below meth c H locs 0 0 (MQ below (zQi (zYX g) r S') ([.ref (zad g 7), .int a1] : List Value).toArray s 0 0 (zYX g).2.2.1) (F0 m 37 ls []) := by
    intro S h H locs Z ls hl
    unfold fX2_lookAtValues_37 at h
    refine lv_iconst (v := (nI 1)) hx hb dX2_lookAtValues_37 (by decide) ?_
    refine lv_goto (tgt := 42) hx hb dX2_lookAtValues_38 (by decide) ?_
    exact B42 (nI 1) S h _ _ Z ls (lv_sub hl [0] rfl)
  have B25 : ∀ (x1 : Int32) (S : zSt), fX2_lookAtValues_25 x1 S = some (r, S') → ∀ (H : Heap) (locs : List Loc), zZ (zYX g) S s H locs → ∀ ls : Array Slot, lv_has ls 3 [(0, .ref (zad g 7)), (1, .int x1)] → W p l e (headSpec vX2_lookAtValues { frames := 2, cells := 0, slots := 0, locals := 42 }).room s m ([.ref (zad g 7), .int a1] : List Value).toArray below meth c H locs 0 0 (MQ below (zQi (zYX g) r S') ([.ref (zad g 7), .int a1] : List Value).toArray s 0 0 (zYX g).2.2.1) (F0 m 25 ls []) := by
    intro x1 S h H locs Z ls hl
    unfold fX2_lookAtValues_25 at h
    refine lv_iload_n hx hb dX2_lookAtValues_25 rfl (lv_at hl 1 rfl) ?_
    refine lv_bipush (v := (nI 9)) hx hb dX2_lookAtValues_26 (by decide) ?_
    refine lv_icmp_eq (tgt := 37) hx hb dX2_lookAtValues_28 (by decide) (fun q => ?_) (fun q => ?_)
    · have h := zi_t q h
      exact B37 S h _ _ Z ls (lv_sub hl [0] rfl)
    · have h := zi_f q h
      refine lv_iload_n hx hb dX2_lookAtValues_31 rfl (lv_at hl 1 rfl) ?_
      refine lv_bipush (v := (nI 10)) hx hb dX2_lookAtValues_32 (by decide) ?_
      refine lv_icmp_ne (tgt := 41) hx hb dX2_lookAtValues_34 (by decide) (fun q => ?_) (fun q => ?_)
      · have h := zi_f q h
        refine lv_iconst (v := (nI 0)) hx hb dX2_lookAtValues_41 (by decide) ?_
        exact B42 (nI 0) S h _ _ Z ls (lv_sub hl [0] rfl)
      · have h := zi_t q h
        exact B37 S h _ _ Z ls (lv_sub hl [0] rfl)
  have hl := lv_entry ([.ref (zad g 7), .int a1] : List Value) (n := 3) (Nat.le_of_ble_eq_true rfl)
  rw [lg_entry_eq]
  generalize (lg_sl ([.ref (zad g 7), .int a1] : List Value) ++ List.replicate (3 - (lg_sl ([.ref (zad g 7), .int a1] : List Value)).length) Slot.unset).toArray = ls at hl ⊢
  have hl : lv_has ls 3 [(0, .ref (zad g 7)), (1, .int a1)] := hl
  unfold fX2_lookAtValues at h
  refine lv_iload_n hx hb dX2_lookAtValues_0 rfl (lv_at hl 1 rfl) ?_
  refine lv_iconst (v := (nI 3)) hx hb dX2_lookAtValues_1 (by decide) ?_
  refine lv_icmp_ne (tgt := 25) hx hb dX2_lookAtValues_2 (by decide) (fun q => ?_) (fun q => ?_)
  · have h := zi_f q h
    exact B25 a1 S h _ _ Z ls (lv_sub hl [0, 1] rfl)
  · have h := zi_t q h
    refine lv_aload_n hx hb dX2_lookAtValues_5 rfl (lv_at hl 0 rfl) ?_
    refine zgX2_1 hx hb hf hown P0 Z L38 dX2_lookAtValues_6 ?_
    refine lv_aload_n hx hb dX2_lookAtValues_9 rfl (lv_at hl 0 rfl) ?_
    refine zgX2_10 (v := (zI S 25)) hx hb hf hown P0 Z L31 rfl dX2_lookAtValues_10 ?_
    obtain ⟨r1, S2, ec, h⟩ := zbd_s h
    refine zc_Vi hY P0 ⟨hx, hb, hml, hown, hT⟩ (As := [.int (zI S 25)]) (rest := []) (kX0_firstOf l hO (zI S 25) S r1 S2 ec) (cwV 1 hT (zgV mL_X2_91 mI_X0_firstOf mS_X0_firstOf mN_X0 mC_X0_firstOf) rfl rfl rfl hdnX0_firstOf ⟨Nat.le_of_ble_eq_true rfl, Nat.le_of_ble_eq_true rfl⟩) (zrecX_5 P0 Z) Z rfl hl.1 rfl (Nat.le_of_ble_eq_true rfl) dX2_lookAtValues_13 (fun H locs Z => ?_)
    refine lv_if_ne (tgt := 25) hx hb dX2_lookAtValues_16 (by decide) (fun q => ?_) (fun q => ?_)
    · have h := zi_f q h
      exact B25 a1 S2 h _ _ Z ls (lv_sub hl [0, 1] rfl)
    · have h := zi_t q h
      refine lv_aload_n hx hb dX2_lookAtValues_19 rfl (lv_at hl 0 rfl) ?_
      refine lv_iconst (v := (nI 3)) hx hb dX2_lookAtValues_20 (by decide) ?_
      obtain ⟨r3, S4, ec, h⟩ := zbd_s h
      refine zc_Vi hY P0 ⟨hx, hb, hml, hown, hT⟩ (As := [.int (nI 3)]) (rest := []) (kX2_failing l hO (nI 3) S2 r3 S4 ec) (cwV 1 hT (zgV mL_X2_119 mI_X2_failing mS_X2_failing mN_X2 mC_X2_failing) rfl rfl rfl hdnX2_failing ⟨Nat.le_of_ble_eq_true rfl, Nat.le_of_ble_eq_true rfl⟩) (zrecX_7 P0 Z) Z rfl hl.1 rfl (Nat.le_of_ble_eq_true rfl) dX2_lookAtValues_21 (fun H locs Z => ?_)
      exact zr_i hY P0 hx hb hr hlocks h Z dX2_lookAtValues_24

set_option maxHeartbeats 4000000 in
set_option maxRecDepth 100000 in
theorem kX0_secondOf {g : zG} (l : Launch) (hO : zinjX g) (a1 : Int32) (S : zSt) (r : Int32) (S' : zSt) (h : fX0_secondOf a1 S = some (r, S')) : zMi (zYX g) l yX0_secondOf vX0_secondOf { frames := 0, cells := 0, slots := 0, locals := 0 } ([.ref (zad g 5), .int a1] : List Value) S r S' := by
  have hY := zOkX hO
  refine Met.ofW (cc := cX0_secondOf) (maxL := 2) (ret := (some .int)) (by decide) rfl ?_
  intro p e s m args below meth c s₁ B hml hv
  obtain ⟨rfl, hP⟩ := hv
  have hx := B.exec
  have hb := B.bytes
  have hr := B.returns
  have hts := atoms_spec (ws := vX0_secondOf) B.pre
  have hT : ∀ w ∈ zTB, w.before ([.ref (zad g 5), .int a1] : List Value).toArray s = true := fun w h => hts w (List.mem_cons_of_mem _ h)
  have hown : s.vm.findClass RX0 = some m.cls := findClass_of_methodNamed B.named
  have hlocks := B.notSynchronized
  have P0 := hP.2
  have Z : zZ (zYX g) S s s.heap [] := ⟨hP.1, va_S.rf⟩
  have hf : ∀ w ∈ u_ws RX0 TX0 9, w.before ([.ref (zad g 5), .int a1] : List Value).toArray s = true := fun w hw => hT w (mU_X0 w hw)
  have L18 := hT _ mF_X0_18
  have hl := lv_entry ([.ref (zad g 5), .int a1] : List Value) (n := 2) (Nat.le_of_ble_eq_true rfl)
  rw [lg_entry_eq]
  generalize (lg_sl ([.ref (zad g 5), .int a1] : List Value) ++ List.replicate (2 - (lg_sl ([.ref (zad g 5), .int a1] : List Value)).length) Slot.unset).toArray = ls at hl ⊢
  have hl : lv_has ls 2 [(0, .ref (zad g 5)), (1, .int a1)] := hl
  unfold fX0_secondOf at h
  refine lv_iload_n hx hb dX0_secondOf_0 rfl (lv_at hl 1 rfl) ?_
  refine lv_if_lt (tgt := 20) hx hb dX0_secondOf_1 (by decide) (fun q => ?_) (fun q => ?_)
  · have h := zi_t q h
    refine lv_bipush (v := (-3 : Int32)) hx hb dX0_secondOf_20 (by decide) ?_
    exact zr_i hY P0 hx hb hr hlocks h Z dX0_secondOf_22
  · have h := zi_f q h
    refine lv_iload_n hx hb dX0_secondOf_4 rfl (lv_at hl 1 rfl) ?_
    refine lv_sipush (v := (nI 400)) hx hb dX0_secondOf_5 (by decide) ?_
    refine lv_icmp_ge (tgt := 20) hx hb dX0_secondOf_8 (by decide) (fun q => ?_) (fun q => ?_)
    · have h := zi_t q h
      refine lv_bipush (v := (-3 : Int32)) hx hb dX0_secondOf_20 (by decide) ?_
      exact zr_i hY P0 hx hb hr hlocks h Z dX0_secondOf_22
    · have h := zi_f q h
      refine lv_aload_n hx hb dX0_secondOf_11 rfl (lv_at hl 0 rfl) ?_
      refine zgX0_2 hx hb hf hown P0 Z L18 dX0_secondOf_12 ?_
      refine lv_iload_n hx hb dX0_secondOf_15 rfl (lv_at hl 1 rfl) ?_
      obtain ⟨v1, ev, hin, h⟩ := zld_s h
      refine zlX_27 hx hb P0 Z ev hin dX0_secondOf_16 ?_
      refine lv_goto (tgt := 22) hx hb dX0_secondOf_17 (by decide) ?_
      exact zr_i hY P0 hx hb hr hlocks h Z dX0_secondOf_22

set_option maxHeartbeats 4000000 in
set_option maxRecDepth 100000 in
theorem kX2_secondBelow {g : zG} (l : Launch) (hO : zinjX g) (a1 : Int32) (S : zSt) (r : Int32) (S' : zSt) (h : fX2_secondBelow a1 S = some (r, S')) : zMi (zYX g) l yX2_secondBelow vX2_secondBelow { frames := 3, cells := 0, slots := 0, locals := 62 } ([.ref (zad g 7), .int a1] : List Value) S r S' := by
  have hY := zOkX hO
  refine Met.ofW (cc := cX2_secondBelow) (maxL := 2) (ret := (some .int)) (by decide) rfl ?_
  intro p e s m args below meth c s₁ B hml hv
  obtain ⟨rfl, hP⟩ := hv
  have hx := B.exec
  have hb := B.bytes
  have hr := B.returns
  have hts := atoms_spec (ws := vX2_secondBelow) B.pre
  have hT : ∀ w ∈ zTB, w.before ([.ref (zad g 7), .int a1] : List Value).toArray s = true := fun w h => hts w (List.mem_cons_of_mem _ h)
  have hown : s.vm.findClass RX2 = some m.cls := findClass_of_methodNamed B.named
  have hlocks := B.notSynchronized
  have P0 := hP.2
  have Z : zZ (zYX g) S s s.heap [] := ⟨hP.1, va_S.rf⟩
  have hf : ∀ w ∈ u_ws RX2 TX2 11, w.before ([.ref (zad g 7), .int a1] : List Value).toArray s = true := fun w hw => hT w (mU_X2 w hw)
  have L38 := hT _ mF_X2_38
  have L42 := hT _ mF_X2_42
  have hl := lv_entry ([.ref (zad g 7), .int a1] : List Value) (n := 2) (Nat.le_of_ble_eq_true rfl)
  rw [lg_entry_eq]
  generalize (lg_sl ([.ref (zad g 7), .int a1] : List Value) ++ List.replicate (2 - (lg_sl ([.ref (zad g 7), .int a1] : List Value)).length) Slot.unset).toArray = ls at hl ⊢
  have hl : lv_has ls 2 [(0, .ref (zad g 7)), (1, .int a1)] := hl
  unfold fX2_secondBelow at h
  refine lv_aload_n hx hb dX2_secondBelow_0 rfl (lv_at hl 0 rfl) ?_
  refine zgX2_1 hx hb hf hown P0 Z L38 dX2_secondBelow_1 ?_
  refine lv_aload_n hx hb dX2_secondBelow_4 rfl (lv_at hl 0 rfl) ?_
  refine zgX2_2 hx hb hf hown P0 Z L42 dX2_secondBelow_5 ?_
  refine lv_iload_n hx hb dX2_secondBelow_8 rfl (lv_at hl 1 rfl) ?_
  obtain ⟨r1, S2, ec, h⟩ := zbd_s h
  refine zc_Vi hY P0 ⟨hx, hb, hml, hown, hT⟩ (As := [.int a1]) (rest := [.ref (zad g 5)]) (kX6_fromTop l hO a1 S r1 S2 ec) (cwV 1 hT (zgV mL_X2_84 mI_X6_fromTop mS_X6_fromTop mN_X6 mC_X6_fromTop) rfl rfl rfl hdnX6_fromTop ⟨Nat.le_of_ble_eq_true rfl, Nat.le_of_ble_eq_true rfl⟩) (zrecX_6 P0 Z) Z rfl hl.1 rfl (Nat.le_of_ble_eq_true rfl) dX2_secondBelow_9 (fun H locs Z => ?_)
  obtain ⟨r3, S4, ec, h⟩ := zbd_s h
  refine zc_Vi hY P0 ⟨hx, hb, hml, hown, hT⟩ (As := [.int r1]) (rest := []) (kX0_secondOf l hO r1 S2 r3 S4 ec) (cwV 1 hT (zgV mL_X2_150 mI_X0_secondOf mS_X0_secondOf mN_X0 mC_X0_secondOf) rfl rfl rfl hdnX0_secondOf ⟨Nat.le_of_ble_eq_true rfl, Nat.le_of_ble_eq_true rfl⟩) (zrecX_5 P0 Z) Z rfl hl.1 rfl (Nat.le_of_ble_eq_true rfl) dX2_secondBelow_12 (fun H locs Z => ?_)
  exact zr_i hY P0 hx hb hr hlocks h Z dX2_secondBelow_15

set_option maxHeartbeats 4000000 in
set_option maxRecDepth 100000 in
theorem kX2_wantsOf {g : zG} (l : Launch) (hO : zinjX g) (a0 : Int32) (S : zSt) (r : Int32) (S' : zSt) (h : fX2_wantsOf a0 S = some (r, S')) : zMi (zYX g) l yX2_wantsOf vX2_wantsOf { frames := 0, cells := 0, slots := 0, locals := 0 } ([.int a0] : List Value) S r S' := by
  have hY := zOkX hO
  refine Met.ofW (cc := cX2_wantsOf) (maxL := 1) (ret := (some .int)) (by decide) rfl ?_
  intro p e s m args below meth c s₁ B hml hv
  obtain ⟨rfl, hP⟩ := hv
  have hx := B.exec
  have hb := B.bytes
  have hr := B.returns
  have hts := atoms_spec (ws := vX2_wantsOf) B.pre
  have hT : ∀ w ∈ zTB, w.before ([.int a0] : List Value).toArray s = true := fun w h => hts w (List.mem_cons_of_mem _ h)
  have hown : s.vm.findClass RX2 = some m.cls := findClass_of_methodNamed B.named
  have hlocks := B.notSynchronized
  have P0 := hP.2
  have Z : zZ (zYX g) S s s.heap [] := ⟨hP.1, va_S.rf⟩
  have L156 := hT _ mF_X2_156
  have hl := lv_entry ([.int a0] : List Value) (n := 1) (Nat.le_of_ble_eq_true rfl)
  rw [lg_entry_eq]
  generalize (lg_sl ([.int a0] : List Value) ++ List.replicate (1 - (lg_sl ([.int a0] : List Value)).length) Slot.unset).toArray = ls at hl ⊢
  have hl : lv_has ls 1 [(0, .int a0)] := hl
  unfold fX2_wantsOf at h
  refine lv_iload_n hx hb dX2_wantsOf_0 rfl (lv_at hl 0 rfl) ?_
  refine lv_if_lt (tgt := 20) hx hb dX2_wantsOf_1 (by decide) (fun q => ?_) (fun q => ?_)
  · have h := zi_t q h
    refine lv_iconst (v := (nI 0)) hx hb dX2_wantsOf_20 (by decide) ?_
    exact zr_i hY P0 hx hb hr hlocks h Z dX2_wantsOf_21
  · have h := zi_f q h
    refine lv_iload_n hx hb dX2_wantsOf_4 rfl (lv_at hl 0 rfl) ?_
    refine zgs_WANTS hx hb hown P0 Z L156 dX2_wantsOf_5 ?_
    refine zas_WANTS hx hb P0 Z dX2_wantsOf_8 ?_
    refine lv_icmp_ge (tgt := 20) hx hb dX2_wantsOf_9 (by decide) (fun q => ?_) (fun q => ?_)
    · have h := zi_t q h
      refine lv_iconst (v := (nI 0)) hx hb dX2_wantsOf_20 (by decide) ?_
      exact zr_i hY P0 hx hb hr hlocks h Z dX2_wantsOf_21
    · have h := zi_f q h
      refine zgs_WANTS hx hb hown P0 Z L156 dX2_wantsOf_12 ?_
      refine lv_iload_n hx hb dX2_wantsOf_15 rfl (lv_at hl 0 rfl) ?_
      obtain ⟨v1, ev, hin, h⟩ := zld_s h
      refine zls_WANTS hx hb P0 Z ev hin dX2_wantsOf_16 ?_
      refine lv_goto (tgt := 21) hx hb dX2_wantsOf_17 (by decide) ?_
      exact zr_i hY P0 hx hb hr hlocks h Z dX2_wantsOf_21

set_option maxHeartbeats 4000000 in
set_option maxRecDepth 100000 in
theorem kX6_hasAsLowest {g : zG} (l : Launch) (hO : zinjX g) (a1 : Int32) (S : zSt) (r : Int32) (S' : zSt) (h : fX6_hasAsLowest a1 S = some (r, S')) : zMi (zYX g) l yX6_hasAsLowest vX6_hasAsLowest { frames := 1, cells := 0, slots := 0, locals := 21 } ([.ref (zad g 6), .int a1] : List Value) S r S' := by
  have hY := zOkX hO
  refine Met.ofW (cc := cX6_hasAsLowest) (maxL := 3) (ret := (some .boolean)) (by decide) rfl ?_
  intro p e s m args below meth c s₁ B hml hv
  obtain ⟨rfl, hP⟩ := hv
  have hx := B.exec
  have hb := B.bytes
  have hr := B.returns
  have hts := atoms_spec (ws := vX6_hasAsLowest) B.pre
  have hT : ∀ w ∈ zTB, w.before ([.ref (zad g 6), .int a1] : List Value).toArray s = true := fun w h => hts w (List.mem_cons_of_mem _ h)
  have hown : s.vm.findClass RX6 = some m.cls := findClass_of_methodNamed B.named
  have hlocks := B.notSynchronized
  have P0 := hP.2
  have Z : zZ (zYX g) S s s.heap [] := ⟨hP.1, va_S.rf⟩
  have hf : ∀ w ∈ u_ws RX6 TX6 4, w.before ([.ref (zad g 6), .int a1] : List Value).toArray s = true := fun w hw => hT w (mU_X6 w hw)
  have L22 := hT _ mF_X6_22
  have B2 : ∀ (n : Nat) (x1 : Int32) (x2 : Int32) (S : zSt), fX6_hasAsLowest_2L n (x1, x2, S) = some (r, S') → ∀ (H : Heap) (locs : List Loc), zZ (zYX g) S s H locs → ∀ ls : Array Slot, lv_has ls 3 [(0, .ref (zad g 6)), (1, .int x1), (2, .int x2)] → W p l e (headSpec vX6_hasAsLowest { frames := 1, cells := 0, slots := 0, locals := 21 }).room s m ([.ref (zad g 6), .int a1] : List Value).toArray below meth c H locs 0 0 (MQ below (zQi (zYX g) r S') ([.ref (zad g 6), .int a1] : List Value).toArray s 0 0 (zYX g).2.2.1) (F0 m 2 ls []) := by
    intro n
    induction n with
    | zero => intro x1 x2 S h; exact absurd h (fun h => nomatch h)
    | succ n K2 =>
      intro x1 x2 S h H locs Z ls hl
      have h : fX6_hasAsLowest_2 (fX6_hasAsLowest_2L n) x1 x2 S = some (r, S') := h
      unfold fX6_hasAsLowest_2 at h
      refine lv_iload_n hx hb dX6_hasAsLowest_2 rfl (lv_at hl 2 rfl) ?_
      refine lv_aload_n hx hb dX6_hasAsLowest_3 rfl (lv_at hl 0 rfl) ?_
      refine zgX6_3 (v := (zI S 20)) hx hb hf hown P0 Z L22 rfl dX6_hasAsLowest_4 ?_
      refine lv_icmp_gt (tgt := 31) hx hb dX6_hasAsLowest_7 (by decide) (fun q => ?_) (fun q => ?_)
      · have h := zi_t q h
        refine lv_iconst (v := (nI 0)) hx hb dX6_hasAsLowest_31 (by decide) ?_
        exact zr_z hY P0 hx hb hr hlocks (by decide) h Z dX6_hasAsLowest_32
      · have h := zi_f q h
        refine lv_aload_n hx hb dX6_hasAsLowest_10 rfl (lv_at hl 0 rfl) ?_
        refine lv_aload_n hx hb dX6_hasAsLowest_11 rfl (lv_at hl 0 rfl) ?_
        refine lv_iload_n hx hb dX6_hasAsLowest_12 rfl (lv_at hl 2 rfl) ?_
        obtain ⟨r1, S2, ec, h⟩ := zbd_s h
        refine zc_Vi hY P0 ⟨hx, hb, hml, hown, hT⟩ (As := [.int x2]) (rest := [.ref (zad g 6)]) (kX6_beginOf l hO x2 S r1 S2 ec) (cwV 1 hT (zgV mL_X6_29 mI_X6_beginOf mS_X6_beginOf mN_X6 mC_X6_beginOf) rfl rfl rfl hdnX6_beginOf ⟨Nat.le_of_ble_eq_true rfl, Nat.le_of_ble_eq_true rfl⟩) (zrecX_6 P0 Z) Z rfl hl.1 rfl (Nat.le_of_ble_eq_true rfl) dX6_hasAsLowest_13 (fun H locs Z => ?_)
        obtain ⟨r3, S4, ec, h⟩ := zbd_s h
        refine zc_Vi hY P0 ⟨hx, hb, hml, hown, hT⟩ (As := [.int r1]) (rest := []) (kX6_at l hO r1 S2 r3 S4 ec) (cwV 1 hT (zgV mL_X6_37 mI_X6_at mS_X6_at mN_X6 mC_X6_at) rfl rfl rfl hdnX6_at ⟨Nat.le_of_ble_eq_true rfl, Nat.le_of_ble_eq_true rfl⟩) (zrecX_6 P0 Z) Z rfl hl.1 rfl (Nat.le_of_ble_eq_true rfl) dX6_hasAsLowest_16 (fun H locs Z => ?_)
        refine lv_iload_n hx hb dX6_hasAsLowest_19 rfl (lv_at hl 1 rfl) ?_
        refine lv_icmp_ne (tgt := 25) hx hb dX6_hasAsLowest_20 (by decide) (fun q => ?_) (fun q => ?_)
        · have h := zi_f q h
          refine lv_iinc (v := (x2 + (nI 1))) (lv' := [(2, .int (x2 + (nI 1))), (0, .ref (zad g 6)), (1, .int x1)]) hx hb dX6_hasAsLowest_25 hl (k := 2) rfl rfl (by decide) rfl (fun ls hl => ?_)
          refine lv_goto (tgt := 2) hx hb dX6_hasAsLowest_28 (by decide) ?_
          exact K2 x1 (x2 + (nI 1)) S4 h _ _ Z ls (lv_sub hl [1, 2, 0] rfl)
        · have h := zi_t q h
          refine lv_iconst (v := (nI 1)) hx hb dX6_hasAsLowest_23 (by decide) ?_
          exact zr_z hY P0 hx hb hr hlocks (by decide) h Z dX6_hasAsLowest_24
  have hl := lv_entry ([.ref (zad g 6), .int a1] : List Value) (n := 3) (Nat.le_of_ble_eq_true rfl)
  rw [lg_entry_eq]
  generalize (lg_sl ([.ref (zad g 6), .int a1] : List Value) ++ List.replicate (3 - (lg_sl ([.ref (zad g 6), .int a1] : List Value)).length) Slot.unset).toArray = ls at hl ⊢
  have hl : lv_has ls 3 [(0, .ref (zad g 6)), (1, .int a1)] := hl
  unfold fX6_hasAsLowest at h
  refine lv_iconst (v := (nI 0)) hx hb dX6_hasAsLowest_0 (by decide) ?_
  refine lv_istore_n (lv' := [(2, .int (nI 0)), (0, .ref (zad g 6)), (1, .int a1)]) hx hb dX6_hasAsLowest_1 rfl hl (by decide) rfl (fun ls hl => ?_)
  exact B2 zFU a1 (nI 0) S h _ _ Z ls (lv_sub hl [1, 2, 0] rfl)

set_option maxHeartbeats 4000000 in
set_option maxRecDepth 100000 in
theorem kX2_lookAtThings {g : zG} (l : Launch) (hO : zinjX g) (a1 : Int32) (S : zSt) (r : Int32) (S' : zSt) (h : fX2_lookAtThings a1 S = some (r, S')) : zMi (zYX g) l yX2_lookAtThings vX2_lookAtThings { frames := 4, cells := 0, slots := 0, locals := 83 } ([.ref (zad g 7), .int a1] : List Value) S r S' := by
  have hY := zOkX hO
  refine Met.ofW (cc := cX2_lookAtThings) (maxL := 5) (ret := (some .int)) (by decide) rfl ?_
  intro p e s m args below meth c s₁ B hml hv
  obtain ⟨rfl, hP⟩ := hv
  have hx := B.exec
  have hb := B.bytes
  have hr := B.returns
  have hts := atoms_spec (ws := vX2_lookAtThings) B.pre
  have hT : ∀ w ∈ zTB, w.before ([.ref (zad g 7), .int a1] : List Value).toArray s = true := fun w h => hts w (List.mem_cons_of_mem _ h)
  have hown : s.vm.findClass RX2 = some m.cls := findClass_of_methodNamed B.named
  have hlocks := B.notSynchronized
  have P0 := hP.2
  have Z : zZ (zYX g) S s s.heap [] := ⟨hP.1, va_S.rf⟩
  have hf : ∀ w ∈ u_ws RX2 TX2 11, w.before ([.ref (zad g 7), .int a1] : List Value).toArray s = true := fun w hw => hT w (mU_X2 w hw)
  have L38 := hT _ mF_X2_38
  have L31 := hT _ mF_X2_31
  have L28 := hT _ mF_X2_28
  have L25 := hT _ mF_X2_25
  have L42 := hT _ mF_X2_42
  have B7 : ∀ (n : Nat) (x1 : Int32) (x2 : Int32) (x3 : Int32) (S : zSt), fX2_lookAtThings_7L n (x1, x2, x3, S) = some (r, S') → ∀ (H : Heap) (locs : List Loc), zZ (zYX g) S s H locs → ∀ ls : Array Slot, lv_has ls 5 [(0, .ref (zad g 7)), (1, .int x1), (2, .int x2), (3, .int x3)] → W p l e (headSpec vX2_lookAtThings { frames := 4, cells := 0, slots := 0, locals := 83 }).room s m ([.ref (zad g 7), .int a1] : List Value).toArray below meth c H locs 0 0 (MQ below (zQi (zYX g) r S') ([.ref (zad g 7), .int a1] : List Value).toArray s 0 0 (zYX g).2.2.1) (F0 m 7 ls []) := by
    intro n
    induction n with
    | zero => intro x1 x2 x3 S h; exact absurd h (fun h => nomatch h)
    | succ n K7 =>
      intro x1 x2 x3 S h H locs Z ls hl
      have h : fX2_lookAtThings_7 (fX2_lookAtThings_7L n) x1 x2 x3 S = some (r, S') := h
      unfold fX2_lookAtThings_7 at h
      refine lv_iload_n hx hb dX2_lookAtThings_7 rfl (lv_at hl 3 rfl) ?_
      refine lv_iload_n hx hb dX2_lookAtThings_8 rfl (lv_at hl 2 rfl) ?_
      refine lv_icmp_gt (tgt := 123) hx hb dX2_lookAtThings_9 (by decide) (fun q => ?_) (fun q => ?_)
      · have h := zi_t q h
        refine lv_aload_n hx hb dX2_lookAtThings_123 rfl (lv_at hl 0 rfl) ?_
        refine lv_iload_n hx hb dX2_lookAtThings_124 rfl (lv_at hl 1 rfl) ?_
        obtain ⟨r3, S4, ec, h⟩ := zbd_s h
        refine zc_Vi hY P0 ⟨hx, hb, hml, hown, hT⟩ (As := [.int x1]) (rest := []) (kX2_lookAtValues l hO x1 S r3 S4 ec) (cwV 1 hT (zgV mL_X2_144 mI_X2_lookAtValues mS_X2_lookAtValues mN_X2 mC_X2_lookAtValues) rfl rfl rfl hdnX2_lookAtValues ⟨Nat.le_of_ble_eq_true rfl, Nat.le_of_ble_eq_true rfl⟩) (zrecX_7 P0 Z) Z rfl hl.1 rfl (Nat.le_of_ble_eq_true rfl) dX2_lookAtThings_125 (fun H locs Z => ?_)
        exact zr_i hY P0 hx hb hr hlocks h Z dX2_lookAtThings_128
      · have h := zi_f q h
        refine lv_aload_n hx hb dX2_lookAtThings_12 rfl (lv_at hl 0 rfl) ?_
        refine zgX2_1 hx hb hf hown P0 Z L38 dX2_lookAtThings_13 ?_
        refine lv_aload_n hx hb dX2_lookAtThings_16 rfl (lv_at hl 0 rfl) ?_
        refine lv_iload_n hx hb dX2_lookAtThings_17 rfl (lv_at hl 3 rfl) ?_
        obtain ⟨r5, S6, ec, h⟩ := zbd_s h
        refine zc_Vi hY P0 ⟨hx, hb, hml, hown, hT⟩ (As := [.int x3]) (rest := [.ref (zad g 5)]) (kX2_secondBelow l hO x3 S r5 S6 ec) (cwV 1 hT (zgV mL_X2_128 mI_X2_secondBelow mS_X2_secondBelow mN_X2 mC_X2_secondBelow) rfl rfl rfl hdnX2_secondBelow ⟨Nat.le_of_ble_eq_true rfl, Nat.le_of_ble_eq_true rfl⟩) (zrecX_7 P0 Z) Z rfl hl.1 rfl (Nat.le_of_ble_eq_true rfl) dX2_lookAtThings_18 (fun H locs Z => ?_)
        obtain ⟨r7, S8, ec, h⟩ := zbd_s h
        refine zc_Vi hY P0 ⟨hx, hb, hml, hown, hT⟩ (As := [.int r5]) (rest := []) (kX0_followed l hO r5 S6 r7 S8 ec) (cwV 1 hT (zgV mL_X2_131 mI_X0_followed mS_X0_followed mN_X0 mC_X0_followed) rfl rfl rfl hdnX0_followed ⟨Nat.le_of_ble_eq_true rfl, Nat.le_of_ble_eq_true rfl⟩) (zrecX_5 P0 Z) Z rfl hl.1 rfl (Nat.le_of_ble_eq_true rfl) dX2_lookAtThings_21 (fun H locs Z => ?_)
        refine lv_istore (lv' := [(4, .int r7), (0, .ref (zad g 7)), (1, .int x1), (2, .int x2), (3, .int x3)]) hx hb dX2_lookAtThings_24 hl (by decide) rfl (fun ls hl => ?_)
        refine lv_iload hx hb dX2_lookAtThings_26 (lv_at hl 0 rfl) ?_
        refine lv_iconst (v := (-1 : Int32)) hx hb dX2_lookAtThings_28 (by decide) ?_
        refine lv_icmp_ne (tgt := 38) hx hb dX2_lookAtThings_29 (by decide) (fun q => ?_) (fun q => ?_)
        · have h := zi_f q h
          refine lv_aload_n hx hb dX2_lookAtThings_38 rfl (lv_at hl 1 rfl) ?_
          refine lv_iload hx hb dX2_lookAtThings_39 (lv_at hl 0 rfl) ?_
          obtain ⟨r9, S10, ec, h⟩ := zbd_s h
          refine zc_Vi hY P0 ⟨hx, hb, hml, hown, hT⟩ (As := [.int r7]) (rest := []) (kX2_isValue l hO r7 S8 r9 S10 ec) (cwV 1 hT (zgV mL_X2_134 mI_X2_isValue mS_X2_isValue mN_X2 mC_X2_isValue) rfl rfl rfl hdnX2_isValue ⟨Nat.le_of_ble_eq_true rfl, Nat.le_of_ble_eq_true rfl⟩) (zrecX_7 P0 Z) Z rfl hl.1 rfl (Nat.le_of_ble_eq_true rfl) dX2_lookAtThings_41 (fun H locs Z => ?_)
          refine lv_if_ne (tgt := 75) hx hb dX2_lookAtThings_44 (by decide) (fun q => ?_) (fun q => ?_)
          · have h := zi_f q h
            refine lv_iload_n hx hb dX2_lookAtThings_75 rfl (lv_at hl 2 rfl) ?_
            refine lv_aload_n hx hb dX2_lookAtThings_76 rfl (lv_at hl 1 rfl) ?_
            refine zgX2_1 hx hb hf hown P0 Z L38 dX2_lookAtThings_77 ?_
            refine lv_iload hx hb dX2_lookAtThings_80 (lv_at hl 0 rfl) ?_
            obtain ⟨r11, S12, ec, h⟩ := zbd_s h
            refine zc_Vi hY P0 ⟨hx, hb, hml, hown, hT⟩ (As := [.int r7]) (rest := [.int x1]) (kX0_kindOf l hO r7 S10 r11 S12 ec) (cwV 1 hT (zgV mL_X2_88 mI_X0_kindOf mS_X0_kindOf mN_X0 mC_X0_kindOf) rfl rfl rfl hdnX0_kindOf ⟨Nat.le_of_ble_eq_true rfl, Nat.le_of_ble_eq_true rfl⟩) (zrecX_5 P0 Z) Z rfl hl.1 rfl (Nat.le_of_ble_eq_true rfl) dX2_lookAtThings_82 (fun H locs Z => ?_)
            obtain ⟨r13, S14, ec, h⟩ := zbd_s h
            refine zc_Si hY P0 ⟨hx, hb, hml, hown, hT⟩ (As := [.int x1, .int r11]) (rest := []) (kX2_isOfSort l hO x1 r11 S12 r13 S14 ec) (va_cwS 2 hT (zgS mL_X2_140 mT_X2_isOfSort mN_X2 mC_X2_isOfSort) rfl rfl rfl hdnX2_isOfSort ⟨Nat.le_of_ble_eq_true rfl, Nat.le_of_ble_eq_true rfl⟩) Z rfl hl.1 rfl (Nat.le_of_ble_eq_true rfl) dX2_lookAtThings_85 (fun H locs Z => ?_)
            refine lv_if_ne (tgt := 97) hx hb dX2_lookAtThings_88 (by decide) (fun q => ?_) (fun q => ?_)
            · have h := zi_f q h
              refine lv_iload_n hx hb dX2_lookAtThings_97 rfl (lv_at hl 4 rfl) ?_
              refine lv_iconst (v := (nI 1)) hx hb dX2_lookAtThings_98 (by decide) ?_
              refine lv_icmp_ne (tgt := 111) hx hb dX2_lookAtThings_99 (by decide) (fun q => ?_) (fun q => ?_)
              · have h := zi_f q h
                refine lv_aload_n hx hb dX2_lookAtThings_111 rfl (lv_at hl 1 rfl) ?_
                refine lv_iload hx hb dX2_lookAtThings_112 (lv_at hl 0 rfl) ?_
                refine zpX2_10 hO hx hb hf hown P0 Z L31 dX2_lookAtThings_114 (fun H locs Z => ?_)
                refine lv_iinc (v := (x3 + (nI 1))) (lv' := [(3, .int (x3 + (nI 1))), (4, .int r7), (0, .ref (zad g 7)), (1, .int x1), (2, .int x2)]) hx hb dX2_lookAtThings_117 hl (k := 4) rfl rfl (by decide) rfl (fun ls hl => ?_)
                refine lv_goto (tgt := 7) hx hb dX2_lookAtThings_120 (by decide) ?_
                exact K7 x1 x2 (x3 + (nI 1)) (wI S14 25 r7) h _ _ Z ls (lv_sub hl [2, 3, 4, 0] rfl)
              · have h := zi_t q h
                refine lv_aload_n hx hb dX2_lookAtThings_102 rfl (lv_at hl 1 rfl) ?_
                refine lv_iload hx hb dX2_lookAtThings_103 (lv_at hl 0 rfl) ?_
                refine zpX2_9 hO hx hb hf hown P0 Z L28 dX2_lookAtThings_105 (fun H locs Z => ?_)
                refine lv_goto (tgt := 117) hx hb dX2_lookAtThings_108 (by decide) ?_
                refine lv_iinc (v := (x3 + (nI 1))) (lv' := [(3, .int (x3 + (nI 1))), (4, .int r7), (0, .ref (zad g 7)), (1, .int x1), (2, .int x2)]) hx hb dX2_lookAtThings_117 hl (k := 4) rfl rfl (by decide) rfl (fun ls hl => ?_)
                refine lv_goto (tgt := 7) hx hb dX2_lookAtThings_120 (by decide) ?_
                exact K7 x1 x2 (x3 + (nI 1)) (wI S14 24 r7) h _ _ Z ls (lv_sub hl [2, 3, 4, 0] rfl)
            · have h := zi_t q h
              refine lv_aload_n hx hb dX2_lookAtThings_91 rfl (lv_at hl 1 rfl) ?_
              refine lv_iconst (v := (nI 2)) hx hb dX2_lookAtThings_92 (by decide) ?_
              obtain ⟨r15, S16, ec, h⟩ := zbd_s h
              refine zc_Vi hY P0 ⟨hx, hb, hml, hown, hT⟩ (As := [.int (nI 2)]) (rest := []) (kX2_failing l hO (nI 2) S14 r15 S16 ec) (cwV 1 hT (zgV mL_X2_119 mI_X2_failing mS_X2_failing mN_X2 mC_X2_failing) rfl rfl rfl hdnX2_failing ⟨Nat.le_of_ble_eq_true rfl, Nat.le_of_ble_eq_true rfl⟩) (zrecX_7 P0 Z) Z rfl hl.1 rfl (Nat.le_of_ble_eq_true rfl) dX2_lookAtThings_93 (fun H locs Z => ?_)
              exact zr_i hY P0 hx hb hr hlocks h Z dX2_lookAtThings_96
          · have h := zi_t q h
            refine lv_aload_n hx hb dX2_lookAtThings_47 rfl (lv_at hl 1 rfl) ?_
            refine lv_iload hx hb dX2_lookAtThings_48 (lv_at hl 0 rfl) ?_
            refine zpX2_8 hO hx hb hf hown P0 Z L25 dX2_lookAtThings_50 (fun H locs Z => ?_)
            refine lv_aload_n hx hb dX2_lookAtThings_53 rfl (lv_at hl 1 rfl) ?_
            refine zgX2_2 hx hb hf hown P0 Z L42 dX2_lookAtThings_54 ?_
            refine lv_iload hx hb dX2_lookAtThings_57 (lv_at hl 0 rfl) ?_
            obtain ⟨r17, S18, ec, h⟩ := zbd_s h
            refine zc_Vi hY P0 ⟨hx, hb, hml, hown, hT⟩ (As := [.int r7]) (rest := []) (kX6_hasAsLowest l hO r7 (wI S10 23 r7) r17 S18 ec) (cwV 1 hT (zgV mL_X2_137 mI_X6_hasAsLowest mS_X6_hasAsLowest mN_X6 mC_X6_hasAsLowest) rfl rfl rfl hdnX6_hasAsLowest ⟨Nat.le_of_ble_eq_true rfl, Nat.le_of_ble_eq_true rfl⟩) (zrecX_6 P0 Z) Z rfl hl.1 rfl (Nat.le_of_ble_eq_true rfl) dX2_lookAtThings_59 (fun H locs Z => ?_)
            refine lv_if_eq (tgt := 73) hx hb dX2_lookAtThings_62 (by decide) (fun q => ?_) (fun q => ?_)
            · have h := zi_t q h
              refine lv_iconst (v := (nI 3)) hx hb dX2_lookAtThings_73 (by decide) ?_
              exact zr_i hY P0 hx hb hr hlocks h Z dX2_lookAtThings_74
            · have h := zi_f q h
              refine lv_aload_n hx hb dX2_lookAtThings_65 rfl (lv_at hl 1 rfl) ?_
              refine lv_iconst (v := (nI 5)) hx hb dX2_lookAtThings_66 (by decide) ?_
              obtain ⟨r19, S20, ec, h⟩ := zbd_s h
              refine zc_Vi hY P0 ⟨hx, hb, hml, hown, hT⟩ (As := [.int (nI 5)]) (rest := []) (kX2_failing l hO (nI 5) S18 r19 S20 ec) (cwV 1 hT (zgV mL_X2_119 mI_X2_failing mS_X2_failing mN_X2 mC_X2_failing) rfl rfl rfl hdnX2_failing ⟨Nat.le_of_ble_eq_true rfl, Nat.le_of_ble_eq_true rfl⟩) (zrecX_7 P0 Z) Z rfl hl.1 rfl (Nat.le_of_ble_eq_true rfl) dX2_lookAtThings_67 (fun H locs Z => ?_)
              refine lv_goto (tgt := 74) hx hb dX2_lookAtThings_70 (by decide) ?_
              exact zr_i hY P0 hx hb hr hlocks h Z dX2_lookAtThings_74
        · have h := zi_t q h
          refine lv_aload_n hx hb dX2_lookAtThings_32 rfl (lv_at hl 1 rfl) ?_
          refine lv_iconst (v := (nI 5)) hx hb dX2_lookAtThings_33 (by decide) ?_
          obtain ⟨r21, S22, ec, h⟩ := zbd_s h
          refine zc_Vi hY P0 ⟨hx, hb, hml, hown, hT⟩ (As := [.int (nI 5)]) (rest := []) (kX2_failing l hO (nI 5) S8 r21 S22 ec) (cwV 1 hT (zgV mL_X2_119 mI_X2_failing mS_X2_failing mN_X2 mC_X2_failing) rfl rfl rfl hdnX2_failing ⟨Nat.le_of_ble_eq_true rfl, Nat.le_of_ble_eq_true rfl⟩) (zrecX_7 P0 Z) Z rfl hl.1 rfl (Nat.le_of_ble_eq_true rfl) dX2_lookAtThings_34 (fun H locs Z => ?_)
          exact zr_i hY P0 hx hb hr hlocks h Z dX2_lookAtThings_37
  have hl := lv_entry ([.ref (zad g 7), .int a1] : List Value) (n := 5) (Nat.le_of_ble_eq_true rfl)
  rw [lg_entry_eq]
  generalize (lg_sl ([.ref (zad g 7), .int a1] : List Value) ++ List.replicate (5 - (lg_sl ([.ref (zad g 7), .int a1] : List Value)).length) Slot.unset).toArray = ls at hl ⊢
  have hl : lv_has ls 5 [(0, .ref (zad g 7)), (1, .int a1)] := hl
  unfold fX2_lookAtThings at h
  refine lv_iload_n hx hb dX2_lookAtThings_0 rfl (lv_at hl 1 rfl) ?_
  obtain ⟨r1, S2, ec, h⟩ := zbd_s h
  refine zc_Si hY P0 ⟨hx, hb, hml, hown, hT⟩ (As := [.int a1]) (rest := []) (kX2_wantsOf l hO a1 S r1 S2 ec) (va_cwS 1 hT (zgS mL_X2_125 mT_X2_wantsOf mN_X2 mC_X2_wantsOf) rfl rfl rfl hdnX2_wantsOf ⟨Nat.le_of_ble_eq_true rfl, Nat.le_of_ble_eq_true rfl⟩) Z rfl hl.1 rfl (Nat.le_of_ble_eq_true rfl) dX2_lookAtThings_1 (fun H locs Z => ?_)
  refine lv_istore_n (lv' := [(2, .int r1), (0, .ref (zad g 7)), (1, .int a1)]) hx hb dX2_lookAtThings_4 rfl hl (by decide) rfl (fun ls hl => ?_)
  refine lv_iconst (v := (nI 1)) hx hb dX2_lookAtThings_5 (by decide) ?_
  refine lv_istore_n (lv' := [(3, .int (nI 1)), (2, .int r1), (0, .ref (zad g 7)), (1, .int a1)]) hx hb dX2_lookAtThings_6 rfl hl (by decide) rfl (fun ls hl => ?_)
  exact B7 zFU a1 r1 (nI 1) S2 h _ _ Z ls (lv_sub hl [2, 3, 1, 0] rfl)

set_option maxHeartbeats 4000000 in
set_option maxRecDepth 100000 in
theorem kX6_dumped {g : zG} (l : Launch) (hO : zinjX g) (S : zSt) (r : Int32) (S' : zSt) (h : fX6_dumped S = some (r, S')) : zMi (zYX g) l yX6_dumped vX6_dumped { frames := 0, cells := 0, slots := 0, locals := 0 } ([.ref (zad g 6)] : List Value) S r S' := by
  have hY := zOkX hO
  refine Met.ofW (cc := cX6_dumped) (maxL := 1) (ret := (some .int)) (by decide) rfl ?_
  intro p e s m args below meth c s₁ B hml hv
  obtain ⟨rfl, hP⟩ := hv
  have hx := B.exec
  have hb := B.bytes
  have hr := B.returns
  have hts := atoms_spec (ws := vX6_dumped) B.pre
  have hT : ∀ w ∈ zTB, w.before ([.ref (zad g 6)] : List Value).toArray s = true := fun w h => hts w (List.mem_cons_of_mem _ h)
  have hown : s.vm.findClass RX6 = some m.cls := findClass_of_methodNamed B.named
  have hlocks := B.notSynchronized
  have P0 := hP.2
  have Z : zZ (zYX g) S s s.heap [] := ⟨hP.1, va_S.rf⟩
  have hf : ∀ w ∈ u_ws RX6 TX6 4, w.before ([.ref (zad g 6)] : List Value).toArray s = true := fun w hw => hT w (mU_X6 w hw)
  have L22 := hT _ mF_X6_22
  have hl := lv_entry ([.ref (zad g 6)] : List Value) (n := 1) (Nat.le_of_ble_eq_true rfl)
  rw [lg_entry_eq]
  generalize (lg_sl ([.ref (zad g 6)] : List Value) ++ List.replicate (1 - (lg_sl ([.ref (zad g 6)] : List Value)).length) Slot.unset).toArray = ls at hl ⊢
  have hl : lv_has ls 1 [(0, .ref (zad g 6))] := hl
  unfold fX6_dumped at h
  refine lv_aload_n hx hb dX6_dumped_0 rfl (lv_at hl 0 rfl) ?_
  refine zgX6_3 (v := (zI S 20)) hx hb hf hown P0 Z L22 rfl dX6_dumped_1 ?_
  exact zr_i hY P0 hx hb hr hlocks h Z dX6_dumped_4

set_option maxHeartbeats 4000000 in
set_option maxRecDepth 100000 in
theorem kX2_valueOnTop {g : zG} (l : Launch) (hO : zinjX g) (S : zSt) (r : Int32) (S' : zSt) (h : fX2_valueOnTop S = some (r, S')) : zMi (zYX g) l yX2_valueOnTop vX2_valueOnTop { frames := 1, cells := 0, slots := 0, locals := 20 } ([.ref (zad g 7)] : List Value) S r S' := by
  have hY := zOkX hO
  refine Met.ofW (cc := cX2_valueOnTop) (maxL := 1) (ret := (some .int)) (by decide) rfl ?_
  intro p e s m args below meth c s₁ B hml hv
  obtain ⟨rfl, hP⟩ := hv
  have hx := B.exec
  have hb := B.bytes
  have hr := B.returns
  have hts := atoms_spec (ws := vX2_valueOnTop) B.pre
  have hT : ∀ w ∈ zTB, w.before ([.ref (zad g 7)] : List Value).toArray s = true := fun w h => hts w (List.mem_cons_of_mem _ h)
  have hown : s.vm.findClass RX2 = some m.cls := findClass_of_methodNamed B.named
  have hlocks := B.notSynchronized
  have P0 := hP.2
  have Z : zZ (zYX g) S s s.heap [] := ⟨hP.1, va_S.rf⟩
  have hf : ∀ w ∈ u_ws RX2 TX2 11, w.before ([.ref (zad g 7)] : List Value).toArray s = true := fun w hw => hT w (mU_X2 w hw)
  have L42 := hT _ mF_X2_42
  have hl := lv_entry ([.ref (zad g 7)] : List Value) (n := 1) (Nat.le_of_ble_eq_true rfl)
  rw [lg_entry_eq]
  generalize (lg_sl ([.ref (zad g 7)] : List Value) ++ List.replicate (1 - (lg_sl ([.ref (zad g 7)] : List Value)).length) Slot.unset).toArray = ls at hl ⊢
  have hl : lv_has ls 1 [(0, .ref (zad g 7))] := hl
  unfold fX2_valueOnTop at h
  refine lv_aload_n hx hb dX2_valueOnTop_0 rfl (lv_at hl 0 rfl) ?_
  refine zgX2_2 hx hb hf hown P0 Z L42 dX2_valueOnTop_1 ?_
  obtain ⟨r1, S2, ec, h⟩ := zbd_s h
  refine zc_Vi hY P0 ⟨hx, hb, hml, hown, hT⟩ (As := []) (rest := []) (kX6_dumped l hO  S r1 S2 ec) (cwV 0 hT (zgV mL_X2_122 mI_X6_dumped mS_X6_dumped mN_X6 mC_X6_dumped) rfl rfl rfl hdnX6_dumped ⟨Nat.le_of_ble_eq_true rfl, Nat.le_of_ble_eq_true rfl⟩) (zrecX_6 P0 Z) Z rfl hl.1 rfl (Nat.le_of_ble_eq_true rfl) dX2_valueOnTop_4 (fun H locs Z => ?_)
  refine lv_if_le (tgt := 14) hx hb dX2_valueOnTop_7 (by decide) (fun q => ?_) (fun q => ?_)
  · have h := zi_t q h
    refine lv_bipush (v := (nI 6)) hx hb dX2_valueOnTop_14 (by decide) ?_
    exact zr_i hY P0 hx hb hr hlocks h Z dX2_valueOnTop_16
  · have h := zi_f q h
    refine lv_iconst (v := (nI 5)) hx hb dX2_valueOnTop_10 (by decide) ?_
    refine lv_goto (tgt := 16) hx hb dX2_valueOnTop_11 (by decide) ?_
    exact zr_i hY P0 hx hb hr hlocks h Z dX2_valueOnTop_16

set_option maxHeartbeats 4000000 in
set_option maxRecDepth 100000 in
theorem kX2_look {g : zG} (l : Launch) (hO : zinjX g) (S : zSt) (r : Int32) (S' : zSt) (h : fX2_look S = some (r, S')) : zMi (zYX g) l yX2_look vX2_look { frames := 5, cells := 0, slots := 0, locals := 107 } ([.ref (zad g 7)] : List Value) S r S' := by
  have hY := zOkX hO
  refine Met.ofW (cc := cX2_look) (maxL := 4) (ret := (some .int)) (by decide) rfl ?_
  intro p e s m args below meth c s₁ B hml hv
  obtain ⟨rfl, hP⟩ := hv
  have hx := B.exec
  have hb := B.bytes
  have hr := B.returns
  have hts := atoms_spec (ws := vX2_look) B.pre
  have hT : ∀ w ∈ zTB, w.before ([.ref (zad g 7)] : List Value).toArray s = true := fun w h => hts w (List.mem_cons_of_mem _ h)
  have hown : s.vm.findClass RX2 = some m.cls := findClass_of_methodNamed B.named
  have hlocks := B.notSynchronized
  have P0 := hP.2
  have Z : zZ (zYX g) S s s.heap [] := ⟨hP.1, va_S.rf⟩
  have hf : ∀ w ∈ u_ws RX2 TX2 11, w.before ([.ref (zad g 7)] : List Value).toArray s = true := fun w hw => hT w (mU_X2 w hw)
  have L22 := hT _ mF_X2_22
  have L42 := hT _ mF_X2_42
  have L38 := hT _ mF_X2_38
  have L34 := hT _ mF_X2_34
  have hl := lv_entry ([.ref (zad g 7)] : List Value) (n := 4) (Nat.le_of_ble_eq_true rfl)
  rw [lg_entry_eq]
  generalize (lg_sl ([.ref (zad g 7)] : List Value) ++ List.replicate (4 - (lg_sl ([.ref (zad g 7)] : List Value)).length) Slot.unset).toArray = ls at hl ⊢
  have hl : lv_has ls 4 [(0, .ref (zad g 7))] := hl
  unfold fX2_look at h
  refine lv_aload_n hx hb dX2_look_0 rfl (lv_at hl 0 rfl) ?_
  refine lv_iconst (v := (nI 0)) hx hb dX2_look_1 (by decide) ?_
  refine zpX2_7 hO hx hb hf hown P0 Z L22 dX2_look_2 (fun H locs Z => ?_)
  refine lv_aload_n hx hb dX2_look_5 rfl (lv_at hl 0 rfl) ?_
  refine zgX2_2 hx hb hf hown P0 Z L42 dX2_look_6 ?_
  refine lv_iconst (v := (nI 0)) hx hb dX2_look_9 (by decide) ?_
  obtain ⟨r1, S2, ec, h⟩ := zbd_s h
  refine zc_Vi hY P0 ⟨hx, hb, hml, hown, hT⟩ (As := [.int (nI 0)]) (rest := []) (kX6_fromTop l hO (nI 0) (wI S 22 (nI 0)) r1 S2 ec) (cwV 1 hT (zgV mL_X2_84 mI_X6_fromTop mS_X6_fromTop mN_X6 mC_X6_fromTop) rfl rfl rfl hdnX6_fromTop ⟨Nat.le_of_ble_eq_true rfl, Nat.le_of_ble_eq_true rfl⟩) (zrecX_6 P0 Z) Z rfl hl.1 rfl (Nat.le_of_ble_eq_true rfl) dX2_look_10 (fun H locs Z => ?_)
  refine lv_istore_n (lv' := [(1, .int r1), (0, .ref (zad g 7))]) hx hb dX2_look_13 rfl hl (by decide) rfl (fun ls hl => ?_)
  refine lv_aload_n hx hb dX2_look_14 rfl (lv_at hl 1 rfl) ?_
  refine zgX2_1 hx hb hf hown P0 Z L38 dX2_look_15 ?_
  refine lv_iload_n hx hb dX2_look_18 rfl (lv_at hl 0 rfl) ?_
  obtain ⟨r3, S4, ec, h⟩ := zbd_s h
  refine zc_Vi hY P0 ⟨hx, hb, hml, hown, hT⟩ (As := [.int r1]) (rest := []) (kX0_firstOf l hO r1 S2 r3 S4 ec) (cwV 1 hT (zgV mL_X2_91 mI_X0_firstOf mS_X0_firstOf mN_X0 mC_X0_firstOf) rfl rfl rfl hdnX0_firstOf ⟨Nat.le_of_ble_eq_true rfl, Nat.le_of_ble_eq_true rfl⟩) (zrecX_5 P0 Z) Z rfl hl.1 rfl (Nat.le_of_ble_eq_true rfl) dX2_look_19 (fun H locs Z => ?_)
  refine lv_istore_n (lv' := [(2, .int r3), (1, .int r1), (0, .ref (zad g 7))]) hx hb dX2_look_22 rfl hl (by decide) rfl (fun ls hl => ?_)
  refine lv_aload_n hx hb dX2_look_23 rfl (lv_at hl 2 rfl) ?_
  refine zgX2_2 hx hb hf hown P0 Z L42 dX2_look_24 ?_
  obtain ⟨r5, S6, ec, h⟩ := zbd_s h
  refine zc_Vi hY P0 ⟨hx, hb, hml, hown, hT⟩ (As := []) (rest := []) (kX6_height l hO  S4 r5 S6 ec) (cwV 0 hT (zgV mL_X2_104 mI_X6_height mS_X6_height mN_X6 mC_X6_height) rfl rfl rfl hdnX6_height ⟨Nat.le_of_ble_eq_true rfl, Nat.le_of_ble_eq_true rfl⟩) (zrecX_6 P0 Z) Z rfl hl.1 rfl (Nat.le_of_ble_eq_true rfl) dX2_look_27 (fun H locs Z => ?_)
  refine lv_iconst (v := (nI 1)) hx hb dX2_look_30 (by decide) ?_
  refine lv_isub hx hb dX2_look_31 ?_
  refine lv_istore_n (lv' := [(3, .int (r5 - (nI 1))), (2, .int r3), (1, .int r1), (0, .ref (zad g 7))]) hx hb dX2_look_32 rfl hl (by decide) rfl (fun ls hl => ?_)
  refine lv_aload_n hx hb dX2_look_33 rfl (lv_at hl 3 rfl) ?_
  refine zgX2_1 hx hb hf hown P0 Z L38 dX2_look_34 ?_
  refine lv_iload_n hx hb dX2_look_37 rfl (lv_at hl 2 rfl) ?_
  obtain ⟨r7, S8, ec, h⟩ := zbd_s h
  refine zc_Vi hY P0 ⟨hx, hb, hml, hown, hT⟩ (As := [.int r1]) (rest := []) (kX0_kindOf l hO r1 S6 r7 S8 ec) (cwV 1 hT (zgV mL_X2_88 mI_X0_kindOf mS_X0_kindOf mN_X0 mC_X0_kindOf) rfl rfl rfl hdnX0_kindOf ⟨Nat.le_of_ble_eq_true rfl, Nat.le_of_ble_eq_true rfl⟩) (zrecX_5 P0 Z) Z rfl hl.1 rfl (Nat.le_of_ble_eq_true rfl) dX2_look_38 (fun H locs Z => ?_)
  by_cases q1 : r7 = (nI 1)
  · have h := zi_t q1 h
    refine ztbl (off := 41) (tgt := 82) hx hb q1 dX2_look_41 (by decide) (by decide) (by decide) (by decide) ?_
    refine lv_iconst (v := (nI 1)) hx hb dX2_look_82 (by decide) ?_
    exact zr_i hY P0 hx hb hr hlocks h Z dX2_look_83
  have h := zi_f q1 h
  by_cases q2 : r7 = (nI 2)
  · have h := zi_t q2 h
    refine ztbl (off := 43) (tgt := 84) hx hb q2 dX2_look_41 (by decide) (by decide) (by decide) (by decide) ?_
    refine lv_iload_n hx hb dX2_look_84 rfl (lv_at hl 0 rfl) ?_
    refine lv_aload_n hx hb dX2_look_85 rfl (lv_at hl 3 rfl) ?_
    refine zgX2_0 hx hb hf hown P0 Z L34 dX2_look_86 ?_
    refine lv_iload_n hx hb dX2_look_89 rfl (lv_at hl 1 rfl) ?_
    obtain ⟨r9, S10, ec, h⟩ := zbd_s h
    refine zc_Vi hY P0 ⟨hx, hb, hml, hown, hT⟩ (As := [.int r3]) (rest := [.int (r5 - (nI 1))]) (kX4_parametersOf l hO r3 S8 r9 S10 ec) (cwV 1 hT (zgV mL_X2_107 mI_X4_parametersOf mS_X4_parametersOf mN_X4 mC_X4_parametersOf) rfl rfl rfl hdnX4_parametersOf ⟨Nat.le_of_ble_eq_true rfl, Nat.le_of_ble_eq_true rfl⟩) (zrecX_2 P0 Z) Z rfl hl.1 rfl (Nat.le_of_ble_eq_true rfl) dX2_look_90 (fun H locs Z => ?_)
    refine lv_icmp_lt (tgt := 100) hx hb dX2_look_93 (by decide) (fun q => ?_) (fun q => ?_)
    · have h := zi_t q h
      refine lv_aload_n hx hb dX2_look_100 rfl (lv_at hl 3 rfl) ?_
      obtain ⟨r11, S12, ec, h⟩ := zbd_s h
      refine zc_Vi hY P0 ⟨hx, hb, hml, hown, hT⟩ (As := []) (rest := []) (kX2_valueOnTop l hO  S10 r11 S12 ec) (cwV 0 hT (zgV mL_X2_110 mI_X2_valueOnTop mS_X2_valueOnTop mN_X2 mC_X2_valueOnTop) rfl rfl rfl hdnX2_valueOnTop ⟨Nat.le_of_ble_eq_true rfl, Nat.le_of_ble_eq_true rfl⟩) (zrecX_7 P0 Z) Z rfl hl.1 rfl (Nat.le_of_ble_eq_true rfl) dX2_look_101 (fun H locs Z => ?_)
      exact zr_i hY P0 hx hb hr hlocks h Z dX2_look_104
    · have h := zi_f q h
      refine lv_iconst (v := (nI 2)) hx hb dX2_look_96 (by decide) ?_
      refine lv_goto (tgt := 104) hx hb dX2_look_97 (by decide) ?_
      exact zr_i hY P0 hx hb hr hlocks h Z dX2_look_104
  have h := zi_f q2 h
  by_cases q3 : r7 = (nI 3)
  · have h := zi_t q3 h
    refine ztbl (off := 64) (tgt := 105) hx hb q3 dX2_look_41 (by decide) (by decide) (by decide) (by decide) ?_
    refine lv_iload_n hx hb dX2_look_105 rfl (lv_at hl 0 rfl) ?_
    refine lv_iload_n hx hb dX2_look_106 rfl (lv_at hl 1 rfl) ?_
    obtain ⟨r13, S14, ec, h⟩ := zbd_s h
    refine zc_Si hY P0 ⟨hx, hb, hml, hown, hT⟩ (As := [.int r3]) (rest := [.int (r5 - (nI 1))]) (kX2_needsOf l hO r3 S8 r13 S14 ec) (va_cwS 1 hT (zgS mL_X2_113 mT_X2_needsOf mN_X2 mC_X2_needsOf) rfl rfl rfl hdnX2_needsOf ⟨Nat.le_of_ble_eq_true rfl, Nat.le_of_ble_eq_true rfl⟩) Z rfl hl.1 rfl (Nat.le_of_ble_eq_true rfl) dX2_look_107 (fun H locs Z => ?_)
    refine lv_icmp_lt (tgt := 121) hx hb dX2_look_110 (by decide) (fun q => ?_) (fun q => ?_)
    · have h := zi_t q h
      refine lv_aload_n hx hb dX2_look_121 rfl (lv_at hl 3 rfl) ?_
      obtain ⟨r15, S16, ec, h⟩ := zbd_s h
      refine zc_Vi hY P0 ⟨hx, hb, hml, hown, hT⟩ (As := []) (rest := []) (kX2_valueOnTop l hO  S14 r15 S16 ec) (cwV 0 hT (zgV mL_X2_110 mI_X2_valueOnTop mS_X2_valueOnTop mN_X2 mC_X2_valueOnTop) rfl rfl rfl hdnX2_valueOnTop ⟨Nat.le_of_ble_eq_true rfl, Nat.le_of_ble_eq_true rfl⟩) (zrecX_7 P0 Z) Z rfl hl.1 rfl (Nat.le_of_ble_eq_true rfl) dX2_look_122 (fun H locs Z => ?_)
      exact zr_i hY P0 hx hb hr hlocks h Z dX2_look_125
    · have h := zi_f q h
      refine lv_aload_n hx hb dX2_look_113 rfl (lv_at hl 3 rfl) ?_
      refine lv_iload_n hx hb dX2_look_114 rfl (lv_at hl 1 rfl) ?_
      obtain ⟨r17, S18, ec, h⟩ := zbd_s h
      refine zc_Vi hY P0 ⟨hx, hb, hml, hown, hT⟩ (As := [.int r3]) (rest := []) (kX2_lookAtThings l hO r3 S14 r17 S18 ec) (cwV 1 hT (zgV mL_X2_116 mI_X2_lookAtThings mS_X2_lookAtThings mN_X2 mC_X2_lookAtThings) rfl rfl rfl hdnX2_lookAtThings ⟨Nat.le_of_ble_eq_true rfl, Nat.le_of_ble_eq_true rfl⟩) (zrecX_7 P0 Z) Z rfl hl.1 rfl (Nat.le_of_ble_eq_true rfl) dX2_look_115 (fun H locs Z => ?_)
      refine lv_goto (tgt := 125) hx hb dX2_look_118 (by decide) ?_
      exact zr_i hY P0 hx hb hr hlocks h Z dX2_look_125
  have h := zi_f q3 h
  by_cases q6 : r7 = (nI 6)
  · have h := zi_t q6 h
    refine ztbl (off := 39) (tgt := 80) hx hb q6 dX2_look_41 (by decide) (by decide) (by decide) (by decide) ?_
    refine lv_iconst (v := (nI 0)) hx hb dX2_look_80 (by decide) ?_
    exact zr_i hY P0 hx hb hr hlocks h Z dX2_look_81
  have h := zi_f q6 h
  by_cases q4 : r7 = (nI 4)
  · refine ztbl (off := 85) (tgt := 126) hx hb q4 dX2_look_41 (by decide) (by decide) (by decide) (by decide) ?_
    refine lv_iload_n hx hb dX2_look_126 rfl (lv_at hl 0 rfl) ?_
    refine lv_if_ne (tgt := 137) hx hb dX2_look_127 (by decide) (fun q => ?_) (fun q => ?_)
    · have h := zi_f q h
      refine lv_aload_n hx hb dX2_look_137 rfl (lv_at hl 3 rfl) ?_
      refine lv_iconst (v := (nI 1)) hx hb dX2_look_138 (by decide) ?_
      obtain ⟨r19, S20, ec, h⟩ := zbd_s h
      refine zc_Vi hY P0 ⟨hx, hb, hml, hown, hT⟩ (As := [.int (nI 1)]) (rest := []) (kX2_failing l hO (nI 1) S8 r19 S20 ec) (cwV 1 hT (zgV mL_X2_119 mI_X2_failing mS_X2_failing mN_X2 mC_X2_failing) rfl rfl rfl hdnX2_failing ⟨Nat.le_of_ble_eq_true rfl, Nat.le_of_ble_eq_true rfl⟩) (zrecX_7 P0 Z) Z rfl hl.1 rfl (Nat.le_of_ble_eq_true rfl) dX2_look_139 (fun H locs Z => ?_)
      exact zr_i hY P0 hx hb hr hlocks h Z dX2_look_142
    · have h := zi_t q h
      refine lv_aload_n hx hb dX2_look_130 rfl (lv_at hl 3 rfl) ?_
      obtain ⟨r21, S22, ec, h⟩ := zbd_s h
      refine zc_Vi hY P0 ⟨hx, hb, hml, hown, hT⟩ (As := []) (rest := []) (kX2_valueOnTop l hO  S8 r21 S22 ec) (cwV 0 hT (zgV mL_X2_110 mI_X2_valueOnTop mS_X2_valueOnTop mN_X2 mC_X2_valueOnTop) rfl rfl rfl hdnX2_valueOnTop ⟨Nat.le_of_ble_eq_true rfl, Nat.le_of_ble_eq_true rfl⟩) (zrecX_7 P0 Z) Z rfl hl.1 rfl (Nat.le_of_ble_eq_true rfl) dX2_look_131 (fun H locs Z => ?_)
      refine lv_goto (tgt := 142) hx hb dX2_look_134 (by decide) ?_
      exact zr_i hY P0 hx hb hr hlocks h Z dX2_look_142
  by_cases q5 : r7 = (nI 5)
  · refine ztbl (off := 85) (tgt := 126) hx hb q5 dX2_look_41 (by decide) (by decide) (by decide) (by decide) ?_
    refine lv_iload_n hx hb dX2_look_126 rfl (lv_at hl 0 rfl) ?_
    refine lv_if_ne (tgt := 137) hx hb dX2_look_127 (by decide) (fun q => ?_) (fun q => ?_)
    · have h := zi_f q h
      refine lv_aload_n hx hb dX2_look_137 rfl (lv_at hl 3 rfl) ?_
      refine lv_iconst (v := (nI 1)) hx hb dX2_look_138 (by decide) ?_
      obtain ⟨r23, S24, ec, h⟩ := zbd_s h
      refine zc_Vi hY P0 ⟨hx, hb, hml, hown, hT⟩ (As := [.int (nI 1)]) (rest := []) (kX2_failing l hO (nI 1) S8 r23 S24 ec) (cwV 1 hT (zgV mL_X2_119 mI_X2_failing mS_X2_failing mN_X2 mC_X2_failing) rfl rfl rfl hdnX2_failing ⟨Nat.le_of_ble_eq_true rfl, Nat.le_of_ble_eq_true rfl⟩) (zrecX_7 P0 Z) Z rfl hl.1 rfl (Nat.le_of_ble_eq_true rfl) dX2_look_139 (fun H locs Z => ?_)
      exact zr_i hY P0 hx hb hr hlocks h Z dX2_look_142
    · have h := zi_t q h
      refine lv_aload_n hx hb dX2_look_130 rfl (lv_at hl 3 rfl) ?_
      obtain ⟨r25, S26, ec, h⟩ := zbd_s h
      refine zc_Vi hY P0 ⟨hx, hb, hml, hown, hT⟩ (As := []) (rest := []) (kX2_valueOnTop l hO  S8 r25 S26 ec) (cwV 0 hT (zgV mL_X2_110 mI_X2_valueOnTop mS_X2_valueOnTop mN_X2 mC_X2_valueOnTop) rfl rfl rfl hdnX2_valueOnTop ⟨Nat.le_of_ble_eq_true rfl, Nat.le_of_ble_eq_true rfl⟩) (zrecX_7 P0 Z) Z rfl hl.1 rfl (Nat.le_of_ble_eq_true rfl) dX2_look_131 (fun H locs Z => ?_)
      refine lv_goto (tgt := 142) hx hb dX2_look_134 (by decide) ?_
      exact zr_i hY P0 hx hb hr hlocks h Z dX2_look_142
  have u1 : ¬ r7.toInt = 1 := lv_neT q1 (by decide)
  have u2 : ¬ r7.toInt = 2 := lv_neT q2 (by decide)
  have u3 : ¬ r7.toInt = 3 := lv_neT q3 (by decide)
  have u4 : ¬ r7.toInt = 4 := lv_neT q4 (by decide)
  have u5 : ¬ r7.toInt = 5 := lv_neT q5 (by decide)
  have u6 : ¬ r7.toInt = 6 := lv_neT q6 (by decide)
  refine lv_tableOut (tgt := 126) hx hb dX2_look_41 (by omega) (by decide) ?_
  refine lv_iload_n hx hb dX2_look_126 rfl (lv_at hl 0 rfl) ?_
  refine lv_if_ne (tgt := 137) hx hb dX2_look_127 (by decide) (fun q => ?_) (fun q => ?_)
  · have h := zi_f q h
    refine lv_aload_n hx hb dX2_look_137 rfl (lv_at hl 3 rfl) ?_
    refine lv_iconst (v := (nI 1)) hx hb dX2_look_138 (by decide) ?_
    obtain ⟨r27, S28, ec, h⟩ := zbd_s h
    refine zc_Vi hY P0 ⟨hx, hb, hml, hown, hT⟩ (As := [.int (nI 1)]) (rest := []) (kX2_failing l hO (nI 1) S8 r27 S28 ec) (cwV 1 hT (zgV mL_X2_119 mI_X2_failing mS_X2_failing mN_X2 mC_X2_failing) rfl rfl rfl hdnX2_failing ⟨Nat.le_of_ble_eq_true rfl, Nat.le_of_ble_eq_true rfl⟩) (zrecX_7 P0 Z) Z rfl hl.1 rfl (Nat.le_of_ble_eq_true rfl) dX2_look_139 (fun H locs Z => ?_)
    exact zr_i hY P0 hx hb hr hlocks h Z dX2_look_142
  · have h := zi_t q h
    refine lv_aload_n hx hb dX2_look_130 rfl (lv_at hl 3 rfl) ?_
    obtain ⟨r29, S30, ec, h⟩ := zbd_s h
    refine zc_Vi hY P0 ⟨hx, hb, hml, hown, hT⟩ (As := []) (rest := []) (kX2_valueOnTop l hO  S8 r29 S30 ec) (cwV 0 hT (zgV mL_X2_110 mI_X2_valueOnTop mS_X2_valueOnTop mN_X2 mC_X2_valueOnTop) rfl rfl rfl hdnX2_valueOnTop ⟨Nat.le_of_ble_eq_true rfl, Nat.le_of_ble_eq_true rfl⟩) (zrecX_7 P0 Z) Z rfl hl.1 rfl (Nat.le_of_ble_eq_true rfl) dX2_look_131 (fun H locs Z => ?_)
    refine lv_goto (tgt := 142) hx hb dX2_look_134 (by decide) ?_
    exact zr_i hY P0 hx hb hr hlocks h Z dX2_look_142

set_option maxHeartbeats 4000000 in
set_option maxRecDepth 100000 in
theorem kX0_become {g : zG} (l : Launch) (hO : zinjX g) (a1 : Int32) (a2 : Int32) (a3 : Int32) (a4 : Int32) (S : zSt) (r : Unit) (S' : zSt) (h : fX0_become a1 a2 a3 a4 S = some (r, S')) : zMv (zYX g) l yX0_become vX0_become { frames := 0, cells := 0, slots := 0, locals := 0 } ([.ref (zad g 5), .int a1, .int a2, .int a3, .int a4] : List Value) S S' := by
  have hY := zOkX hO
  refine Met.ofW (cc := cX0_become) (maxL := 5) (ret := none) (by decide) rfl ?_
  intro p e s m args below meth c s₁ B hml hv
  obtain ⟨rfl, hP⟩ := hv
  have hx := B.exec
  have hb := B.bytes
  have hr := B.returns
  have hts := atoms_spec (ws := vX0_become) B.pre
  have hT : ∀ w ∈ zTB, w.before ([.ref (zad g 5), .int a1, .int a2, .int a3, .int a4] : List Value).toArray s = true := fun w h => hts w (List.mem_cons_of_mem _ h)
  have hown : s.vm.findClass RX0 = some m.cls := findClass_of_methodNamed B.named
  have hlocks := B.notSynchronized
  have P0 := hP.2
  have Z : zZ (zYX g) S s s.heap [] := ⟨hP.1, va_S.rf⟩
  have hf : ∀ w ∈ u_ws RX0 TX0 9, w.before ([.ref (zad g 5), .int a1, .int a2, .int a3, .int a4] : List Value).toArray s = true := fun w hw => hT w (mU_X0 w hw)
  have L9 := hT _ mF_X0_9
  have L15 := hT _ mF_X0_15
  have L18 := hT _ mF_X0_18
  have hl := lv_entry ([.ref (zad g 5), .int a1, .int a2, .int a3, .int a4] : List Value) (n := 5) (Nat.le_of_ble_eq_true rfl)
  rw [lg_entry_eq]
  generalize (lg_sl ([.ref (zad g 5), .int a1, .int a2, .int a3, .int a4] : List Value) ++ List.replicate (5 - (lg_sl ([.ref (zad g 5), .int a1, .int a2, .int a3, .int a4] : List Value)).length) Slot.unset).toArray = ls at hl ⊢
  have hl : lv_has ls 5 [(0, .ref (zad g 5)), (1, .int a1), (2, .int a2), (3, .int a3), (4, .int a4)] := hl
  unfold fX0_become at h
  refine lv_iload_n hx hb dX0_become_0 rfl (lv_at hl 1 rfl) ?_
  refine lv_if_lt (tgt := 33) hx hb dX0_become_1 (by decide) (fun q => ?_) (fun q => ?_)
  · have h := zi_t q h
    exact zr_v hY P0 hx hb hr hlocks h Z dX0_become_33
  · have h := zi_f q h
    refine lv_iload_n hx hb dX0_become_4 rfl (lv_at hl 1 rfl) ?_
    refine lv_sipush (v := (nI 400)) hx hb dX0_become_5 (by decide) ?_
    refine lv_icmp_ge (tgt := 33) hx hb dX0_become_8 (by decide) (fun q => ?_) (fun q => ?_)
    · have h := zi_t q h
      exact zr_v hY P0 hx hb hr hlocks h Z dX0_become_33
    · have h := zi_f q h
      refine lv_aload_n hx hb dX0_become_11 rfl (lv_at hl 0 rfl) ?_
      refine zgX0_0 hx hb hf hown P0 Z L9 dX0_become_12 ?_
      refine lv_iload_n hx hb dX0_become_15 rfl (lv_at hl 1 rfl) ?_
      refine lv_iload_n hx hb dX0_become_16 rfl (lv_at hl 2 rfl) ?_
      obtain ⟨hin, h⟩ := zck_s h
      refine zsX_25 hO hx hb P0 Z hin dX0_become_17 (fun H locs Z => ?_)
      refine lv_aload_n hx hb dX0_become_18 rfl (lv_at hl 0 rfl) ?_
      refine zgX0_1 hx hb hf hown P0 Z L15 dX0_become_19 ?_
      refine lv_iload_n hx hb dX0_become_22 rfl (lv_at hl 1 rfl) ?_
      refine lv_iload_n hx hb dX0_become_23 rfl (lv_at hl 3 rfl) ?_
      obtain ⟨hin, h⟩ := zck_s h
      refine zsX_26 hO hx hb P0 Z hin dX0_become_24 (fun H locs Z => ?_)
      refine lv_aload_n hx hb dX0_become_25 rfl (lv_at hl 0 rfl) ?_
      refine zgX0_2 hx hb hf hown P0 Z L18 dX0_become_26 ?_
      refine lv_iload_n hx hb dX0_become_29 rfl (lv_at hl 1 rfl) ?_
      refine lv_iload hx hb dX0_become_30 (lv_at hl 4 rfl) ?_
      obtain ⟨hin, h⟩ := zck_s h
      refine zsX_27 hO hx hb P0 Z hin dX0_become_32 (fun H locs Z => ?_)
      exact zr_v hY P0 hx hb hr hlocks h Z dX0_become_33

set_option maxHeartbeats 4000000 in
set_option maxRecDepth 100000 in
theorem kX3_give {g : zG} (l : Launch) (hO : zinjX g) (a1 : Int32) (a2 : Int32) (S : zSt) (r : Unit) (S' : zSt) (h : fX3_give a1 a2 S = some (r, S')) : zMv (zYX g) l yX3_give vX3_give { frames := 0, cells := 0, slots := 0, locals := 0 } ([.ref (zad g 8), .int a1, .int a2] : List Value) S S' := by
  have hY := zOkX hO
  refine Met.ofW (cc := cX3_give) (maxL := 3) (ret := none) (by decide) rfl ?_
  intro p e s m args below meth c s₁ B hml hv
  obtain ⟨rfl, hP⟩ := hv
  have hx := B.exec
  have hb := B.bytes
  have hr := B.returns
  have hts := atoms_spec (ws := vX3_give) B.pre
  have hT : ∀ w ∈ zTB, w.before ([.ref (zad g 8), .int a1, .int a2] : List Value).toArray s = true := fun w h => hts w (List.mem_cons_of_mem _ h)
  have hown : s.vm.findClass RX3 = some m.cls := findClass_of_methodNamed B.named
  have hlocks := B.notSynchronized
  have P0 := hP.2
  have Z : zZ (zYX g) S s s.heap [] := ⟨hP.1, va_S.rf⟩
  have hf : ∀ w ∈ u_ws RX3 TX3 6, w.before ([.ref (zad g 8), .int a1, .int a2] : List Value).toArray s = true := fun w hw => hT w (mU_X3 w hw)
  have L9 := hT _ mF_X3_9
  have hl := lv_entry ([.ref (zad g 8), .int a1, .int a2] : List Value) (n := 3) (Nat.le_of_ble_eq_true rfl)
  rw [lg_entry_eq]
  generalize (lg_sl ([.ref (zad g 8), .int a1, .int a2] : List Value) ++ List.replicate (3 - (lg_sl ([.ref (zad g 8), .int a1, .int a2] : List Value)).length) Slot.unset).toArray = ls at hl ⊢
  have hl : lv_has ls 3 [(0, .ref (zad g 8)), (1, .int a1), (2, .int a2)] := hl
  unfold fX3_give at h
  refine lv_iload_n hx hb dX3_give_0 rfl (lv_at hl 1 rfl) ?_
  refine lv_if_lt (tgt := 20) hx hb dX3_give_1 (by decide) (fun q => ?_) (fun q => ?_)
  · have h := zi_t q h
    exact zr_v hY P0 hx hb hr hlocks h Z dX3_give_20
  · have h := zi_f q h
    refine lv_iload_n hx hb dX3_give_4 rfl (lv_at hl 1 rfl) ?_
    refine lv_aload_n hx hb dX3_give_5 rfl (lv_at hl 0 rfl) ?_
    refine zgX3_2 hx hb hf hown P0 Z L9 dX3_give_6 ?_
    refine zaX_33 hx hb P0 Z dX3_give_9 ?_
    refine lv_icmp_ge (tgt := 20) hx hb dX3_give_10 (by decide) (fun q => ?_) (fun q => ?_)
    · have h := zi_t q h
      exact zr_v hY P0 hx hb hr hlocks h Z dX3_give_20
    · have h := zi_f q h
      refine lv_aload_n hx hb dX3_give_13 rfl (lv_at hl 0 rfl) ?_
      refine zgX3_2 hx hb hf hown P0 Z L9 dX3_give_14 ?_
      refine lv_iload_n hx hb dX3_give_17 rfl (lv_at hl 1 rfl) ?_
      refine lv_iload_n hx hb dX3_give_18 rfl (lv_at hl 2 rfl) ?_
      obtain ⟨hin, h⟩ := zck_s h
      refine zsX_33 hO hx hb P0 Z hin dX3_give_19 (fun H locs Z => ?_)
      exact zr_v hY P0 hx hb hr hlocks h Z dX3_give_20

set_option maxHeartbeats 4000000 in
set_option maxRecDepth 100000 in
theorem kX0_workFor {g : zG} (l : Launch) (hO : zinjX g) (a1 : Int32) (S : zSt) (r : Unit) (S' : zSt) (h : fX0_workFor a1 S = some (r, S')) : zMv (zYX g) l yX0_workFor vX0_workFor { frames := 0, cells := 0, slots := 0, locals := 0 } ([.ref (zad g 5), .int a1] : List Value) S S' := by
  have hY := zOkX hO
  refine Met.ofW (cc := cX0_workFor) (maxL := 2) (ret := none) (by decide) rfl ?_
  intro p e s m args below meth c s₁ B hml hv
  obtain ⟨rfl, hP⟩ := hv
  have hx := B.exec
  have hb := B.bytes
  have hr := B.returns
  have hts := atoms_spec (ws := vX0_workFor) B.pre
  have hT : ∀ w ∈ zTB, w.before ([.ref (zad g 5), .int a1] : List Value).toArray s = true := fun w h => hts w (List.mem_cons_of_mem _ h)
  have hown : s.vm.findClass RX0 = some m.cls := findClass_of_methodNamed B.named
  have hlocks := B.notSynchronized
  have P0 := hP.2
  have Z : zZ (zYX g) S s s.heap [] := ⟨hP.1, va_S.rf⟩
  have hf : ∀ w ∈ u_ws RX0 TX0 9, w.before ([.ref (zad g 5), .int a1] : List Value).toArray s = true := fun w hw => hT w (mU_X0 w hw)
  have L37 := hT _ mF_X0_37
  have hl := lv_entry ([.ref (zad g 5), .int a1] : List Value) (n := 2) (Nat.le_of_ble_eq_true rfl)
  rw [lg_entry_eq]
  generalize (lg_sl ([.ref (zad g 5), .int a1] : List Value) ++ List.replicate (2 - (lg_sl ([.ref (zad g 5), .int a1] : List Value)).length) Slot.unset).toArray = ls at hl ⊢
  have hl : lv_has ls 2 [(0, .ref (zad g 5)), (1, .int a1)] := hl
  unfold fX0_workFor at h
  refine lv_aload_n hx hb dX0_workFor_0 rfl (lv_at hl 0 rfl) ?_
  refine lv_iload_n hx hb dX0_workFor_1 rfl (lv_at hl 1 rfl) ?_
  refine zpX0_8 hO hx hb hf hown P0 Z L37 dX0_workFor_2 (fun H locs Z => ?_)
  exact zr_v hY P0 hx hb hr hlocks h Z dX0_workFor_5

set_option maxHeartbeats 4000000 in
set_option maxRecDepth 100000 in
theorem kX3_addPointers {g : zG} (l : Launch) (hO : zinjX g) (a1 : Int32) (a2 : Int32) (S : zSt) (r : Unit) (S' : zSt) (h : fX3_addPointers a1 a2 S = some (r, S')) : zMv (zYX g) l yX3_addPointers vX3_addPointers { frames := 1, cells := 0, slots := 0, locals := 24 } ([.ref (zad g 8), .int a1, .int a2] : List Value) S S' := by
  have hY := zOkX hO
  refine Met.ofW (cc := cX3_addPointers) (maxL := 6) (ret := none) (by decide) rfl ?_
  intro p e s m args below meth c s₁ B hml hv
  obtain ⟨rfl, hP⟩ := hv
  have hx := B.exec
  have hb := B.bytes
  have hr := B.returns
  have hts := atoms_spec (ws := vX3_addPointers) B.pre
  have hT : ∀ w ∈ zTB, w.before ([.ref (zad g 8), .int a1, .int a2] : List Value).toArray s = true := fun w h => hts w (List.mem_cons_of_mem _ h)
  have hown : s.vm.findClass RX3 = some m.cls := findClass_of_methodNamed B.named
  have hlocks := B.notSynchronized
  have P0 := hP.2
  have Z : zZ (zYX g) S s s.heap [] := ⟨hP.1, va_S.rf⟩
  have hf : ∀ w ∈ u_ws RX3 TX3 6, w.before ([.ref (zad g 8), .int a1, .int a2] : List Value).toArray s = true := fun w hw => hT w (mU_X3 w hw)
  have L15 := hT _ mF_X3_15
  have L29 := hT _ mF_X3_29
  have B2 : ∀ (n : Nat) (x1 : Int32) (x2 : Int32) (x3 : Int32) (S : zSt), fX3_addPointers_2L n (x1, x2, x3, S) = some (r, S') → ∀ (H : Heap) (locs : List Loc), zZ (zYX g) S s H locs → ∀ ls : Array Slot, lv_has ls 6 [(0, .ref (zad g 8)), (1, .int x1), (2, .int x2), (3, .int x3)] → W p l e (headSpec vX3_addPointers { frames := 1, cells := 0, slots := 0, locals := 24 }).room s m ([.ref (zad g 8), .int a1, .int a2] : List Value).toArray below meth c H locs 0 0 (MQ below (zQv (zYX g) S') ([.ref (zad g 8), .int a1, .int a2] : List Value).toArray s 0 0 (zYX g).2.2.1) (F0 m 2 ls []) := by
    intro n
    induction n with
    | zero => intro x1 x2 x3 S h; exact absurd h (fun h => nomatch h)
    | succ n K2 =>
      intro x1 x2 x3 S h H locs Z ls hl
      have h : fX3_addPointers_2 (fX3_addPointers_2L n) x1 x2 x3 S = some (r, S') := h
      unfold fX3_addPointers_2 at h
      refine lv_iload_n hx hb dX3_addPointers_2 rfl (lv_at hl 3 rfl) ?_
      refine lv_iload_n hx hb dX3_addPointers_3 rfl (lv_at hl 2 rfl) ?_
      refine lv_icmp_ge (tgt := 71) hx hb dX3_addPointers_4 (by decide) (fun q => ?_) (fun q => ?_)
      · have h := zi_t q h
        exact zr_v hY P0 hx hb hr hlocks h Z dX3_addPointers_71
      · have h := zi_f q h
        refine lv_iload_n hx hb dX3_addPointers_7 rfl (lv_at hl 1 rfl) ?_
        refine lv_iload_n hx hb dX3_addPointers_8 rfl (lv_at hl 3 rfl) ?_
        refine lv_iadd hx hb dX3_addPointers_9 ?_
        refine lv_istore (lv' := [(4, .int (x1 + x3)), (0, .ref (zad g 8)), (1, .int x1), (2, .int x2), (3, .int x3)]) hx hb dX3_addPointers_10 hl (by decide) rfl (fun ls hl => ?_)
        refine lv_iload hx hb dX3_addPointers_12 (lv_at hl 0 rfl) ?_
        refine lv_if_lt (tgt := 65) hx hb dX3_addPointers_14 (by decide) (fun q => ?_) (fun q => ?_)
        · have h := zi_t q h
          refine lv_iinc (v := (x3 + (nI 1))) (lv' := [(3, .int (x3 + (nI 1))), (4, .int (x1 + x3)), (0, .ref (zad g 8)), (1, .int x1), (2, .int x2)]) hx hb dX3_addPointers_65 hl (k := 4) rfl rfl (by decide) rfl (fun ls hl => ?_)
          refine lv_goto (tgt := 2) hx hb dX3_addPointers_68 (by decide) ?_
          exact K2 x1 x2 (x3 + (nI 1)) S h _ _ Z ls (lv_sub hl [2, 3, 4, 0] rfl)
        · have h := zi_f q h
          refine lv_iload hx hb dX3_addPointers_17 (lv_at hl 0 rfl) ?_
          refine lv_aload_n hx hb dX3_addPointers_19 rfl (lv_at hl 1 rfl) ?_
          refine zgX3_3 hx hb hf hown P0 Z L15 dX3_addPointers_20 ?_
          refine zaX_34 hx hb P0 Z dX3_addPointers_23 ?_
          refine lv_icmp_ge (tgt := 65) hx hb dX3_addPointers_24 (by decide) (fun q => ?_) (fun q => ?_)
          · have h := zi_t q h
            refine lv_iinc (v := (x3 + (nI 1))) (lv' := [(3, .int (x3 + (nI 1))), (4, .int (x1 + x3)), (0, .ref (zad g 8)), (1, .int x1), (2, .int x2)]) hx hb dX3_addPointers_65 hl (k := 4) rfl rfl (by decide) rfl (fun ls hl => ?_)
            refine lv_goto (tgt := 2) hx hb dX3_addPointers_68 (by decide) ?_
            exact K2 x1 x2 (x3 + (nI 1)) S h _ _ Z ls (lv_sub hl [2, 3, 4, 0] rfl)
          · have h := zi_f q h
            refine lv_aload_n hx hb dX3_addPointers_27 rfl (lv_at hl 1 rfl) ?_
            refine zgX3_1 hx hb hf hown P0 Z L29 dX3_addPointers_28 ?_
            refine lv_bipush (v := (nI 6)) hx hb dX3_addPointers_31 (by decide) ?_
            refine lv_iconst (v := (nI 0)) hx hb dX3_addPointers_33 (by decide) ?_
            refine lv_bipush (v := (-3 : Int32)) hx hb dX3_addPointers_34 (by decide) ?_
            obtain ⟨r1, S2, ec, h⟩ := zbd_s h
            refine zc_Vi hY P0 ⟨hx, hb, hml, hown, hT⟩ (As := [.int (nI 6), .int (nI 0), .int (-3 : Int32)]) (rest := []) (kX0_add l hO (nI 6) (nI 0) (-3 : Int32) S r1 S2 ec) (cwV 3 hT (zgV mL_X3_62 mI_X0_add mS_X0_add mN_X0 mC_X0_add) rfl rfl rfl hdnX0_add ⟨Nat.le_of_ble_eq_true rfl, Nat.le_of_ble_eq_true rfl⟩) (zrecX_5 P0 Z) Z rfl hl.1 rfl (Nat.le_of_ble_eq_true rfl) dX3_addPointers_36 (fun H locs Z => ?_)
            refine lv_istore (lv' := [(5, .int r1), (4, .int (x1 + x3)), (0, .ref (zad g 8)), (1, .int x1), (2, .int x2), (3, .int x3)]) hx hb dX3_addPointers_39 hl (by decide) rfl (fun ls hl => ?_)
            refine lv_aload_n hx hb dX3_addPointers_41 rfl (lv_at hl 2 rfl) ?_
            refine zgX3_1 hx hb hf hown P0 Z L29 dX3_addPointers_42 ?_
            refine lv_iload hx hb dX3_addPointers_45 (lv_at hl 0 rfl) ?_
            refine lv_bipush (v := (nI 6)) hx hb dX3_addPointers_47 (by decide) ?_
            refine lv_iload hx hb dX3_addPointers_49 (lv_at hl 0 rfl) ?_
            refine lv_bipush (v := (-3 : Int32)) hx hb dX3_addPointers_51 (by decide) ?_
            obtain ⟨r3, S4, ec, h⟩ := zbd_s h
            refine zc_Vv hY P0 ⟨hx, hb, hml, hown, hT⟩ (As := [.int r1, .int (nI 6), .int r1, .int (-3 : Int32)]) (rest := []) (kX0_become l hO r1 (nI 6) r1 (-3 : Int32) S2 r3 S4 ec) (cwV 4 hT (zgV mL_X3_81 mI_X0_become mS_X0_become mN_X0 mC_X0_become) rfl rfl rfl hdnX0_become ⟨Nat.le_of_ble_eq_true rfl, Nat.le_of_ble_eq_true rfl⟩) (zrecX_5 P0 Z) Z rfl hl.1 rfl (Nat.le_of_ble_eq_true rfl) dX3_addPointers_53 (fun H locs Z => ?_)
            refine lv_aload_n hx hb dX3_addPointers_56 rfl (lv_at hl 2 rfl) ?_
            refine zgX3_3 hx hb hf hown P0 Z L15 dX3_addPointers_57 ?_
            refine lv_iload hx hb dX3_addPointers_60 (lv_at hl 1 rfl) ?_
            refine lv_iload hx hb dX3_addPointers_62 (lv_at hl 0 rfl) ?_
            obtain ⟨hin, h⟩ := zck_s h
            refine zsX_34 hO hx hb P0 Z hin dX3_addPointers_64 (fun H locs Z => ?_)
            refine lv_iinc (v := (x3 + (nI 1))) (lv' := [(3, .int (x3 + (nI 1))), (5, .int r1), (4, .int (x1 + x3)), (0, .ref (zad g 8)), (1, .int x1), (2, .int x2)]) hx hb dX3_addPointers_65 hl (k := 5) rfl rfl (by decide) rfl (fun ls hl => ?_)
            refine lv_goto (tgt := 2) hx hb dX3_addPointers_68 (by decide) ?_
            exact K2 x1 x2 (x3 + (nI 1)) (wA S4 34 ((x1 + x3).toNatClampNeg) r1) h _ _ Z ls (lv_sub hl [3, 4, 5, 0] rfl)
  have hl := lv_entry ([.ref (zad g 8), .int a1, .int a2] : List Value) (n := 6) (Nat.le_of_ble_eq_true rfl)
  rw [lg_entry_eq]
  generalize (lg_sl ([.ref (zad g 8), .int a1, .int a2] : List Value) ++ List.replicate (6 - (lg_sl ([.ref (zad g 8), .int a1, .int a2] : List Value)).length) Slot.unset).toArray = ls at hl ⊢
  have hl : lv_has ls 6 [(0, .ref (zad g 8)), (1, .int a1), (2, .int a2)] := hl
  unfold fX3_addPointers at h
  refine lv_iconst (v := (nI 0)) hx hb dX3_addPointers_0 (by decide) ?_
  refine lv_istore_n (lv' := [(3, .int (nI 0)), (0, .ref (zad g 8)), (1, .int a1), (2, .int a2)]) hx hb dX3_addPointers_1 rfl hl (by decide) rfl (fun ls hl => ?_)
  exact B2 zFU a1 a2 (nI 0) S h _ _ Z ls (lv_sub hl [1, 2, 3, 0] rfl)

set_option maxHeartbeats 4000000 in
set_option maxRecDepth 100000 in
theorem kX3_letWait {g : zG} (l : Launch) (hO : zinjX g) (a1 : Int32) (S : zSt) (r : Unit) (S' : zSt) (h : fX3_letWait a1 S = some (r, S')) : zMv (zYX g) l yX3_letWait vX3_letWait { frames := 0, cells := 0, slots := 0, locals := 0 } ([.ref (zad g 8), .int a1] : List Value) S S' := by
  have hY := zOkX hO
  refine Met.ofW (cc := cX3_letWait) (maxL := 2) (ret := none) (by decide) rfl ?_
  intro p e s m args below meth c s₁ B hml hv
  obtain ⟨rfl, hP⟩ := hv
  have hx := B.exec
  have hb := B.bytes
  have hr := B.returns
  have hts := atoms_spec (ws := vX3_letWait) B.pre
  have hT : ∀ w ∈ zTB, w.before ([.ref (zad g 8), .int a1] : List Value).toArray s = true := fun w h => hts w (List.mem_cons_of_mem _ h)
  have hown : s.vm.findClass RX3 = some m.cls := findClass_of_methodNamed B.named
  have hlocks := B.notSynchronized
  have P0 := hP.2
  have Z : zZ (zYX g) S s s.heap [] := ⟨hP.1, va_S.rf⟩
  have hf : ∀ w ∈ u_ws RX3 TX3 6, w.before ([.ref (zad g 8), .int a1] : List Value).toArray s = true := fun w hw => hT w (mU_X3 w hw)
  have L21 := hT _ mF_X3_21
  have L18 := hT _ mF_X3_18
  have hl := lv_entry ([.ref (zad g 8), .int a1] : List Value) (n := 2) (Nat.le_of_ble_eq_true rfl)
  rw [lg_entry_eq]
  generalize (lg_sl ([.ref (zad g 8), .int a1] : List Value) ++ List.replicate (2 - (lg_sl ([.ref (zad g 8), .int a1] : List Value)).length) Slot.unset).toArray = ls at hl ⊢
  have hl : lv_has ls 2 [(0, .ref (zad g 8)), (1, .int a1)] := hl
  unfold fX3_letWait at h
  refine lv_aload_n hx hb dX3_letWait_0 rfl (lv_at hl 0 rfl) ?_
  refine zgX3_5 (v := (zI S 26)) hx hb hf hown P0 Z L21 rfl dX3_letWait_1 ?_
  refine lv_if_lt (tgt := 39) hx hb dX3_letWait_4 (by decide) (fun q => ?_) (fun q => ?_)
  · have h := zi_t q h
    exact zr_v hY P0 hx hb hr hlocks h Z dX3_letWait_39
  · have h := zi_f q h
    refine lv_aload_n hx hb dX3_letWait_7 rfl (lv_at hl 0 rfl) ?_
    refine zgX3_5 (v := (zI S 26)) hx hb hf hown P0 Z L21 rfl dX3_letWait_8 ?_
    refine lv_aload_n hx hb dX3_letWait_11 rfl (lv_at hl 0 rfl) ?_
    refine zgX3_4 hx hb hf hown P0 Z L18 dX3_letWait_12 ?_
    refine zaX_35 hx hb P0 Z dX3_letWait_15 ?_
    refine lv_icmp_ge (tgt := 39) hx hb dX3_letWait_16 (by decide) (fun q => ?_) (fun q => ?_)
    · have h := zi_t q h
      exact zr_v hY P0 hx hb hr hlocks h Z dX3_letWait_39
    · have h := zi_f q h
      refine lv_aload_n hx hb dX3_letWait_19 rfl (lv_at hl 0 rfl) ?_
      refine zgX3_4 hx hb hf hown P0 Z L18 dX3_letWait_20 ?_
      refine lv_aload_n hx hb dX3_letWait_23 rfl (lv_at hl 0 rfl) ?_
      refine zgX3_5 (v := (zI S 26)) hx hb hf hown P0 Z L21 rfl dX3_letWait_24 ?_
      refine lv_iload_n hx hb dX3_letWait_27 rfl (lv_at hl 1 rfl) ?_
      obtain ⟨hin, h⟩ := zck_s h
      refine zsX_35 hO hx hb P0 Z hin dX3_letWait_28 (fun H locs Z => ?_)
      refine lv_aload_n hx hb dX3_letWait_29 rfl (lv_at hl 0 rfl) ?_
      refine lv_dup hx hb dX3_letWait_30 rfl ?_
      refine zgX3_5 (v := (zI S 26)) hx hb hf hown P0 Z L21 rfl dX3_letWait_31 ?_
      refine lv_iconst (v := (nI 1)) hx hb dX3_letWait_34 (by decide) ?_
      refine lv_iadd hx hb dX3_letWait_35 ?_
      refine zpX3_5 hO hx hb hf hown P0 Z L21 dX3_letWait_36 (fun H locs Z => ?_)
      exact zr_v hY P0 hx hb hr hlocks h Z dX3_letWait_39

set_option maxHeartbeats 4000000 in
set_option maxRecDepth 100000 in
theorem kX3_applyWaiting {g : zG} (l : Launch) (hO : zinjX g) (a1 : Int32) (S : zSt) (r : Unit) (S' : zSt) (h : fX3_applyWaiting a1 S = some (r, S')) : zMv (zYX g) l yX3_applyWaiting vX3_applyWaiting { frames := 1, cells := 0, slots := 0, locals := 24 } ([.ref (zad g 8), .int a1] : List Value) S S' := by
  have hY := zOkX hO
  refine Met.ofW (cc := cX3_applyWaiting) (maxL := 5) (ret := none) (by decide) rfl ?_
  intro p e s m args below meth c s₁ B hml hv
  obtain ⟨rfl, hP⟩ := hv
  have hx := B.exec
  have hb := B.bytes
  have hr := B.returns
  have hts := atoms_spec (ws := vX3_applyWaiting) B.pre
  have hT : ∀ w ∈ zTB, w.before ([.ref (zad g 8), .int a1] : List Value).toArray s = true := fun w h => hts w (List.mem_cons_of_mem _ h)
  have hown : s.vm.findClass RX3 = some m.cls := findClass_of_methodNamed B.named
  have hlocks := B.notSynchronized
  have P0 := hP.2
  have Z : zZ (zYX g) S s s.heap [] := ⟨hP.1, va_S.rf⟩
  have hf : ∀ w ∈ u_ws RX3 TX3 6, w.before ([.ref (zad g 8), .int a1] : List Value).toArray s = true := fun w hw => hT w (mU_X3 w hw)
  have L21 := hT _ mF_X3_21
  have L18 := hT _ mF_X3_18
  have L29 := hT _ mF_X3_29
  have B75 : ∀ (x2 : Int32) (x3 : Int32) (S : zSt), fX3_applyWaiting_75 x2 x3 S = some (r, S') → ∀ (H : Heap) (locs : List Loc), zZ (zYX g) S s H locs → ∀ ls : Array Slot, lv_has ls 5 [(0, .ref (zad g 8)), (2, .int x2), (3, .int x3)] → W p l e (headSpec vX3_applyWaiting { frames := 1, cells := 0, slots := 0, locals := 24 }).room s m ([.ref (zad g 8), .int a1] : List Value).toArray below meth c H locs 0 0 (MQ below (zQv (zYX g) S') ([.ref (zad g 8), .int a1] : List Value).toArray s 0 0 (zYX g).2.2.1) (F0 m 75 ls []) := by
    intro x2 x3 S h H locs Z ls hl
    unfold fX3_applyWaiting_75 at h
    refine lv_aload_n hx hb dX3_applyWaiting_75 rfl (lv_at hl 0 rfl) ?_
    refine lv_iload_n hx hb dX3_applyWaiting_76 rfl (lv_at hl 1 rfl) ?_
    refine zpX3_5 hO hx hb hf hown P0 Z L21 dX3_applyWaiting_77 (fun H locs Z => ?_)
    refine lv_aload_n hx hb dX3_applyWaiting_80 rfl (lv_at hl 0 rfl) ?_
    refine lv_iload_n hx hb dX3_applyWaiting_81 rfl (lv_at hl 2 rfl) ?_
    obtain ⟨r5, S6, ec, h⟩ := zbd_s h
    refine zc_Vv hY P0 ⟨hx, hb, hml, hown, hT⟩ (As := [.int x3]) (rest := []) (kX3_letWait l hO x3 (wI S 26 x2) r5 S6 ec) (cwV 1 hT (zgV mL_X3_66 mI_X3_letWait mS_X3_letWait mN_X3 mC_X3_letWait) rfl rfl rfl hdnX3_letWait ⟨Nat.le_of_ble_eq_true rfl, Nat.le_of_ble_eq_true rfl⟩) (zrecX_8 P0 Z) Z rfl hl.1 rfl (Nat.le_of_ble_eq_true rfl) dX3_applyWaiting_82 (fun H locs Z => ?_)
    exact zr_v hY P0 hx hb hr hlocks h Z dX3_applyWaiting_85
  have B33 : ∀ (n : Nat) (x2 : Int32) (x3 : Int32) (x4 : Int32) (S : zSt), fX3_applyWaiting_33L n (x2, x3, x4, S) = some (r, S') → ∀ (H : Heap) (locs : List Loc), zZ (zYX g) S s H locs → ∀ ls : Array Slot, lv_has ls 5 [(0, .ref (zad g 8)), (2, .int x2), (3, .int x3), (4, .int x4)] → W p l e (headSpec vX3_applyWaiting { frames := 1, cells := 0, slots := 0, locals := 24 }).room s m ([.ref (zad g 8), .int a1] : List Value).toArray below meth c H locs 0 0 (MQ below (zQv (zYX g) S') ([.ref (zad g 8), .int a1] : List Value).toArray s 0 0 (zYX g).2.2.1) (F0 m 33 ls []) := by
    intro n
    induction n with
    | zero => intro x2 x3 x4 S h; exact absurd h (fun h => nomatch h)
    | succ n K33 =>
      intro x2 x3 x4 S h H locs Z ls hl
      have h : fX3_applyWaiting_33 (fX3_applyWaiting_33L n) x2 x3 x4 S = some (r, S') := h
      unfold fX3_applyWaiting_33 at h
      refine lv_iload hx hb dX3_applyWaiting_33 (lv_at hl 3 rfl) ?_
      refine lv_aload_n hx hb dX3_applyWaiting_35 rfl (lv_at hl 0 rfl) ?_
      refine zgX3_5 (v := (zI S 26)) hx hb hf hown P0 Z L21 rfl dX3_applyWaiting_36 ?_
      refine lv_icmp_ge (tgt := 75) hx hb dX3_applyWaiting_39 (by decide) (fun q => ?_) (fun q => ?_)
      · have h := zi_t q h
        exact B75 x2 x3 S h _ _ Z ls (lv_sub hl [0, 1, 2] rfl)
      · have h := zi_f q h
        refine lv_iload hx hb dX3_applyWaiting_42 (lv_at hl 3 rfl) ?_
        refine lv_aload_n hx hb dX3_applyWaiting_44 rfl (lv_at hl 0 rfl) ?_
        refine zgX3_4 hx hb hf hown P0 Z L18 dX3_applyWaiting_45 ?_
        refine zaX_35 hx hb P0 Z dX3_applyWaiting_48 ?_
        refine lv_icmp_ge (tgt := 75) hx hb dX3_applyWaiting_49 (by decide) (fun q => ?_) (fun q => ?_)
        · have h := zi_t q h
          exact B75 x2 x3 S h _ _ Z ls (lv_sub hl [0, 1, 2] rfl)
        · have h := zi_f q h
          refine lv_aload_n hx hb dX3_applyWaiting_52 rfl (lv_at hl 0 rfl) ?_
          refine zgX3_1 hx hb hf hown P0 Z L29 dX3_applyWaiting_53 ?_
          refine lv_iconst (v := (nI 1)) hx hb dX3_applyWaiting_56 (by decide) ?_
          refine lv_iload_n hx hb dX3_applyWaiting_57 rfl (lv_at hl 2 rfl) ?_
          refine lv_aload_n hx hb dX3_applyWaiting_58 rfl (lv_at hl 0 rfl) ?_
          refine zgX3_4 hx hb hf hown P0 Z L18 dX3_applyWaiting_59 ?_
          refine lv_iload hx hb dX3_applyWaiting_62 (lv_at hl 3 rfl) ?_
          obtain ⟨v2, ev, hin, h⟩ := zld_s h
          refine zlX_35 hx hb P0 Z ev hin dX3_applyWaiting_64 ?_
          obtain ⟨r3, S4, ec, h⟩ := zbd_s h
          refine zc_Vi hY P0 ⟨hx, hb, hml, hown, hT⟩ (As := [.int (nI 1), .int x3, .int v2]) (rest := []) (kX0_add l hO (nI 1) x3 v2 S r3 S4 ec) (cwV 3 hT (zgV mL_X3_62 mI_X0_add mS_X0_add mN_X0 mC_X0_add) rfl rfl rfl hdnX0_add ⟨Nat.le_of_ble_eq_true rfl, Nat.le_of_ble_eq_true rfl⟩) (zrecX_5 P0 Z) Z rfl hl.1 rfl (Nat.le_of_ble_eq_true rfl) dX3_applyWaiting_65 (fun H locs Z => ?_)
          refine lv_istore_n (lv' := [(3, .int r3), (0, .ref (zad g 8)), (2, .int x2), (4, .int x4)]) hx hb dX3_applyWaiting_68 rfl hl (by decide) rfl (fun ls hl => ?_)
          refine lv_iinc (v := (x4 + (nI 1))) (lv' := [(4, .int (x4 + (nI 1))), (3, .int r3), (0, .ref (zad g 8)), (2, .int x2)]) hx hb dX3_applyWaiting_69 hl (k := 3) rfl rfl (by decide) rfl (fun ls hl => ?_)
          refine lv_goto (tgt := 33) hx hb dX3_applyWaiting_72 (by decide) ?_
          exact K33 x2 r3 (x4 + (nI 1)) S4 h _ _ Z ls (lv_sub hl [2, 3, 1, 0] rfl)
  have hl := lv_entry ([.ref (zad g 8), .int a1] : List Value) (n := 5) (Nat.le_of_ble_eq_true rfl)
  rw [lg_entry_eq]
  generalize (lg_sl ([.ref (zad g 8), .int a1] : List Value) ++ List.replicate (5 - (lg_sl ([.ref (zad g 8), .int a1] : List Value)).length) Slot.unset).toArray = ls at hl ⊢
  have hl : lv_has ls 5 [(0, .ref (zad g 8)), (1, .int a1)] := hl
  unfold fX3_applyWaiting at h
  refine lv_aload_n hx hb dX3_applyWaiting_0 rfl (lv_at hl 0 rfl) ?_
  refine zgX3_5 (v := (zI S 26)) hx hb hf hown P0 Z L21 rfl dX3_applyWaiting_1 ?_
  refine lv_iload_n hx hb dX3_applyWaiting_4 rfl (lv_at hl 1 rfl) ?_
  refine lv_isub hx hb dX3_applyWaiting_5 ?_
  refine lv_istore_n (lv' := [(2, .int ((zI S 26) - a1)), (0, .ref (zad g 8)), (1, .int a1)]) hx hb dX3_applyWaiting_6 rfl hl (by decide) rfl (fun ls hl => ?_)
  refine lv_iload_n hx hb dX3_applyWaiting_7 rfl (lv_at hl 0 rfl) ?_
  refine lv_if_lt (tgt := 20) hx hb dX3_applyWaiting_8 (by decide) (fun q => ?_) (fun q => ?_)
  · have h := zi_t q h
    exact zr_v hY P0 hx hb hr hlocks h Z dX3_applyWaiting_20
  · have h := zi_f q h
    refine lv_iload_n hx hb dX3_applyWaiting_11 rfl (lv_at hl 0 rfl) ?_
    refine lv_aload_n hx hb dX3_applyWaiting_12 rfl (lv_at hl 1 rfl) ?_
    refine zgX3_4 hx hb hf hown P0 Z L18 dX3_applyWaiting_13 ?_
    refine zaX_35 hx hb P0 Z dX3_applyWaiting_16 ?_
    refine lv_icmp_lt (tgt := 21) hx hb dX3_applyWaiting_17 (by decide) (fun q => ?_) (fun q => ?_)
    · have h := zi_t q h
      refine lv_aload_n hx hb dX3_applyWaiting_21 rfl (lv_at hl 1 rfl) ?_
      refine zgX3_4 hx hb hf hown P0 Z L18 dX3_applyWaiting_22 ?_
      refine lv_iload_n hx hb dX3_applyWaiting_25 rfl (lv_at hl 0 rfl) ?_
      obtain ⟨v1, ev, hin, h⟩ := zld_s h
      refine zlX_35 hx hb P0 Z ev hin dX3_applyWaiting_26 ?_
      refine lv_istore_n (lv' := [(3, .int v1), (2, .int ((zI S 26) - a1)), (0, .ref (zad g 8)), (1, .int a1)]) hx hb dX3_applyWaiting_27 rfl hl (by decide) rfl (fun ls hl => ?_)
      refine lv_iload_n hx hb dX3_applyWaiting_28 rfl (lv_at hl 1 rfl) ?_
      refine lv_iconst (v := (nI 1)) hx hb dX3_applyWaiting_29 (by decide) ?_
      refine lv_iadd hx hb dX3_applyWaiting_30 ?_
      refine lv_istore (lv' := [(4, .int (((zI S 26) - a1) + (nI 1))), (3, .int v1), (2, .int ((zI S 26) - a1)), (0, .ref (zad g 8)), (1, .int a1)]) hx hb dX3_applyWaiting_31 hl (by decide) rfl (fun ls hl => ?_)
      exact B33 zFU ((zI S 26) - a1) v1 (((zI S 26) - a1) + (nI 1)) S h _ _ Z ls (lv_sub hl [3, 2, 1, 0] rfl)
    · have h := zi_f q h
      exact zr_v hY P0 hx hb hr hlocks h Z dX3_applyWaiting_20

set_option maxHeartbeats 4000000 in
set_option maxRecDepth 100000 in
theorem kX3_bind {g : zG} (l : Launch) (hO : zinjX g) (a1 : Int32) (a2 : Int32) (S : zSt) (r : Unit) (S' : zSt) (h : fX3_bind a1 a2 S = some (r, S')) : zMv (zYX g) l yX3_bind vX3_bind { frames := 1, cells := 0, slots := 0, locals := 24 } ([.ref (zad g 8), .int a1, .int a2] : List Value) S S' := by
  have hY := zOkX hO
  refine Met.ofW (cc := cX3_bind) (maxL := 3) (ret := none) (by decide) rfl ?_
  intro p e s m args below meth c s₁ B hml hv
  obtain ⟨rfl, hP⟩ := hv
  have hx := B.exec
  have hb := B.bytes
  have hr := B.returns
  have hts := atoms_spec (ws := vX3_bind) B.pre
  have hT : ∀ w ∈ zTB, w.before ([.ref (zad g 8), .int a1, .int a2] : List Value).toArray s = true := fun w h => hts w (List.mem_cons_of_mem _ h)
  have hown : s.vm.findClass RX3 = some m.cls := findClass_of_methodNamed B.named
  have hlocks := B.notSynchronized
  have P0 := hP.2
  have Z : zZ (zYX g) S s s.heap [] := ⟨hP.1, va_S.rf⟩
  have hf : ∀ w ∈ u_ws RX3 TX3 6, w.before ([.ref (zad g 8), .int a1, .int a2] : List Value).toArray s = true := fun w hw => hT w (mU_X3 w hw)
  have L15 := hT _ mF_X3_15
  have L29 := hT _ mF_X3_29
  have hl := lv_entry ([.ref (zad g 8), .int a1, .int a2] : List Value) (n := 3) (Nat.le_of_ble_eq_true rfl)
  rw [lg_entry_eq]
  generalize (lg_sl ([.ref (zad g 8), .int a1, .int a2] : List Value) ++ List.replicate (3 - (lg_sl ([.ref (zad g 8), .int a1, .int a2] : List Value)).length) Slot.unset).toArray = ls at hl ⊢
  have hl : lv_has ls 3 [(0, .ref (zad g 8)), (1, .int a1), (2, .int a2)] := hl
  unfold fX3_bind at h
  refine lv_iload_n hx hb dX3_bind_0 rfl (lv_at hl 1 rfl) ?_
  refine lv_if_lt (tgt := 31) hx hb dX3_bind_1 (by decide) (fun q => ?_) (fun q => ?_)
  · have h := zi_t q h
    exact zr_v hY P0 hx hb hr hlocks h Z dX3_bind_31
  · have h := zi_f q h
    refine lv_iload_n hx hb dX3_bind_4 rfl (lv_at hl 1 rfl) ?_
    refine lv_aload_n hx hb dX3_bind_5 rfl (lv_at hl 0 rfl) ?_
    refine zgX3_3 hx hb hf hown P0 Z L15 dX3_bind_6 ?_
    refine zaX_34 hx hb P0 Z dX3_bind_9 ?_
    refine lv_icmp_ge (tgt := 31) hx hb dX3_bind_10 (by decide) (fun q => ?_) (fun q => ?_)
    · have h := zi_t q h
      exact zr_v hY P0 hx hb hr hlocks h Z dX3_bind_31
    · have h := zi_f q h
      refine lv_aload_n hx hb dX3_bind_13 rfl (lv_at hl 0 rfl) ?_
      refine zgX3_1 hx hb hf hown P0 Z L29 dX3_bind_14 ?_
      refine lv_aload_n hx hb dX3_bind_17 rfl (lv_at hl 0 rfl) ?_
      refine zgX3_3 hx hb hf hown P0 Z L15 dX3_bind_18 ?_
      refine lv_iload_n hx hb dX3_bind_21 rfl (lv_at hl 1 rfl) ?_
      obtain ⟨v1, ev, hin, h⟩ := zld_s h
      refine zlX_34 hx hb P0 Z ev hin dX3_bind_22 ?_
      refine lv_bipush (v := (nI 6)) hx hb dX3_bind_23 (by decide) ?_
      refine lv_iload_n hx hb dX3_bind_25 rfl (lv_at hl 2 rfl) ?_
      refine lv_bipush (v := (-3 : Int32)) hx hb dX3_bind_26 (by decide) ?_
      obtain ⟨r2, S3, ec, h⟩ := zbd_s h
      refine zc_Vv hY P0 ⟨hx, hb, hml, hown, hT⟩ (As := [.int v1, .int (nI 6), .int a2, .int (-3 : Int32)]) (rest := []) (kX0_become l hO v1 (nI 6) a2 (-3 : Int32) S r2 S3 ec) (cwV 4 hT (zgV mL_X3_81 mI_X0_become mS_X0_become mN_X0 mC_X0_become) rfl rfl rfl hdnX0_become ⟨Nat.le_of_ble_eq_true rfl, Nat.le_of_ble_eq_true rfl⟩) (zrecX_5 P0 Z) Z rfl hl.1 rfl (Nat.le_of_ble_eq_true rfl) dX3_bind_28 (fun H locs Z => ?_)
      exact zr_v hY P0 hx hb hr hlocks h Z dX3_bind_31
