set_option maxHeartbeats 4000000 in
set_option maxRecDepth 100000 in
theorem kX9_top {g : zG} (l : Launch) (hO : zinjX g) (a1 : Int32) (S : zSt) (r : Int32) (S' : zSt) (h : fX9_top a1 S = some (r, S')) : zMi (zYX g) l yX9_top vX9_top { frames := 3, cells := 0, slots := 0, locals := 62 } ([.ref (zad g 0), .int a1] : List Value) S r S' := by
  have hY := zOkX hO
  refine Met.ofW (cc := cX9_top) (maxL := 3) (ret := (some .int)) (by decide) rfl ?_
  intro p e s m args below meth c s₁ B hml hv
  obtain ⟨rfl, hP⟩ := hv
  have hx := B.exec
  have hb := B.bytes
  have hr := B.returns
  have hts := atoms_spec (ws := vX9_top) B.pre
  have hT : ∀ w ∈ zTB, w.before ([.ref (zad g 0), .int a1] : List Value).toArray s = true := fun w h => hts w (List.mem_cons_of_mem _ h)
  have hown : s.vm.findClass RX9 = some m.cls := findClass_of_methodNamed B.named
  have hlocks := B.notSynchronized
  have P0 := hP.2
  have Z : zZ (zYX g) S s s.heap [] := ⟨hP.1, va_S.rf⟩
  have hf : ∀ w ∈ u_ws RX9 TX9 13, w.before ([.ref (zad g 0), .int a1] : List Value).toArray s = true := fun w hw => hT w (mU_X9 w hw)
  have L71 := hT _ mF_X9_71
  have L47 := hT _ mF_X9_47
  have hl := lv_entry ([.ref (zad g 0), .int a1] : List Value) (n := 3) (Nat.le_of_ble_eq_true rfl)
  rw [lg_entry_eq]
  generalize (lg_sl ([.ref (zad g 0), .int a1] : List Value) ++ List.replicate (3 - (lg_sl ([.ref (zad g 0), .int a1] : List Value)).length) Slot.unset).toArray = ls at hl ⊢
  have hl : lv_has ls 3 [(0, .ref (zad g 0)), (1, .int a1)] := hl
  unfold fX9_top at h
  refine lv_aload_n hx hb dX9_top_0 rfl (lv_at hl 0 rfl) ?_
  refine zgX9_8 (v := (zI S 0)) hx hb hf hown P0 Z L71 rfl dX9_top_1 ?_
  refine lv_if_ne (tgt := 10) hx hb dX9_top_4 (by decide) (fun q => ?_) (fun q => ?_)
  · have h := zi_f q h
    refine lv_aload_n hx hb dX9_top_10 rfl (lv_at hl 0 rfl) ?_
    refine zgX9_4 hx hb hf hown P0 Z L47 dX9_top_11 ?_
    refine lv_iload_n hx hb dX9_top_14 rfl (lv_at hl 1 rfl) ?_
    obtain ⟨r1, S2, ec, h⟩ := zbd_s h
    refine zc_Vi hY P0 ⟨hx, hb, hml, hown, hT⟩ (As := [.int a1]) (rest := []) (kX6_fromTop l hO a1 S r1 S2 ec) (cwV 1 hT (zgV mL_X9_177 mI_X6_fromTop mS_X6_fromTop mN_X6 mC_X6_fromTop) rfl rfl rfl hdnX6_fromTop ⟨Nat.le_of_ble_eq_true rfl, Nat.le_of_ble_eq_true rfl⟩) (zrecX_6 P0 Z) Z rfl hl.1 rfl (Nat.le_of_ble_eq_true rfl) dX9_top_15 (fun H locs Z => ?_)
    refine lv_istore_n (lv' := [(2, .int r1), (0, .ref (zad g 0)), (1, .int a1)]) hx hb dX9_top_18 rfl hl (by decide) rfl (fun ls hl => ?_)
    refine lv_iload_n hx hb dX9_top_19 rfl (lv_at hl 0 rfl) ?_
    refine lv_iconst (v := (-1 : Int32)) hx hb dX9_top_20 (by decide) ?_
    refine lv_icmp_ne (tgt := 28) hx hb dX9_top_21 (by decide) (fun q => ?_) (fun q => ?_)
    · have h := zi_f q h
      refine lv_iload_n hx hb dX9_top_28 rfl (lv_at hl 0 rfl) ?_
      exact zr_i hY P0 hx hb hr hlocks h Z dX9_top_29
    · have h := zi_t q h
      refine lv_iconst (v := (-1 : Int32)) hx hb dX9_top_24 (by decide) ?_
      refine lv_goto (tgt := 29) hx hb dX9_top_25 (by decide) ?_
      exact zr_i hY P0 hx hb hr hlocks h Z dX9_top_29
  · have h := zi_t q h
    refine lv_bipush (v := (-3 : Int32)) hx hb dX9_top_7 (by decide) ?_
    exact zr_i hY P0 hx hb hr hlocks h Z dX9_top_9

set_option maxHeartbeats 4000000 in
set_option maxRecDepth 100000 in
theorem kX6_topOfDumped {g : zG} (l : Launch) (hO : zinjX g) (a1 : Int32) (S : zSt) (r : Int32) (S' : zSt) (h : fX6_topOfDumped a1 S = some (r, S')) : zMi (zYX g) l yX6_topOfDumped vX6_topOfDumped { frames := 1, cells := 0, slots := 0, locals := 21 } ([.ref (zad g 6), .int a1] : List Value) S r S' := by
  have hY := zOkX hO
  refine Met.ofW (cc := cX6_topOfDumped) (maxL := 2) (ret := (some .int)) (by decide) rfl ?_
  intro p e s m args below meth c s₁ B hml hv
  obtain ⟨rfl, hP⟩ := hv
  have hx := B.exec
  have hb := B.bytes
  have hr := B.returns
  have hts := atoms_spec (ws := vX6_topOfDumped) B.pre
  have hT : ∀ w ∈ zTB, w.before ([.ref (zad g 6), .int a1] : List Value).toArray s = true := fun w h => hts w (List.mem_cons_of_mem _ h)
  have hown : s.vm.findClass RX6 = some m.cls := findClass_of_methodNamed B.named
  have hlocks := B.notSynchronized
  have P0 := hP.2
  have Z : zZ (zYX g) S s s.heap [] := ⟨hP.1, va_S.rf⟩
  have hf : ∀ w ∈ u_ws RX6 TX6 4, w.before ([.ref (zad g 6), .int a1] : List Value).toArray s = true := fun w hw => hT w (mU_X6 w hw)
  have L22 := hT _ mF_X6_22
  have hl := lv_entry ([.ref (zad g 6), .int a1] : List Value) (n := 2) (Nat.le_of_ble_eq_true rfl)
  rw [lg_entry_eq]
  generalize (lg_sl ([.ref (zad g 6), .int a1] : List Value) ++ List.replicate (2 - (lg_sl ([.ref (zad g 6), .int a1] : List Value)).length) Slot.unset).toArray = ls at hl ⊢
  have hl : lv_has ls 2 [(0, .ref (zad g 6)), (1, .int a1)] := hl
  unfold fX6_topOfDumped at h
  refine lv_iload_n hx hb dX6_topOfDumped_0 rfl (lv_at hl 1 rfl) ?_
  refine lv_if_lt (tgt := 31) hx hb dX6_topOfDumped_1 (by decide) (fun q => ?_) (fun q => ?_)
  · have h := zi_t q h
    refine lv_iconst (v := (-1 : Int32)) hx hb dX6_topOfDumped_31 (by decide) ?_
    exact zr_i hY P0 hx hb hr hlocks h Z dX6_topOfDumped_32
  · have h := zi_f q h
    refine lv_iload_n hx hb dX6_topOfDumped_4 rfl (lv_at hl 1 rfl) ?_
    refine lv_aload_n hx hb dX6_topOfDumped_5 rfl (lv_at hl 0 rfl) ?_
    refine zgX6_3 (v := (zI S 20)) hx hb hf hown P0 Z L22 rfl dX6_topOfDumped_6 ?_
    refine lv_icmp_ge (tgt := 31) hx hb dX6_topOfDumped_9 (by decide) (fun q => ?_) (fun q => ?_)
    · have h := zi_t q h
      refine lv_iconst (v := (-1 : Int32)) hx hb dX6_topOfDumped_31 (by decide) ?_
      exact zr_i hY P0 hx hb hr hlocks h Z dX6_topOfDumped_32
    · have h := zi_f q h
      refine lv_aload_n hx hb dX6_topOfDumped_12 rfl (lv_at hl 0 rfl) ?_
      refine lv_aload_n hx hb dX6_topOfDumped_13 rfl (lv_at hl 0 rfl) ?_
      refine lv_aload_n hx hb dX6_topOfDumped_14 rfl (lv_at hl 0 rfl) ?_
      refine zgX6_3 (v := (zI S 20)) hx hb hf hown P0 Z L22 rfl dX6_topOfDumped_15 ?_
      refine lv_iload_n hx hb dX6_topOfDumped_18 rfl (lv_at hl 1 rfl) ?_
      refine lv_isub hx hb dX6_topOfDumped_19 ?_
      obtain ⟨r1, S2, ec, h⟩ := zbd_s h
      refine zc_Vi hY P0 ⟨hx, hb, hml, hown, hT⟩ (As := [.int ((zI S 20) - a1)]) (rest := [.ref (zad g 6)]) (kX6_beginOf l hO ((zI S 20) - a1) S r1 S2 ec) (cwV 1 hT (zgV mL_X6_29 mI_X6_beginOf mS_X6_beginOf mN_X6 mC_X6_beginOf) rfl rfl rfl hdnX6_beginOf ⟨Nat.le_of_ble_eq_true rfl, Nat.le_of_ble_eq_true rfl⟩) (zrecX_6 P0 Z) Z rfl hl.1 rfl (Nat.le_of_ble_eq_true rfl) dX6_topOfDumped_20 (fun H locs Z => ?_)
      refine lv_iconst (v := (nI 1)) hx hb dX6_topOfDumped_23 (by decide) ?_
      refine lv_isub hx hb dX6_topOfDumped_24 ?_
      obtain ⟨r3, S4, ec, h⟩ := zbd_s h
      refine zc_Vi hY P0 ⟨hx, hb, hml, hown, hT⟩ (As := [.int (r1 - (nI 1))]) (rest := []) (kX6_at l hO (r1 - (nI 1)) S2 r3 S4 ec) (cwV 1 hT (zgV mL_X6_37 mI_X6_at mS_X6_at mN_X6 mC_X6_at) rfl rfl rfl hdnX6_at ⟨Nat.le_of_ble_eq_true rfl, Nat.le_of_ble_eq_true rfl⟩) (zrecX_6 P0 Z) Z rfl hl.1 rfl (Nat.le_of_ble_eq_true rfl) dX6_topOfDumped_25 (fun H locs Z => ?_)
      refine lv_goto (tgt := 32) hx hb dX6_topOfDumped_28 (by decide) ?_
      exact zr_i hY P0 hx hb hr hlocks h Z dX6_topOfDumped_32

set_option maxHeartbeats 4000000 in
set_option maxRecDepth 100000 in
theorem kX9_why {g : zG} (l : Launch) (hO : zinjX g) (a1 : Int32) (S : zSt) (r : Int32) (S' : zSt) (h : fX9_why a1 S = some (r, S')) : zMi (zYX g) l yX9_why vX9_why { frames := 2, cells := 0, slots := 0, locals := 42 } ([.ref (zad g 0), .int a1] : List Value) S r S' := by
  have hY := zOkX hO
  refine Met.ofW (cc := cX9_why) (maxL := 3) (ret := (some .int)) (by decide) rfl ?_
  intro p e s m args below meth c s₁ B hml hv
  obtain ⟨rfl, hP⟩ := hv
  have hx := B.exec
  have hb := B.bytes
  have hr := B.returns
  have hts := atoms_spec (ws := vX9_why) B.pre
  have hT : ∀ w ∈ zTB, w.before ([.ref (zad g 0), .int a1] : List Value).toArray s = true := fun w h => hts w (List.mem_cons_of_mem _ h)
  have hown : s.vm.findClass RX9 = some m.cls := findClass_of_methodNamed B.named
  have hlocks := B.notSynchronized
  have P0 := hP.2
  have Z : zZ (zYX g) S s s.heap [] := ⟨hP.1, va_S.rf⟩
  have hf : ∀ w ∈ u_ws RX9 TX9 13, w.before ([.ref (zad g 0), .int a1] : List Value).toArray s = true := fun w hw => hT w (mU_X9 w hw)
  have L71 := hT _ mF_X9_71
  have L47 := hT _ mF_X9_47
  have hl := lv_entry ([.ref (zad g 0), .int a1] : List Value) (n := 3) (Nat.le_of_ble_eq_true rfl)
  rw [lg_entry_eq]
  generalize (lg_sl ([.ref (zad g 0), .int a1] : List Value) ++ List.replicate (3 - (lg_sl ([.ref (zad g 0), .int a1] : List Value)).length) Slot.unset).toArray = ls at hl ⊢
  have hl : lv_has ls 3 [(0, .ref (zad g 0)), (1, .int a1)] := hl
  unfold fX9_why at h
  refine lv_aload_n hx hb dX9_why_0 rfl (lv_at hl 0 rfl) ?_
  refine zgX9_8 (v := (zI S 0)) hx hb hf hown P0 Z L71 rfl dX9_why_1 ?_
  refine lv_if_ne (tgt := 10) hx hb dX9_why_4 (by decide) (fun q => ?_) (fun q => ?_)
  · have h := zi_f q h
    refine lv_aload_n hx hb dX9_why_10 rfl (lv_at hl 0 rfl) ?_
    refine zgX9_4 hx hb hf hown P0 Z L47 dX9_why_11 ?_
    refine lv_iload_n hx hb dX9_why_14 rfl (lv_at hl 1 rfl) ?_
    obtain ⟨r1, S2, ec, h⟩ := zbd_s h
    refine zc_Vi hY P0 ⟨hx, hb, hml, hown, hT⟩ (As := [.int a1]) (rest := []) (kX6_topOfDumped l hO a1 S r1 S2 ec) (cwV 1 hT (zgV mL_X9_180 mI_X6_topOfDumped mS_X6_topOfDumped mN_X6 mC_X6_topOfDumped) rfl rfl rfl hdnX6_topOfDumped ⟨Nat.le_of_ble_eq_true rfl, Nat.le_of_ble_eq_true rfl⟩) (zrecX_6 P0 Z) Z rfl hl.1 rfl (Nat.le_of_ble_eq_true rfl) dX9_why_15 (fun H locs Z => ?_)
    refine lv_istore_n (lv' := [(2, .int r1), (0, .ref (zad g 0)), (1, .int a1)]) hx hb dX9_why_18 rfl hl (by decide) rfl (fun ls hl => ?_)
    refine lv_iload_n hx hb dX9_why_19 rfl (lv_at hl 0 rfl) ?_
    refine lv_iconst (v := (-1 : Int32)) hx hb dX9_why_20 (by decide) ?_
    refine lv_icmp_ne (tgt := 28) hx hb dX9_why_21 (by decide) (fun q => ?_) (fun q => ?_)
    · have h := zi_f q h
      refine lv_iload_n hx hb dX9_why_28 rfl (lv_at hl 0 rfl) ?_
      exact zr_i hY P0 hx hb hr hlocks h Z dX9_why_29
    · have h := zi_t q h
      refine lv_iconst (v := (-1 : Int32)) hx hb dX9_why_24 (by decide) ?_
      refine lv_goto (tgt := 29) hx hb dX9_why_25 (by decide) ?_
      exact zr_i hY P0 hx hb hr hlocks h Z dX9_why_29
  · have h := zi_t q h
    refine lv_bipush (v := (-3 : Int32)) hx hb dX9_why_7 (by decide) ?_
    exact zr_i hY P0 hx hb hr hlocks h Z dX9_why_9

set_option maxHeartbeats 4000000 in
set_option maxRecDepth 100000 in
theorem kX1_onWay {g : zG} (l : Launch) (hO : zinjX g) (a1 : Int32) (a2 : Int32) (S : zSt) (r : Int32) (S' : zSt) (h : fX1_onWay a1 a2 S = some (r, S')) : zMi (zYX g) l yX1_onWay vX1_onWay { frames := 1, cells := 0, slots := 0, locals := 21 } ([.ref (zad g 9), .int a1, .int a2] : List Value) S r S' := by
  have hY := zOkX hO
  refine Met.ofW (cc := cX1_onWay) (maxL := 5) (ret := (some .int)) (by decide) rfl ?_
  intro p e s m args below meth c s₁ B hml hv
  obtain ⟨rfl, hP⟩ := hv
  have hx := B.exec
  have hb := B.bytes
  have hr := B.returns
  have hts := atoms_spec (ws := vX1_onWay) B.pre
  have hT : ∀ w ∈ zTB, w.before ([.ref (zad g 9), .int a1, .int a2] : List Value).toArray s = true := fun w h => hts w (List.mem_cons_of_mem _ h)
  have hown : s.vm.findClass RX1 = some m.cls := findClass_of_methodNamed B.named
  have hlocks := B.notSynchronized
  have P0 := hP.2
  have Z : zZ (zYX g) S s s.heap [] := ⟨hP.1, va_S.rf⟩
  have hf : ∀ w ∈ u_ws RX1 TX1 7, w.before ([.ref (zad g 9), .int a1, .int a2] : List Value).toArray s = true := fun w hw => hT w (mU_X1 w hw)
  have L22 := hT _ mF_X1_22
  have B11 : ∀ (n : Nat) (x2 : Int32) (x3 : Int32) (x4 : Int32) (S : zSt), fX1_onWay_11L n (x2, x3, x4, S) = some (r, S') → ∀ (H : Heap) (locs : List Loc), zZ (zYX g) S s H locs → ∀ ls : Array Slot, lv_has ls 5 [(0, .ref (zad g 9)), (2, .int x2), (3, .int x3), (4, .int x4)] → W p l e (headSpec vX1_onWay { frames := 1, cells := 0, slots := 0, locals := 21 }).room s m ([.ref (zad g 9), .int a1, .int a2] : List Value).toArray below meth c H locs 0 0 (MQ below (zQi (zYX g) r S') ([.ref (zad g 9), .int a1, .int a2] : List Value).toArray s 0 0 (zYX g).2.2.1) (F0 m 11 ls []) := by
    intro n
    induction n with
    | zero => intro x2 x3 x4 S h; exact absurd h (fun h => nomatch h)
    | succ n K11 =>
      intro x2 x3 x4 S h H locs Z ls hl
      have h : fX1_onWay_11 (fX1_onWay_11L n) x2 x3 x4 S = some (r, S') := h
      unfold fX1_onWay_11 at h
      refine lv_iload hx hb dX1_onWay_11 (lv_at hl 3 rfl) ?_
      refine lv_iload_n hx hb dX1_onWay_13 rfl (lv_at hl 1 rfl) ?_
      refine lv_icmp_le (tgt := 41) hx hb dX1_onWay_14 (by decide) (fun q => ?_) (fun q => ?_)
      · have h := zi_t q h
        refine lv_iload_n hx hb dX1_onWay_41 rfl (lv_at hl 2 rfl) ?_
        exact zr_i hY P0 hx hb hr hlocks h Z dX1_onWay_42
      · have h := zi_f q h
        refine lv_iload_n hx hb dX1_onWay_17 rfl (lv_at hl 2 rfl) ?_
        refine lv_if_lt (tgt := 41) hx hb dX1_onWay_18 (by decide) (fun q => ?_) (fun q => ?_)
        · have h := zi_t q h
          refine lv_iload_n hx hb dX1_onWay_41 rfl (lv_at hl 2 rfl) ?_
          exact zr_i hY P0 hx hb hr hlocks h Z dX1_onWay_42
        · have h := zi_f q h
          refine lv_iload_n hx hb dX1_onWay_21 rfl (lv_at hl 2 rfl) ?_
          refine lv_sipush (v := (nI 400)) hx hb dX1_onWay_22 (by decide) ?_
          refine lv_icmp_ge (tgt := 41) hx hb dX1_onWay_25 (by decide) (fun q => ?_) (fun q => ?_)
          · have h := zi_t q h
            refine lv_iload_n hx hb dX1_onWay_41 rfl (lv_at hl 2 rfl) ?_
            exact zr_i hY P0 hx hb hr hlocks h Z dX1_onWay_42
          · have h := zi_f q h
            refine lv_aload_n hx hb dX1_onWay_28 rfl (lv_at hl 0 rfl) ?_
            refine zgX1_6 hx hb hf hown P0 Z L22 dX1_onWay_29 ?_
            refine lv_iload_n hx hb dX1_onWay_32 rfl (lv_at hl 2 rfl) ?_
            obtain ⟨v3, ev, hin, h⟩ := zld_s h
            refine zlX_38 hx hb P0 Z ev hin dX1_onWay_33 ?_
            refine lv_istore_n (lv' := [(3, .int v3), (0, .ref (zad g 9)), (2, .int x2), (4, .int x4)]) hx hb dX1_onWay_34 rfl hl (by decide) rfl (fun ls hl => ?_)
            refine lv_iinc (v := (x4 + (-1 : Int32))) (lv' := [(4, .int (x4 + (-1 : Int32))), (3, .int v3), (0, .ref (zad g 9)), (2, .int x2)]) hx hb dX1_onWay_35 hl (k := 3) rfl rfl (by decide) rfl (fun ls hl => ?_)
            refine lv_goto (tgt := 11) hx hb dX1_onWay_38 (by decide) ?_
            exact K11 x2 v3 (x4 + (-1 : Int32)) S h _ _ Z ls (lv_sub hl [2, 3, 1, 0] rfl)
  have hl := lv_entry ([.ref (zad g 9), .int a1, .int a2] : List Value) (n := 5) (Nat.le_of_ble_eq_true rfl)
  rw [lg_entry_eq]
  generalize (lg_sl ([.ref (zad g 9), .int a1, .int a2] : List Value) ++ List.replicate (5 - (lg_sl ([.ref (zad g 9), .int a1, .int a2] : List Value)).length) Slot.unset).toArray = ls at hl ⊢
  have hl : lv_has ls 5 [(0, .ref (zad g 9)), (1, .int a1), (2, .int a2)] := hl
  unfold fX1_onWay at h
  refine lv_iload_n hx hb dX1_onWay_0 rfl (lv_at hl 1 rfl) ?_
  refine lv_istore_n (lv' := [(3, .int a1), (0, .ref (zad g 9)), (1, .int a1), (2, .int a2)]) hx hb dX1_onWay_1 rfl hl (by decide) rfl (fun ls hl => ?_)
  refine lv_aload_n hx hb dX1_onWay_2 rfl (lv_at hl 1 rfl) ?_
  refine lv_iload_n hx hb dX1_onWay_3 rfl (lv_at hl 2 rfl) ?_
  obtain ⟨r1, S2, ec, h⟩ := zbd_s h
  refine zc_Vi hY P0 ⟨hx, hb, hml, hown, hT⟩ (As := [.int a1]) (rest := []) (kX1_lengthOf l hO a1 S r1 S2 ec) (cwV 1 hT (zgV mL_X1_40 mI_X1_lengthOf mS_X1_lengthOf mN_X1 mC_X1_lengthOf) rfl rfl rfl hdnX1_lengthOf ⟨Nat.le_of_ble_eq_true rfl, Nat.le_of_ble_eq_true rfl⟩) (zrecX_9 P0 Z) Z rfl hl.1 rfl (Nat.le_of_ble_eq_true rfl) dX1_onWay_4 (fun H locs Z => ?_)
  refine lv_iconst (v := (nI 1)) hx hb dX1_onWay_7 (by decide) ?_
  refine lv_isub hx hb dX1_onWay_8 ?_
  refine lv_istore (lv' := [(4, .int (r1 - (nI 1))), (3, .int a1), (0, .ref (zad g 9)), (1, .int a1), (2, .int a2)]) hx hb dX1_onWay_9 hl (by decide) rfl (fun ls hl => ?_)
  exact B11 zFU a2 a1 (r1 - (nI 1)) S2 h _ _ Z ls (lv_sub hl [2, 4, 1, 0] rfl)

set_option maxHeartbeats 4000000 in
set_option maxRecDepth 100000 in
theorem kX1_wayTo {g : zG} (l : Launch) (hO : zinjX g) (a1 : Int32) (S : zSt) (r : Int32) (S' : zSt) (h : fX1_wayTo a1 S = some (r, S')) : zMi (zYX g) l yX1_wayTo vX1_wayTo { frames := 3, cells := 0, slots := 0, locals := 68 } ([.ref (zad g 9), .int a1] : List Value) S r S' := by
  have hY := zOkX hO
  refine Met.ofW (cc := cX1_wayTo) (maxL := 2) (ret := (some .int)) (by decide) rfl ?_
  intro p e s m args below meth c s₁ B hml hv
  obtain ⟨rfl, hP⟩ := hv
  have hx := B.exec
  have hb := B.bytes
  have hr := B.returns
  have hts := atoms_spec (ws := vX1_wayTo) B.pre
  have hT : ∀ w ∈ zTB, w.before ([.ref (zad g 9), .int a1] : List Value).toArray s = true := fun w h => hts w (List.mem_cons_of_mem _ h)
  have hown : s.vm.findClass RX1 = some m.cls := findClass_of_methodNamed B.named
  have hlocks := B.notSynchronized
  have P0 := hP.2
  have Z : zZ (zYX g) S s s.heap [] := ⟨hP.1, va_S.rf⟩
  have hl := lv_entry ([.ref (zad g 9), .int a1] : List Value) (n := 2) (Nat.le_of_ble_eq_true rfl)
  rw [lg_entry_eq]
  generalize (lg_sl ([.ref (zad g 9), .int a1] : List Value) ++ List.replicate (2 - (lg_sl ([.ref (zad g 9), .int a1] : List Value)).length) Slot.unset).toArray = ls at hl ⊢
  have hl : lv_has ls 2 [(0, .ref (zad g 9)), (1, .int a1)] := hl
  unfold fX1_wayTo at h
  refine lv_aload_n hx hb dX1_wayTo_0 rfl (lv_at hl 0 rfl) ?_
  obtain ⟨r1, S2, ec, h⟩ := zbd_s h
  refine zc_Vv hY P0 ⟨hx, hb, hml, hown, hT⟩ (As := []) (rest := []) (kX1_findKept l hO  S r1 S2 ec) (cwV 0 hT (zgV mL_X1_37 mI_X1_findKept mS_X1_findKept mN_X1 mC_X1_findKept) rfl rfl rfl hdnX1_findKept ⟨Nat.le_of_ble_eq_true rfl, Nat.le_of_ble_eq_true rfl⟩) (zrecX_9 P0 Z) Z rfl hl.1 rfl (Nat.le_of_ble_eq_true rfl) dX1_wayTo_1 (fun H locs Z => ?_)
  refine lv_aload_n hx hb dX1_wayTo_4 rfl (lv_at hl 0 rfl) ?_
  refine lv_iload_n hx hb dX1_wayTo_5 rfl (lv_at hl 1 rfl) ?_
  obtain ⟨r3, S4, ec, h⟩ := zbd_s h
  refine zc_Vi hY P0 ⟨hx, hb, hml, hown, hT⟩ (As := [.int a1]) (rest := []) (kX1_lengthOf l hO a1 S2 r3 S4 ec) (cwV 1 hT (zgV mL_X1_40 mI_X1_lengthOf mS_X1_lengthOf mN_X1 mC_X1_lengthOf) rfl rfl rfl hdnX1_lengthOf ⟨Nat.le_of_ble_eq_true rfl, Nat.le_of_ble_eq_true rfl⟩) (zrecX_9 P0 Z) Z rfl hl.1 rfl (Nat.le_of_ble_eq_true rfl) dX1_wayTo_6 (fun H locs Z => ?_)
  exact zr_i hY P0 hx hb hr hlocks h Z dX1_wayTo_9

set_option maxHeartbeats 4000000 in
set_option maxRecDepth 100000 in
theorem kX9_way {g : zG} (l : Launch) (hO : zinjX g) (a1 : Int32) (a2 : Int32) (S : zSt) (r : Int32) (S' : zSt) (h : fX9_way a1 a2 S = some (r, S')) : zMi (zYX g) l yX9_way vX9_way { frames := 4, cells := 0, slots := 0, locals := 89 } ([.ref (zad g 0), .int a1, .int a2] : List Value) S r S' := by
  have hY := zOkX hO
  refine Met.ofW (cc := cX9_way) (maxL := 4) (ret := (some .int)) (by decide) rfl ?_
  intro p e s m args below meth c s₁ B hml hv
  obtain ⟨rfl, hP⟩ := hv
  have hx := B.exec
  have hb := B.bytes
  have hr := B.returns
  have hts := atoms_spec (ws := vX9_way) B.pre
  have hT : ∀ w ∈ zTB, w.before ([.ref (zad g 0), .int a1, .int a2] : List Value).toArray s = true := fun w h => hts w (List.mem_cons_of_mem _ h)
  have hown : s.vm.findClass RX9 = some m.cls := findClass_of_methodNamed B.named
  have hlocks := B.notSynchronized
  have P0 := hP.2
  have Z : zZ (zYX g) S s s.heap [] := ⟨hP.1, va_S.rf⟩
  have hf : ∀ w ∈ u_ws RX9 TX9 13, w.before ([.ref (zad g 0), .int a1, .int a2] : List Value).toArray s = true := fun w hw => hT w (mU_X9 w hw)
  have L71 := hT _ mF_X9_71
  have L63 := hT _ mF_X9_63
  have hl := lv_entry ([.ref (zad g 0), .int a1, .int a2] : List Value) (n := 4) (Nat.le_of_ble_eq_true rfl)
  rw [lg_entry_eq]
  generalize (lg_sl ([.ref (zad g 0), .int a1, .int a2] : List Value) ++ List.replicate (4 - (lg_sl ([.ref (zad g 0), .int a1, .int a2] : List Value)).length) Slot.unset).toArray = ls at hl ⊢
  have hl : lv_has ls 4 [(0, .ref (zad g 0)), (1, .int a1), (2, .int a2)] := hl
  unfold fX9_way at h
  refine lv_aload_n hx hb dX9_way_0 rfl (lv_at hl 0 rfl) ?_
  refine zgX9_8 (v := (zI S 0)) hx hb hf hown P0 Z L71 rfl dX9_way_1 ?_
  refine lv_if_ne (tgt := 10) hx hb dX9_way_4 (by decide) (fun q => ?_) (fun q => ?_)
  · have h := zi_f q h
    refine lv_aload_n hx hb dX9_way_10 rfl (lv_at hl 0 rfl) ?_
    refine zgX9_6 hx hb hf hown P0 Z L63 dX9_way_11 ?_
    refine lv_iload_n hx hb dX9_way_14 rfl (lv_at hl 1 rfl) ?_
    obtain ⟨r1, S2, ec, h⟩ := zbd_s h
    refine zc_Vi hY P0 ⟨hx, hb, hml, hown, hT⟩ (As := [.int a1]) (rest := []) (kX1_wayTo l hO a1 S r1 S2 ec) (cwV 1 hT (zgV mL_X9_183 mI_X1_wayTo mS_X1_wayTo mN_X1 mC_X1_wayTo) rfl rfl rfl hdnX1_wayTo ⟨Nat.le_of_ble_eq_true rfl, Nat.le_of_ble_eq_true rfl⟩) (zrecX_9 P0 Z) Z rfl hl.1 rfl (Nat.le_of_ble_eq_true rfl) dX9_way_15 (fun H locs Z => ?_)
    refine lv_istore_n (lv' := [(3, .int r1), (0, .ref (zad g 0)), (1, .int a1), (2, .int a2)]) hx hb dX9_way_18 rfl hl (by decide) rfl (fun ls hl => ?_)
    refine lv_iload_n hx hb dX9_way_19 rfl (lv_at hl 0 rfl) ?_
    refine lv_if_eq (tgt := 33) hx hb dX9_way_20 (by decide) (fun q => ?_) (fun q => ?_)
    · have h := zi_t q h
      refine lv_iconst (v := (-1 : Int32)) hx hb dX9_way_33 (by decide) ?_
      exact zr_i hY P0 hx hb hr hlocks h Z dX9_way_34
    · have h := zi_f q h
      refine lv_iload_n hx hb dX9_way_23 rfl (lv_at hl 3 rfl) ?_
      refine lv_iconst (v := (-1 : Int32)) hx hb dX9_way_24 (by decide) ?_
      refine lv_icmp_lt (tgt := 33) hx hb dX9_way_25 (by decide) (fun q => ?_) (fun q => ?_)
      · have h := zi_t q h
        refine lv_iconst (v := (-1 : Int32)) hx hb dX9_way_33 (by decide) ?_
        exact zr_i hY P0 hx hb hr hlocks h Z dX9_way_34
      · have h := zi_f q h
        refine lv_iload_n hx hb dX9_way_28 rfl (lv_at hl 3 rfl) ?_
        refine lv_iload_n hx hb dX9_way_29 rfl (lv_at hl 0 rfl) ?_
        refine lv_icmp_lt (tgt := 35) hx hb dX9_way_30 (by decide) (fun q => ?_) (fun q => ?_)
        · have h := zi_t q h
          refine lv_iload_n hx hb dX9_way_35 rfl (lv_at hl 3 rfl) ?_
          refine lv_iconst (v := (-1 : Int32)) hx hb dX9_way_36 (by decide) ?_
          refine lv_icmp_ne (tgt := 44) hx hb dX9_way_37 (by decide) (fun q => ?_) (fun q => ?_)
          · have h := zi_f q h
            refine lv_aload_n hx hb dX9_way_44 rfl (lv_at hl 1 rfl) ?_
            refine zgX9_6 hx hb hf hown P0 Z L63 dX9_way_45 ?_
            refine lv_iload_n hx hb dX9_way_48 rfl (lv_at hl 2 rfl) ?_
            refine lv_iload_n hx hb dX9_way_49 rfl (lv_at hl 3 rfl) ?_
            obtain ⟨r3, S4, ec, h⟩ := zbd_s h
            refine zc_Vi hY P0 ⟨hx, hb, hml, hown, hT⟩ (As := [.int a1, .int a2]) (rest := []) (kX1_onWay l hO a1 a2 S2 r3 S4 ec) (cwV 2 hT (zgV mL_X9_186 mI_X1_onWay mS_X1_onWay mN_X1 mC_X1_onWay) rfl rfl rfl hdnX1_onWay ⟨Nat.le_of_ble_eq_true rfl, Nat.le_of_ble_eq_true rfl⟩) (zrecX_9 P0 Z) Z rfl hl.1 rfl (Nat.le_of_ble_eq_true rfl) dX9_way_50 (fun H locs Z => ?_)
            exact zr_i hY P0 hx hb hr hlocks h Z dX9_way_53
          · have h := zi_t q h
            refine lv_iload_n hx hb dX9_way_40 rfl (lv_at hl 0 rfl) ?_
            refine lv_goto (tgt := 53) hx hb dX9_way_41 (by decide) ?_
            exact zr_i hY P0 hx hb hr hlocks h Z dX9_way_53
        · have h := zi_f q h
          refine lv_iconst (v := (-1 : Int32)) hx hb dX9_way_33 (by decide) ?_
          exact zr_i hY P0 hx hb hr hlocks h Z dX9_way_34
  · have h := zi_t q h
    refine lv_bipush (v := (-3 : Int32)) hx hb dX9_way_7 (by decide) ?_
    exact zr_i hY P0 hx hb hr hlocks h Z dX9_way_9

set_option maxHeartbeats 4000000 in
set_option maxRecDepth 100000 in
theorem kX2_nodesMadeBy {g : zG} (l : Launch) (hO : zinjX g) (a1 : Int32) (S : zSt) (r : Int32) (S' : zSt) (h : fX2_nodesMadeBy a1 S = some (r, S')) : zMi (zYX g) l yX2_nodesMadeBy vX2_nodesMadeBy { frames := 0, cells := 0, slots := 0, locals := 0 } ([.ref (zad g 7), .int a1] : List Value) S r S' := by
  have hY := zOkX hO
  refine Met.ofW (cc := cX2_nodesMadeBy) (maxL := 2) (ret := (some .int)) (by decide) rfl ?_
  intro p e s m args below meth c s₁ B hml hv
  obtain ⟨rfl, hP⟩ := hv
  have hx := B.exec
  have hb := B.bytes
  have hr := B.returns
  have hts := atoms_spec (ws := vX2_nodesMadeBy) B.pre
  have hT : ∀ w ∈ zTB, w.before ([.ref (zad g 7), .int a1] : List Value).toArray s = true := fun w h => hts w (List.mem_cons_of_mem _ h)
  have hown : s.vm.findClass RX2 = some m.cls := findClass_of_methodNamed B.named
  have hlocks := B.notSynchronized
  have P0 := hP.2
  have Z : zZ (zYX g) S s s.heap [] := ⟨hP.1, va_S.rf⟩
  have hf : ∀ w ∈ u_ws RX2 TX2 11, w.before ([.ref (zad g 7), .int a1] : List Value).toArray s = true := fun w hw => hT w (mU_X2 w hw)
  have L15 := hT _ mF_X2_15
  have hl := lv_entry ([.ref (zad g 7), .int a1] : List Value) (n := 2) (Nat.le_of_ble_eq_true rfl)
  rw [lg_entry_eq]
  generalize (lg_sl ([.ref (zad g 7), .int a1] : List Value) ++ List.replicate (2 - (lg_sl ([.ref (zad g 7), .int a1] : List Value)).length) Slot.unset).toArray = ls at hl ⊢
  have hl : lv_has ls 2 [(0, .ref (zad g 7)), (1, .int a1)] := hl
  unfold fX2_nodesMadeBy at h
  refine lv_iload_n hx hb dX2_nodesMadeBy_0 rfl (lv_at hl 1 rfl) ?_
  refine lv_if_lt (tgt := 19) hx hb dX2_nodesMadeBy_1 (by decide) (fun q => ?_) (fun q => ?_)
  · have h := zi_t q h
    refine lv_iconst (v := (nI 0)) hx hb dX2_nodesMadeBy_19 (by decide) ?_
    exact zr_i hY P0 hx hb hr hlocks h Z dX2_nodesMadeBy_20
  · have h := zi_f q h
    refine lv_iload_n hx hb dX2_nodesMadeBy_4 rfl (lv_at hl 1 rfl) ?_
    refine lv_bipush (v := (nI 20)) hx hb dX2_nodesMadeBy_5 (by decide) ?_
    refine lv_icmp_ge (tgt := 19) hx hb dX2_nodesMadeBy_7 (by decide) (fun q => ?_) (fun q => ?_)
    · have h := zi_t q h
      refine lv_iconst (v := (nI 0)) hx hb dX2_nodesMadeBy_19 (by decide) ?_
      exact zr_i hY P0 hx hb hr hlocks h Z dX2_nodesMadeBy_20
    · have h := zi_f q h
      refine lv_aload_n hx hb dX2_nodesMadeBy_10 rfl (lv_at hl 0 rfl) ?_
      refine zgX2_5 hx hb hf hown P0 Z L15 dX2_nodesMadeBy_11 ?_
      refine lv_iload_n hx hb dX2_nodesMadeBy_14 rfl (lv_at hl 1 rfl) ?_
      obtain ⟨v1, ev, hin, h⟩ := zld_s h
      refine zlX_32 hx hb P0 Z ev hin dX2_nodesMadeBy_15 ?_
      refine lv_goto (tgt := 20) hx hb dX2_nodesMadeBy_16 (by decide) ?_
      exact zr_i hY P0 hx hb hr hlocks h Z dX2_nodesMadeBy_20

set_option maxHeartbeats 4000000 in
set_option maxRecDepth 100000 in
theorem kX2_timesMade {g : zG} (l : Launch) (hO : zinjX g) (a1 : Int32) (S : zSt) (r : Int32) (S' : zSt) (h : fX2_timesMade a1 S = some (r, S')) : zMi (zYX g) l yX2_timesMade vX2_timesMade { frames := 0, cells := 0, slots := 0, locals := 0 } ([.ref (zad g 7), .int a1] : List Value) S r S' := by
  have hY := zOkX hO
  refine Met.ofW (cc := cX2_timesMade) (maxL := 2) (ret := (some .int)) (by decide) rfl ?_
  intro p e s m args below meth c s₁ B hml hv
  obtain ⟨rfl, hP⟩ := hv
  have hx := B.exec
  have hb := B.bytes
  have hr := B.returns
  have hts := atoms_spec (ws := vX2_timesMade) B.pre
  have hT : ∀ w ∈ zTB, w.before ([.ref (zad g 7), .int a1] : List Value).toArray s = true := fun w h => hts w (List.mem_cons_of_mem _ h)
  have hown : s.vm.findClass RX2 = some m.cls := findClass_of_methodNamed B.named
  have hlocks := B.notSynchronized
  have P0 := hP.2
  have Z : zZ (zYX g) S s s.heap [] := ⟨hP.1, va_S.rf⟩
  have hf : ∀ w ∈ u_ws RX2 TX2 11, w.before ([.ref (zad g 7), .int a1] : List Value).toArray s = true := fun w hw => hT w (mU_X2 w hw)
  have L9 := hT _ mF_X2_9
  have hl := lv_entry ([.ref (zad g 7), .int a1] : List Value) (n := 2) (Nat.le_of_ble_eq_true rfl)
  rw [lg_entry_eq]
  generalize (lg_sl ([.ref (zad g 7), .int a1] : List Value) ++ List.replicate (2 - (lg_sl ([.ref (zad g 7), .int a1] : List Value)).length) Slot.unset).toArray = ls at hl ⊢
  have hl : lv_has ls 2 [(0, .ref (zad g 7)), (1, .int a1)] := hl
  unfold fX2_timesMade at h
  refine lv_iload_n hx hb dX2_timesMade_0 rfl (lv_at hl 1 rfl) ?_
  refine lv_if_lt (tgt := 19) hx hb dX2_timesMade_1 (by decide) (fun q => ?_) (fun q => ?_)
  · have h := zi_t q h
    refine lv_iconst (v := (nI 0)) hx hb dX2_timesMade_19 (by decide) ?_
    exact zr_i hY P0 hx hb hr hlocks h Z dX2_timesMade_20
  · have h := zi_f q h
    refine lv_iload_n hx hb dX2_timesMade_4 rfl (lv_at hl 1 rfl) ?_
    refine lv_bipush (v := (nI 20)) hx hb dX2_timesMade_5 (by decide) ?_
    refine lv_icmp_ge (tgt := 19) hx hb dX2_timesMade_7 (by decide) (fun q => ?_) (fun q => ?_)
    · have h := zi_t q h
      refine lv_iconst (v := (nI 0)) hx hb dX2_timesMade_19 (by decide) ?_
      exact zr_i hY P0 hx hb hr hlocks h Z dX2_timesMade_20
    · have h := zi_f q h
      refine lv_aload_n hx hb dX2_timesMade_10 rfl (lv_at hl 0 rfl) ?_
      refine zgX2_4 hx hb hf hown P0 Z L9 dX2_timesMade_11 ?_
      refine lv_iload_n hx hb dX2_timesMade_14 rfl (lv_at hl 1 rfl) ?_
      obtain ⟨v1, ev, hin, h⟩ := zld_s h
      refine zlX_31 hx hb P0 Z ev hin dX2_timesMade_15 ?_
      refine lv_goto (tgt := 20) hx hb dX2_timesMade_16 (by decide) ?_
      exact zr_i hY P0 hx hb hr hlocks h Z dX2_timesMade_20

set_option maxHeartbeats 4000000 in
set_option maxRecDepth 100000 in
theorem kX9_profile {g : zG} (l : Launch) (hO : zinjX g) (a1 : Int32) (a2 : Int32) (S : zSt) (r : Int32) (S' : zSt) (h : fX9_profile a1 a2 S = some (r, S')) : zMi (zYX g) l yX9_profile vX9_profile { frames := 1, cells := 0, slots := 0, locals := 21 } ([.ref (zad g 0), .int a1, .int a2] : List Value) S r S' := by
  have hY := zOkX hO
  refine Met.ofW (cc := cX9_profile) (maxL := 3) (ret := (some .int)) (by decide) rfl ?_
  intro p e s m args below meth c s₁ B hml hv
  obtain ⟨rfl, hP⟩ := hv
  have hx := B.exec
  have hb := B.bytes
  have hr := B.returns
  have hts := atoms_spec (ws := vX9_profile) B.pre
  have hT : ∀ w ∈ zTB, w.before ([.ref (zad g 0), .int a1, .int a2] : List Value).toArray s = true := fun w h => hts w (List.mem_cons_of_mem _ h)
  have hown : s.vm.findClass RX9 = some m.cls := findClass_of_methodNamed B.named
  have hlocks := B.notSynchronized
  have P0 := hP.2
  have Z : zZ (zYX g) S s s.heap [] := ⟨hP.1, va_S.rf⟩
  have hf : ∀ w ∈ u_ws RX9 TX9 13, w.before ([.ref (zad g 0), .int a1, .int a2] : List Value).toArray s = true := fun w hw => hT w (mU_X9 w hw)
  have L71 := hT _ mF_X9_71
  have L19 := hT _ mF_X9_19
  have L56 := hT _ mF_X9_56
  have hl := lv_entry ([.ref (zad g 0), .int a1, .int a2] : List Value) (n := 3) (Nat.le_of_ble_eq_true rfl)
  rw [lg_entry_eq]
  generalize (lg_sl ([.ref (zad g 0), .int a1, .int a2] : List Value) ++ List.replicate (3 - (lg_sl ([.ref (zad g 0), .int a1, .int a2] : List Value)).length) Slot.unset).toArray = ls at hl ⊢
  have hl : lv_has ls 3 [(0, .ref (zad g 0)), (1, .int a1), (2, .int a2)] := hl
  unfold fX9_profile at h
  refine lv_aload_n hx hb dX9_profile_0 rfl (lv_at hl 0 rfl) ?_
  refine zgX9_8 (v := (zI S 0)) hx hb hf hown P0 Z L71 rfl dX9_profile_1 ?_
  refine lv_if_ne (tgt := 10) hx hb dX9_profile_4 (by decide) (fun q => ?_) (fun q => ?_)
  · have h := zi_f q h
    refine lv_iload_n hx hb dX9_profile_10 rfl (lv_at hl 1 rfl) ?_
    refine lv_if_lt (tgt := 34) hx hb dX9_profile_11 (by decide) (fun q => ?_) (fun q => ?_)
    · have h := zi_t q h
      refine lv_iconst (v := (-1 : Int32)) hx hb dX9_profile_34 (by decide) ?_
      exact zr_i hY P0 hx hb hr hlocks h Z dX9_profile_35
    · have h := zi_f q h
      refine lv_iload_n hx hb dX9_profile_14 rfl (lv_at hl 1 rfl) ?_
      refine lv_aload_n hx hb dX9_profile_15 rfl (lv_at hl 0 rfl) ?_
      refine zgX9_1 hx hb hf hown P0 Z L19 dX9_profile_16 ?_
      obtain ⟨r1, S2, ec, h⟩ := zbd_s h
      refine zc_Vi hY P0 ⟨hx, hb, hml, hown, hT⟩ (As := []) (rest := [.int a1]) (kX4_size l hO  S r1 S2 ec) (cwV 0 hT (zgV mL_X9_118 mI_X4_size mS_X4_size mN_X4 mC_X4_size) rfl rfl rfl hdnX4_size ⟨Nat.le_of_ble_eq_true rfl, Nat.le_of_ble_eq_true rfl⟩) (zrecX_2 P0 Z) Z rfl hl.1 rfl (Nat.le_of_ble_eq_true rfl) dX9_profile_19 (fun H locs Z => ?_)
      refine lv_icmp_ge (tgt := 34) hx hb dX9_profile_22 (by decide) (fun q => ?_) (fun q => ?_)
      · have h := zi_t q h
        refine lv_iconst (v := (-1 : Int32)) hx hb dX9_profile_34 (by decide) ?_
        exact zr_i hY P0 hx hb hr hlocks h Z dX9_profile_35
      · have h := zi_f q h
        refine lv_iload_n hx hb dX9_profile_25 rfl (lv_at hl 2 rfl) ?_
        refine lv_if_lt (tgt := 34) hx hb dX9_profile_26 (by decide) (fun q => ?_) (fun q => ?_)
        · have h := zi_t q h
          refine lv_iconst (v := (-1 : Int32)) hx hb dX9_profile_34 (by decide) ?_
          exact zr_i hY P0 hx hb hr hlocks h Z dX9_profile_35
        · have h := zi_f q h
          refine lv_iload_n hx hb dX9_profile_29 rfl (lv_at hl 2 rfl) ?_
          refine lv_iconst (v := (nI 1)) hx hb dX9_profile_30 (by decide) ?_
          refine lv_icmp_le (tgt := 36) hx hb dX9_profile_31 (by decide) (fun q => ?_) (fun q => ?_)
          · have h := zi_t q h
            refine lv_iload_n hx hb dX9_profile_36 rfl (lv_at hl 2 rfl) ?_
            refine lv_if_ne (tgt := 51) hx hb dX9_profile_37 (by decide) (fun q => ?_) (fun q => ?_)
            · have h := zi_f q h
              refine lv_aload_n hx hb dX9_profile_51 rfl (lv_at hl 0 rfl) ?_
              refine zgX9_5 hx hb hf hown P0 Z L56 dX9_profile_52 ?_
              refine lv_iload_n hx hb dX9_profile_55 rfl (lv_at hl 1 rfl) ?_
              obtain ⟨r3, S4, ec, h⟩ := zbd_s h
              refine zc_Vi hY P0 ⟨hx, hb, hml, hown, hT⟩ (As := [.int a1]) (rest := []) (kX2_nodesMadeBy l hO a1 S2 r3 S4 ec) (cwV 1 hT (zgV mL_X9_193 mI_X2_nodesMadeBy mS_X2_nodesMadeBy mN_X2 mC_X2_nodesMadeBy) rfl rfl rfl hdnX2_nodesMadeBy ⟨Nat.le_of_ble_eq_true rfl, Nat.le_of_ble_eq_true rfl⟩) (zrecX_7 P0 Z) Z rfl hl.1 rfl (Nat.le_of_ble_eq_true rfl) dX9_profile_56 (fun H locs Z => ?_)
              exact zr_i hY P0 hx hb hr hlocks h Z dX9_profile_59
            · have h := zi_t q h
              refine lv_aload_n hx hb dX9_profile_40 rfl (lv_at hl 0 rfl) ?_
              refine zgX9_5 hx hb hf hown P0 Z L56 dX9_profile_41 ?_
              refine lv_iload_n hx hb dX9_profile_44 rfl (lv_at hl 1 rfl) ?_
              obtain ⟨r5, S6, ec, h⟩ := zbd_s h
              refine zc_Vi hY P0 ⟨hx, hb, hml, hown, hT⟩ (As := [.int a1]) (rest := []) (kX2_timesMade l hO a1 S2 r5 S6 ec) (cwV 1 hT (zgV mL_X9_190 mI_X2_timesMade mS_X2_timesMade mN_X2 mC_X2_timesMade) rfl rfl rfl hdnX2_timesMade ⟨Nat.le_of_ble_eq_true rfl, Nat.le_of_ble_eq_true rfl⟩) (zrecX_7 P0 Z) Z rfl hl.1 rfl (Nat.le_of_ble_eq_true rfl) dX9_profile_45 (fun H locs Z => ?_)
              refine lv_goto (tgt := 59) hx hb dX9_profile_48 (by decide) ?_
              exact zr_i hY P0 hx hb hr hlocks h Z dX9_profile_59
          · have h := zi_f q h
            refine lv_iconst (v := (-1 : Int32)) hx hb dX9_profile_34 (by decide) ?_
            exact zr_i hY P0 hx hb hr hlocks h Z dX9_profile_35
  · have h := zi_t q h
    refine lv_bipush (v := (-3 : Int32)) hx hb dX9_profile_7 (by decide) ?_
    exact zr_i hY P0 hx hb hr hlocks h Z dX9_profile_9

set_option maxHeartbeats 4000000 in
set_option maxRecDepth 100000 in
theorem kX9_rest {g : zG} (l : Launch) (hO : zinjX g) (S : zSt) (r : Int32) (S' : zSt) (h : fX9_rest S = some (r, S')) : zMi (zYX g) l yX9_rest vX9_rest { frames := 3, cells := 0, slots := 0, locals := 62 } ([.ref (zad g 0)] : List Value) S r S' := by
  have hY := zOkX hO
  refine Met.ofW (cc := cX9_rest) (maxL := 1) (ret := (some .int)) (by decide) rfl ?_
  intro p e s m args below meth c s₁ B hml hv
  obtain ⟨rfl, hP⟩ := hv
  have hx := B.exec
  have hb := B.bytes
  have hr := B.returns
  have hts := atoms_spec (ws := vX9_rest) B.pre
  have hT : ∀ w ∈ zTB, w.before ([.ref (zad g 0)] : List Value).toArray s = true := fun w h => hts w (List.mem_cons_of_mem _ h)
  have hown : s.vm.findClass RX9 = some m.cls := findClass_of_methodNamed B.named
  have hlocks := B.notSynchronized
  have P0 := hP.2
  have Z : zZ (zYX g) S s s.heap [] := ⟨hP.1, va_S.rf⟩
  have hf : ∀ w ∈ u_ws RX9 TX9 13, w.before ([.ref (zad g 0)] : List Value).toArray s = true := fun w hw => hT w (mU_X9 w hw)
  have L71 := hT _ mF_X9_71
  have L79 := hT _ mF_X9_79
  have L40 := hT _ mF_X9_40
  have L47 := hT _ mF_X9_47
  have hl := lv_entry ([.ref (zad g 0)] : List Value) (n := 1) (Nat.le_of_ble_eq_true rfl)
  rw [lg_entry_eq]
  generalize (lg_sl ([.ref (zad g 0)] : List Value) ++ List.replicate (1 - (lg_sl ([.ref (zad g 0)] : List Value)).length) Slot.unset).toArray = ls at hl ⊢
  have hl : lv_has ls 1 [(0, .ref (zad g 0))] := hl
  unfold fX9_rest at h
  refine lv_aload_n hx hb dX9_rest_0 rfl (lv_at hl 0 rfl) ?_
  refine zgX9_8 (v := (zI S 0)) hx hb hf hown P0 Z L71 rfl dX9_rest_1 ?_
  refine lv_if_eq (tgt := 15) hx hb dX9_rest_4 (by decide) (fun q => ?_) (fun q => ?_)
  · have h := zi_t q h
    refine lv_bipush (v := (-3 : Int32)) hx hb dX9_rest_15 (by decide) ?_
    exact zr_i hY P0 hx hb hr hlocks h Z dX9_rest_17
  · have h := zi_f q h
    refine lv_aload_n hx hb dX9_rest_7 rfl (lv_at hl 0 rfl) ?_
    refine zgX9_10 (v := (zI S 2)) hx hb hf hown P0 Z L79 rfl dX9_rest_8 ?_
    refine lv_iconst (v := (nI 1)) hx hb dX9_rest_11 (by decide) ?_
    refine lv_icmp_eq (tgt := 18) hx hb dX9_rest_12 (by decide) (fun q => ?_) (fun q => ?_)
    · have h := zi_t q h
      refine lv_aload_n hx hb dX9_rest_18 rfl (lv_at hl 0 rfl) ?_
      refine zgX9_3 hx hb hf hown P0 Z L40 dX9_rest_19 ?_
      refine lv_aload_n hx hb dX9_rest_22 rfl (lv_at hl 0 rfl) ?_
      refine zgX9_4 hx hb hf hown P0 Z L47 dX9_rest_23 ?_
      refine lv_iconst (v := (nI 0)) hx hb dX9_rest_26 (by decide) ?_
      obtain ⟨r1, S2, ec, h⟩ := zbd_s h
      refine zc_Vi hY P0 ⟨hx, hb, hml, hown, hT⟩ (As := [.int (nI 0)]) (rest := [.ref (zad g 5)]) (kX6_fromTop l hO (nI 0) S r1 S2 ec) (cwV 1 hT (zgV mL_X9_177 mI_X6_fromTop mS_X6_fromTop mN_X6 mC_X6_fromTop) rfl rfl rfl hdnX6_fromTop ⟨Nat.le_of_ble_eq_true rfl, Nat.le_of_ble_eq_true rfl⟩) (zrecX_6 P0 Z) Z rfl hl.1 rfl (Nat.le_of_ble_eq_true rfl) dX9_rest_27 (fun H locs Z => ?_)
      obtain ⟨r3, S4, ec, h⟩ := zbd_s h
      refine zc_Vi hY P0 ⟨hx, hb, hml, hown, hT⟩ (As := [.int r1]) (rest := []) (kX0_kindOf l hO r1 S2 r3 S4 ec) (cwV 1 hT (zgV mL_X9_159 mI_X0_kindOf mS_X0_kindOf mN_X0 mC_X0_kindOf) rfl rfl rfl hdnX0_kindOf ⟨Nat.le_of_ble_eq_true rfl, Nat.le_of_ble_eq_true rfl⟩) (zrecX_5 P0 Z) Z rfl hl.1 rfl (Nat.le_of_ble_eq_true rfl) dX9_rest_30 (fun H locs Z => ?_)
      by_cases q0 : r3 = (nI 0)
      · have h := zi_t q0 h
        refine zlkp (off := 35) (tgt := 68) hx hb q0 dX9_rest_33 (by decide) (by decide) (by decide) ?_
        refine lv_iconst (v := (nI 0)) hx hb dX9_rest_68 (by decide) ?_
        exact zr_i hY P0 hx hb hr hlocks h Z dX9_rest_69
      have h := zi_f q0 h
      by_cases q4 : r3 = (nI 4)
      · have h := zi_t q4 h
        refine zlkp (off := 37) (tgt := 70) hx hb q4 dX9_rest_33 (by decide) (by decide) (by decide) ?_
        refine lv_iconst (v := (nI 1)) hx hb dX9_rest_70 (by decide) ?_
        exact zr_i hY P0 hx hb hr hlocks h Z dX9_rest_71
      have h := zi_f q4 h
      by_cases q5 : r3 = (nI 5)
      · have h := zi_t q5 h
        refine zlkp (off := 39) (tgt := 72) hx hb q5 dX9_rest_33 (by decide) (by decide) (by decide) ?_
        refine lv_iconst (v := (nI 2)) hx hb dX9_rest_72 (by decide) ?_
        exact zr_i hY P0 hx hb hr hlocks h Z dX9_rest_73
      have h := zi_f q5 h
      refine lv_lookup (off := 41) (tgt := 74) hx hb dX9_rest_33 (by decide) (by show Op.lookupswitch.offset _ _ _ = _; rw [lv_osw q0 (by decide), lv_osw q4 (by decide), lv_osw q5 (by decide)]; rfl) (by decide) ?_
      refine lv_iconst (v := (nI 3)) hx hb dX9_rest_74 (by decide) ?_
      exact zr_i hY P0 hx hb hr hlocks h Z dX9_rest_75
    · have h := zi_f q h
      refine lv_bipush (v := (-3 : Int32)) hx hb dX9_rest_15 (by decide) ?_
      exact zr_i hY P0 hx hb hr hlocks h Z dX9_rest_17
