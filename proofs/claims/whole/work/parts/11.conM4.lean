set_option maxHeartbeats 4000000 in
set_option maxRecDepth 100000 in
theorem kX10_node_ {g : zG} (l : Launch) (hO : zinjM g) (a1 : Int32) (a2 : Int32) (S : zSt) (r : Int32) (S' : zSt) (h : fX10_node_ a1 a2 S = some (r, S')) : zMi (zYM g) l yX10_node_ vX10_node_ { frames := 3, cells := 0, slots := 0, locals := 68 } ([.ref (zad g 0), .int a1, .int a2] : List Value) S r S' := by
  have hY := zOkM hO
  refine Met.ofW (cc := cX10_node_) (maxL := 4) (ret := (some .int)) (by decide) rfl ?_
  intro p e s m args below meth c s₁ B hml hv
  obtain ⟨rfl, hP⟩ := hv
  have hx := B.exec
  have hb := B.bytes
  have hr := B.returns
  have hts := atoms_spec (ws := vX10_node_) B.pre
  have hT : ∀ w ∈ zTB, w.before ([.ref (zad g 0), .int a1, .int a2] : List Value).toArray s = true := fun w h => hts w (List.mem_cons_of_mem _ h)
  have hown : s.vm.findClass RX10 = some m.cls := findClass_of_methodNamed B.named
  have hlocks := B.notSynchronized
  have P0 := hP.2
  have Z : zZ (zYM g) S s s.heap [] := ⟨hP.1, va_S.rf⟩
  have hf : ∀ w ∈ u_ws RX10 TX10 67, w.before ([.ref (zad g 0), .int a1, .int a2] : List Value).toArray s = true := fun w hw => hT w (mU_X10 w hw)
  have L153 := hT _ mF_X10_153
  have L292 := hT _ mF_X10_292
  have L110 := hT _ mF_X10_110
  have L113 := hT _ mF_X10_113
  have L116 := hT _ mF_X10_116
  have L119 := hT _ mF_X10_119
  have L143 := hT _ mF_X10_143
  have hl := lv_entry ([.ref (zad g 0), .int a1, .int a2] : List Value) (n := 4) (Nat.le_of_ble_eq_true rfl)
  rw [lg_entry_eq]
  generalize (lg_sl ([.ref (zad g 0), .int a1, .int a2] : List Value) ++ List.replicate (4 - (lg_sl ([.ref (zad g 0), .int a1, .int a2] : List Value)).length) Slot.unset).toArray = ls at hl ⊢
  have hl : lv_has ls 4 [(0, .ref (zad g 0)), (1, .int a1), (2, .int a2)] := hl
  unfold fX10_node_ at h
  refine lv_aload_n hx hb dX10_node__0 rfl (lv_at hl 0 rfl) ?_
  refine lv_iconst (v := (nI 0)) hx hb dX10_node__1 (by decide) ?_
  refine zpX10_0 hO hx hb hf hown P0 Z L153 dX10_node__2 (fun H locs Z => ?_)
  refine lv_aload_n hx hb dX10_node__5 rfl (lv_at hl 0 rfl) ?_
  refine zgX10_56 (v := (zI S 24)) hx hb hf hown P0 Z L292 rfl dX10_node__6 ?_
  refine lv_if_ne (tgt := 15) hx hb dX10_node__9 (by decide) (fun q => ?_) (fun q => ?_)
  · have h := zi_f q h
    refine lv_aload_n hx hb dX10_node__15 rfl (lv_at hl 0 rfl) ?_
    refine lv_iload_n hx hb dX10_node__16 rfl (lv_at hl 1 rfl) ?_
    obtain ⟨r1, S2, ec, h⟩ := zbd_s h
    refine zc_Vi hY P0 ⟨hx, hb, hml, hown, hT⟩ (As := [.int a1]) (rest := []) (kX10_isNode l hO a1 (wI S 0 (nI 0)) r1 S2 ec) (cwV 1 hT (zgV mL_X10_368 mI_X10_isNode mS_X10_isNode mN_X10 mC_X10_isNode) rfl rfl rfl hdnX10_isNode ⟨Nat.le_of_ble_eq_true rfl, Nat.le_of_ble_eq_true rfl⟩) (zrecM_0 P0 Z) Z rfl hl.1 rfl (Nat.le_of_ble_eq_true rfl) dX10_node__17 (fun H locs Z => ?_)
    refine lv_if_eq (tgt := 32) hx hb dX10_node__20 (by decide) (fun q => ?_) (fun q => ?_)
    · have h := zi_t q h
      refine lv_iconst (v := (-1 : Int32)) hx hb dX10_node__32 (by decide) ?_
      exact zr_i hY P0 hx hb hr hlocks h Z dX10_node__33
    · have h := zi_f q h
      refine lv_iload_n hx hb dX10_node__23 rfl (lv_at hl 2 rfl) ?_
      refine lv_iconst (v := (nI 0)) hx hb dX10_node__24 (by decide) ?_
      refine lv_iconst (v := (nI 5)) hx hb dX10_node__25 (by decide) ?_
      obtain ⟨r3, S4, ec, h⟩ := zbd_s h
      refine zc_Si hY P0 ⟨hx, hb, hml, hown, hT⟩ (As := [.int a2, .int (nI 0), .int (nI 5)]) (rest := []) (kX10_in l hO a2 (nI 0) (nI 5) S2 r3 S4 ec) (va_cwS 3 hT (zgS mL_X10_160 mT_X10_in mN_X10 mC_X10_in) rfl rfl rfl hdnX10_in ⟨Nat.le_of_ble_eq_true rfl, Nat.le_of_ble_eq_true rfl⟩) Z rfl hl.1 rfl (Nat.le_of_ble_eq_true rfl) dX10_node__26 (fun H locs Z => ?_)
      refine lv_if_ne (tgt := 34) hx hb dX10_node__29 (by decide) (fun q => ?_) (fun q => ?_)
      · have h := zi_f q h
        refine lv_iload_n hx hb dX10_node__34 rfl (lv_at hl 2 rfl) ?_
        by_cases q0 : a2 = (nI 0)
        · have h := zi_t q0 h
          refine ztbl (off := 33) (tgt := 68) hx hb q0 dX10_node__35 (by decide) (by decide) (by decide) (by decide) ?_
          refine lv_aload_n hx hb dX10_node__68 rfl (lv_at hl 0 rfl) ?_
          refine zgX10_39 hx hb hf hown P0 Z L110 dX10_node__69 ?_
          refine lv_iload_n hx hb dX10_node__72 rfl (lv_at hl 1 rfl) ?_
          obtain ⟨v5, ev, hin, h⟩ := zld_s h
          refine zlM_24 hx hb P0 Z ev hin dX10_node__73 ?_
          exact zr_i hY P0 hx hb hr hlocks h Z dX10_node__74
        have h := zi_f q0 h
        by_cases q1 : a2 = (nI 1)
        · have h := zi_t q1 h
          refine ztbl (off := 40) (tgt := 75) hx hb q1 dX10_node__35 (by decide) (by decide) (by decide) (by decide) ?_
          refine lv_aload_n hx hb dX10_node__75 rfl (lv_at hl 0 rfl) ?_
          refine zgX10_40 hx hb hf hown P0 Z L113 dX10_node__76 ?_
          refine lv_iload_n hx hb dX10_node__79 rfl (lv_at hl 1 rfl) ?_
          obtain ⟨v6, ev, hin, h⟩ := zld_s h
          refine zlM_25 hx hb P0 Z ev hin dX10_node__80 ?_
          exact zr_i hY P0 hx hb hr hlocks h Z dX10_node__81
        have h := zi_f q1 h
        by_cases q2 : a2 = (nI 2)
        · have h := zi_t q2 h
          refine ztbl (off := 47) (tgt := 82) hx hb q2 dX10_node__35 (by decide) (by decide) (by decide) (by decide) ?_
          refine lv_aload_n hx hb dX10_node__82 rfl (lv_at hl 0 rfl) ?_
          refine zgX10_39 hx hb hf hown P0 Z L110 dX10_node__83 ?_
          refine lv_iload_n hx hb dX10_node__86 rfl (lv_at hl 1 rfl) ?_
          obtain ⟨v7, ev, hin, h⟩ := zld_s h
          refine zlM_24 hx hb P0 Z ev hin dX10_node__87 ?_
          obtain ⟨r8, S9, ec, h⟩ := zbd_s h
          refine zc_Si hY P0 ⟨hx, hb, hml, hown, hT⟩ (As := [.int v7]) (rest := []) (kX10_fields l hO v7 S4 r8 S9 ec) (va_cwS 1 hT (zgS mL_X10_362 mT_X10_fields mN_X10 mC_X10_fields) rfl rfl rfl hdnX10_fields ⟨Nat.le_of_ble_eq_true rfl, Nat.le_of_ble_eq_true rfl⟩) Z rfl hl.1 rfl (Nat.le_of_ble_eq_true rfl) dX10_node__88 (fun H locs Z => ?_)
          refine lv_iconst (v := (nI 2)) hx hb dX10_node__91 (by decide) ?_
          refine lv_icmp_ne (tgt := 104) hx hb dX10_node__92 (by decide) (fun q => ?_) (fun q => ?_)
          · have h := zi_f q h
            refine lv_bipush (v := (-3 : Int32)) hx hb dX10_node__104 (by decide) ?_
            exact zr_i hY P0 hx hb hr hlocks h Z dX10_node__106
          · have h := zi_t q h
            refine lv_aload_n hx hb dX10_node__95 rfl (lv_at hl 0 rfl) ?_
            refine zgX10_41 hx hb hf hown P0 Z L116 dX10_node__96 ?_
            refine lv_iload_n hx hb dX10_node__99 rfl (lv_at hl 1 rfl) ?_
            obtain ⟨v10, ev, hin, h⟩ := zld_s h
            refine zlM_26 hx hb P0 Z ev hin dX10_node__100 ?_
            refine lv_goto (tgt := 106) hx hb dX10_node__101 (by decide) ?_
            exact zr_i hY P0 hx hb hr hlocks h Z dX10_node__106
        have h := zi_f q2 h
        by_cases q3 : a2 = (nI 3)
        · have h := zi_t q3 h
          refine ztbl (off := 72) (tgt := 107) hx hb q3 dX10_node__35 (by decide) (by decide) (by decide) (by decide) ?_
          refine lv_aload_n hx hb dX10_node__107 rfl (lv_at hl 0 rfl) ?_
          refine zgX10_42 hx hb hf hown P0 Z L119 dX10_node__108 ?_
          refine lv_iload_n hx hb dX10_node__111 rfl (lv_at hl 1 rfl) ?_
          obtain ⟨v11, ev, hin, h⟩ := zld_s h
          refine zlM_27 hx hb P0 Z ev hin dX10_node__112 ?_
          exact zr_i hY P0 hx hb hr hlocks h Z dX10_node__113
        have h := zi_f q3 h
        by_cases q4 : a2 = (nI 4)
        · have h := zi_t q4 h
          refine ztbl (off := 79) (tgt := 114) hx hb q4 dX10_node__35 (by decide) (by decide) (by decide) (by decide) ?_
          refine lv_aload_n hx hb dX10_node__114 rfl (lv_at hl 0 rfl) ?_
          refine lv_iload_n hx hb dX10_node__115 rfl (lv_at hl 1 rfl) ?_
          obtain ⟨r12, S13, ec, h⟩ := zbd_s h
          refine zc_Vi hY P0 ⟨hx, hb, hml, hown, hT⟩ (As := [.int a1]) (rest := []) (kX10_holders l hO a1 S4 r12 S13 ec) (cwV 1 hT (zgV mL_X10_371 mI_X10_holders mS_X10_holders mN_X10 mC_X10_holders) rfl rfl rfl hdnX10_holders ⟨Nat.le_of_ble_eq_true rfl, Nat.le_of_ble_eq_true rfl⟩) (zrecM_0 P0 Z) Z rfl hl.1 rfl (Nat.le_of_ble_eq_true rfl) dX10_node__116 (fun H locs Z => ?_)
          exact zr_i hY P0 hx hb hr hlocks h Z dX10_node__119
        have h := zi_f q4 h
        have u0 : ¬ a2.toInt = 0 := lv_neT q0 (by decide)
        have u1 : ¬ a2.toInt = 1 := lv_neT q1 (by decide)
        have u2 : ¬ a2.toInt = 2 := lv_neT q2 (by decide)
        have u3 : ¬ a2.toInt = 3 := lv_neT q3 (by decide)
        have u4 : ¬ a2.toInt = 4 := lv_neT q4 (by decide)
        refine lv_tableOut (tgt := 120) hx hb dX10_node__35 (by omega) (by decide) ?_
        refine lv_aload_n hx hb dX10_node__120 rfl (lv_at hl 0 rfl) ?_
        obtain ⟨r14, S15, ec, h⟩ := zbd_s h
        refine zc_Vi hY P0 ⟨hx, hb, hml, hown, hT⟩ (As := []) (rest := []) (kX10_findKept l hO  S4 r14 S15 ec) (cwV 0 hT (zgV mL_X10_365 mI_X10_findKept mS_X10_findKept mN_X10 mC_X10_findKept) rfl rfl rfl hdnX10_findKept ⟨Nat.le_of_ble_eq_true rfl, Nat.le_of_ble_eq_true rfl⟩) (zrecM_0 P0 Z) Z rfl hl.1 rfl (Nat.le_of_ble_eq_true rfl) dX10_node__121 (fun H locs Z => ?_)
        refine lv_istore_n (lv' := [(3, .int r14), (0, .ref (zad g 0)), (1, .int a1), (2, .int a2)]) hx hb dX10_node__124 rfl hl (by decide) rfl (fun ls hl => ?_)
        refine lv_aload_n hx hb dX10_node__125 rfl (lv_at hl 1 rfl) ?_
        refine zgX10_63 hx hb hf hown P0 Z L143 dX10_node__126 ?_
        refine lv_iload_n hx hb dX10_node__129 rfl (lv_at hl 2 rfl) ?_
        obtain ⟨v16, ev, hin, h⟩ := zld_s h
        refine zlM_35 hx hb P0 Z ev hin dX10_node__130 ?_
        refine lv_if_eq (tgt := 138) hx hb dX10_node__131 (by decide) (fun q => ?_) (fun q => ?_)
        · have h := zi_t q h
          refine lv_iconst (v := (nI 0)) hx hb dX10_node__138 (by decide) ?_
          exact zr_i hY P0 hx hb hr hlocks h Z dX10_node__139
        · have h := zi_f q h
          refine lv_iconst (v := (nI 1)) hx hb dX10_node__134 (by decide) ?_
          refine lv_goto (tgt := 139) hx hb dX10_node__135 (by decide) ?_
          exact zr_i hY P0 hx hb hr hlocks h Z dX10_node__139
      · have h := zi_t q h
        refine lv_iconst (v := (-1 : Int32)) hx hb dX10_node__32 (by decide) ?_
        exact zr_i hY P0 hx hb hr hlocks h Z dX10_node__33
  · have h := zi_t q h
    refine lv_bipush (v := (-3 : Int32)) hx hb dX10_node__12 (by decide) ?_
    exact zr_i hY P0 hx hb hr hlocks h Z dX10_node__14

set_option maxHeartbeats 4000000 in
set_option maxRecDepth 100000 in
theorem kX10_top {g : zG} (l : Launch) (hO : zinjM g) (a1 : Int32) (S : zSt) (r : Int32) (S' : zSt) (h : fX10_top a1 S = some (r, S')) : zMi (zYM g) l yX10_top vX10_top { frames := 1, cells := 0, slots := 0, locals := 22 } ([.ref (zad g 0), .int a1] : List Value) S r S' := by
  have hY := zOkM hO
  refine Met.ofW (cc := cX10_top) (maxL := 2) (ret := (some .int)) (by decide) rfl ?_
  intro p e s m args below meth c s₁ B hml hv
  obtain ⟨rfl, hP⟩ := hv
  have hx := B.exec
  have hb := B.bytes
  have hr := B.returns
  have hts := atoms_spec (ws := vX10_top) B.pre
  have hT : ∀ w ∈ zTB, w.before ([.ref (zad g 0), .int a1] : List Value).toArray s = true := fun w h => hts w (List.mem_cons_of_mem _ h)
  have hown : s.vm.findClass RX10 = some m.cls := findClass_of_methodNamed B.named
  have hlocks := B.notSynchronized
  have P0 := hP.2
  have Z : zZ (zYM g) S s s.heap [] := ⟨hP.1, va_S.rf⟩
  have hf : ∀ w ∈ u_ws RX10 TX10 67, w.before ([.ref (zad g 0), .int a1] : List Value).toArray s = true := fun w hw => hT w (mU_X10 w hw)
  have L153 := hT _ mF_X10_153
  have L292 := hT _ mF_X10_292
  have L128 := hT _ mF_X10_128
  have L271 := hT _ mF_X10_271
  have hl := lv_entry ([.ref (zad g 0), .int a1] : List Value) (n := 2) (Nat.le_of_ble_eq_true rfl)
  rw [lg_entry_eq]
  generalize (lg_sl ([.ref (zad g 0), .int a1] : List Value) ++ List.replicate (2 - (lg_sl ([.ref (zad g 0), .int a1] : List Value)).length) Slot.unset).toArray = ls at hl ⊢
  have hl : lv_has ls 2 [(0, .ref (zad g 0)), (1, .int a1)] := hl
  unfold fX10_top at h
  refine lv_aload_n hx hb dX10_top_0 rfl (lv_at hl 0 rfl) ?_
  refine lv_iconst (v := (nI 0)) hx hb dX10_top_1 (by decide) ?_
  refine zpX10_0 hO hx hb hf hown P0 Z L153 dX10_top_2 (fun H locs Z => ?_)
  refine lv_aload_n hx hb dX10_top_5 rfl (lv_at hl 0 rfl) ?_
  refine zgX10_56 (v := (zI S 24)) hx hb hf hown P0 Z L292 rfl dX10_top_6 ?_
  refine lv_if_ne (tgt := 15) hx hb dX10_top_9 (by decide) (fun q => ?_) (fun q => ?_)
  · have h := zi_f q h
    refine lv_iload_n hx hb dX10_top_15 rfl (lv_at hl 1 rfl) ?_
    refine lv_iconst (v := (nI 0)) hx hb dX10_top_16 (by decide) ?_
    refine lv_aload_n hx hb dX10_top_17 rfl (lv_at hl 0 rfl) ?_
    obtain ⟨r1, S2, ec, h⟩ := zbd_s h
    refine zc_Vi hY P0 ⟨hx, hb, hml, hown, hT⟩ (As := []) (rest := [.int (nI 0), .int a1]) (kX10_size l hO  (wI S 0 (nI 0)) r1 S2 ec) (cwV 0 hT (zgV mL_X10_315 mI_X10_size mS_X10_size mN_X10 mC_X10_size) rfl rfl rfl hdnX10_size ⟨Nat.le_of_ble_eq_true rfl, Nat.le_of_ble_eq_true rfl⟩) (zrecM_0 P0 Z) Z rfl hl.1 rfl (Nat.le_of_ble_eq_true rfl) dX10_top_18 (fun H locs Z => ?_)
    refine lv_iconst (v := (nI 1)) hx hb dX10_top_21 (by decide) ?_
    refine lv_isub hx hb dX10_top_22 ?_
    obtain ⟨r3, S4, ec, h⟩ := zbd_s h
    refine zc_Si hY P0 ⟨hx, hb, hml, hown, hT⟩ (As := [.int a1, .int (nI 0), .int (r1 - (nI 1))]) (rest := []) (kX10_in l hO a1 (nI 0) (r1 - (nI 1)) S2 r3 S4 ec) (va_cwS 3 hT (zgS mL_X10_160 mT_X10_in mN_X10 mC_X10_in) rfl rfl rfl hdnX10_in ⟨Nat.le_of_ble_eq_true rfl, Nat.le_of_ble_eq_true rfl⟩) Z rfl hl.1 rfl (Nat.le_of_ble_eq_true rfl) dX10_top_23 (fun H locs Z => ?_)
    refine lv_if_eq (tgt := 45) hx hb dX10_top_26 (by decide) (fun q => ?_) (fun q => ?_)
    · have h := zi_t q h
      refine lv_iconst (v := (-1 : Int32)) hx hb dX10_top_45 (by decide) ?_
      exact zr_i hY P0 hx hb hr hlocks h Z dX10_top_46
    · have h := zi_f q h
      refine lv_aload_n hx hb dX10_top_29 rfl (lv_at hl 0 rfl) ?_
      refine zgX10_49 hx hb hf hown P0 Z L128 dX10_top_30 ?_
      refine lv_aload_n hx hb dX10_top_33 rfl (lv_at hl 0 rfl) ?_
      refine zgX10_48 (v := (zI S4 18)) hx hb hf hown P0 Z L271 rfl dX10_top_34 ?_
      refine lv_iconst (v := (nI 1)) hx hb dX10_top_37 (by decide) ?_
      refine lv_isub hx hb dX10_top_38 ?_
      refine lv_iload_n hx hb dX10_top_39 rfl (lv_at hl 1 rfl) ?_
      refine lv_isub hx hb dX10_top_40 ?_
      obtain ⟨v5, ev, hin, h⟩ := zld_s h
      refine zlM_30 hx hb P0 Z ev hin dX10_top_41 ?_
      refine lv_goto (tgt := 46) hx hb dX10_top_42 (by decide) ?_
      exact zr_i hY P0 hx hb hr hlocks h Z dX10_top_46
  · have h := zi_t q h
    refine lv_bipush (v := (-3 : Int32)) hx hb dX10_top_12 (by decide) ?_
    exact zr_i hY P0 hx hb hr hlocks h Z dX10_top_14

set_option maxHeartbeats 4000000 in
set_option maxRecDepth 100000 in
theorem kX10_why {g : zG} (l : Launch) (hO : zinjM g) (a1 : Int32) (S : zSt) (r : Int32) (S' : zSt) (h : fX10_why a1 S = some (r, S')) : zMi (zYM g) l yX10_why vX10_why { frames := 1, cells := 0, slots := 0, locals := 22 } ([.ref (zad g 0), .int a1] : List Value) S r S' := by
  have hY := zOkM hO
  refine Met.ofW (cc := cX10_why) (maxL := 2) (ret := (some .int)) (by decide) rfl ?_
  intro p e s m args below meth c s₁ B hml hv
  obtain ⟨rfl, hP⟩ := hv
  have hx := B.exec
  have hb := B.bytes
  have hr := B.returns
  have hts := atoms_spec (ws := vX10_why) B.pre
  have hT : ∀ w ∈ zTB, w.before ([.ref (zad g 0), .int a1] : List Value).toArray s = true := fun w h => hts w (List.mem_cons_of_mem _ h)
  have hown : s.vm.findClass RX10 = some m.cls := findClass_of_methodNamed B.named
  have hlocks := B.notSynchronized
  have P0 := hP.2
  have Z : zZ (zYM g) S s s.heap [] := ⟨hP.1, va_S.rf⟩
  have hf : ∀ w ∈ u_ws RX10 TX10 67, w.before ([.ref (zad g 0), .int a1] : List Value).toArray s = true := fun w hw => hT w (mU_X10 w hw)
  have L153 := hT _ mF_X10_153
  have L292 := hT _ mF_X10_292
  have L274 := hT _ mF_X10_274
  have L128 := hT _ mF_X10_128
  have L131 := hT _ mF_X10_131
  have hl := lv_entry ([.ref (zad g 0), .int a1] : List Value) (n := 2) (Nat.le_of_ble_eq_true rfl)
  rw [lg_entry_eq]
  generalize (lg_sl ([.ref (zad g 0), .int a1] : List Value) ++ List.replicate (2 - (lg_sl ([.ref (zad g 0), .int a1] : List Value)).length) Slot.unset).toArray = ls at hl ⊢
  have hl : lv_has ls 2 [(0, .ref (zad g 0)), (1, .int a1)] := hl
  unfold fX10_why at h
  refine lv_aload_n hx hb dX10_why_0 rfl (lv_at hl 0 rfl) ?_
  refine lv_iconst (v := (nI 0)) hx hb dX10_why_1 (by decide) ?_
  refine zpX10_0 hO hx hb hf hown P0 Z L153 dX10_why_2 (fun H locs Z => ?_)
  refine lv_aload_n hx hb dX10_why_5 rfl (lv_at hl 0 rfl) ?_
  refine zgX10_56 (v := (zI S 24)) hx hb hf hown P0 Z L292 rfl dX10_why_6 ?_
  refine lv_if_ne (tgt := 15) hx hb dX10_why_9 (by decide) (fun q => ?_) (fun q => ?_)
  · have h := zi_f q h
    refine lv_iload_n hx hb dX10_why_15 rfl (lv_at hl 1 rfl) ?_
    refine lv_iconst (v := (nI 0)) hx hb dX10_why_16 (by decide) ?_
    refine lv_aload_n hx hb dX10_why_17 rfl (lv_at hl 0 rfl) ?_
    refine zgX10_50 (v := (zI S 19)) hx hb hf hown P0 Z L274 rfl dX10_why_18 ?_
    refine lv_iconst (v := (nI 2)) hx hb dX10_why_21 (by decide) ?_
    refine lv_isub hx hb dX10_why_22 ?_
    obtain ⟨r1, S2, ec, h⟩ := zbd_s h
    refine zc_Si hY P0 ⟨hx, hb, hml, hown, hT⟩ (As := [.int a1, .int (nI 0), .int ((zI S 19) - (nI 2))]) (rest := []) (kX10_in l hO a1 (nI 0) ((zI S 19) - (nI 2)) (wI S 0 (nI 0)) r1 S2 ec) (va_cwS 3 hT (zgS mL_X10_160 mT_X10_in mN_X10 mC_X10_in) rfl rfl rfl hdnX10_in ⟨Nat.le_of_ble_eq_true rfl, Nat.le_of_ble_eq_true rfl⟩) Z rfl hl.1 rfl (Nat.le_of_ble_eq_true rfl) dX10_why_23 (fun H locs Z => ?_)
    refine lv_if_eq (tgt := 52) hx hb dX10_why_26 (by decide) (fun q => ?_) (fun q => ?_)
    · have h := zi_t q h
      refine lv_iconst (v := (-1 : Int32)) hx hb dX10_why_52 (by decide) ?_
      exact zr_i hY P0 hx hb hr hlocks h Z dX10_why_53
    · have h := zi_f q h
      refine lv_aload_n hx hb dX10_why_29 rfl (lv_at hl 0 rfl) ?_
      refine zgX10_49 hx hb hf hown P0 Z L128 dX10_why_30 ?_
      refine lv_aload_n hx hb dX10_why_33 rfl (lv_at hl 0 rfl) ?_
      refine zgX10_51 hx hb hf hown P0 Z L131 dX10_why_34 ?_
      refine lv_aload_n hx hb dX10_why_37 rfl (lv_at hl 0 rfl) ?_
      refine zgX10_50 (v := (zI S2 19)) hx hb hf hown P0 Z L274 rfl dX10_why_38 ?_
      refine lv_iconst (v := (nI 1)) hx hb dX10_why_41 (by decide) ?_
      refine lv_isub hx hb dX10_why_42 ?_
      refine lv_iload_n hx hb dX10_why_43 rfl (lv_at hl 1 rfl) ?_
      refine lv_isub hx hb dX10_why_44 ?_
      obtain ⟨v3, ev, hin, h⟩ := zld_s h
      refine zlM_31 hx hb P0 Z ev hin dX10_why_45 ?_
      refine lv_iconst (v := (nI 1)) hx hb dX10_why_46 (by decide) ?_
      refine lv_isub hx hb dX10_why_47 ?_
      obtain ⟨v4, ev, hin, h⟩ := zld_s h
      refine zlM_30 hx hb P0 Z ev hin dX10_why_48 ?_
      refine lv_goto (tgt := 53) hx hb dX10_why_49 (by decide) ?_
      exact zr_i hY P0 hx hb hr hlocks h Z dX10_why_53
  · have h := zi_t q h
    refine lv_bipush (v := (-3 : Int32)) hx hb dX10_why_12 (by decide) ?_
    exact zr_i hY P0 hx hb hr hlocks h Z dX10_why_14

set_option maxHeartbeats 4000000 in
set_option maxRecDepth 100000 in
theorem kX10_isRoot {g : zG} (l : Launch) (hO : zinjM g) (a1 : Int32) (S : zSt) (r : Int32) (S' : zSt) (h : fX10_isRoot a1 S = some (r, S')) : zMi (zYM g) l yX10_isRoot vX10_isRoot { frames := 0, cells := 0, slots := 0, locals := 0 } ([.ref (zad g 0), .int a1] : List Value) S r S' := by
  have hY := zOkM hO
  refine Met.ofW (cc := cX10_isRoot) (maxL := 3) (ret := (some .boolean)) (by decide) rfl ?_
  intro p e s m args below meth c s₁ B hml hv
  obtain ⟨rfl, hP⟩ := hv
  have hx := B.exec
  have hb := B.bytes
  have hr := B.returns
  have hts := atoms_spec (ws := vX10_isRoot) B.pre
  have hT : ∀ w ∈ zTB, w.before ([.ref (zad g 0), .int a1] : List Value).toArray s = true := fun w h => hts w (List.mem_cons_of_mem _ h)
  have hown : s.vm.findClass RX10 = some m.cls := findClass_of_methodNamed B.named
  have hlocks := B.notSynchronized
  have P0 := hP.2
  have Z : zZ (zYM g) S s s.heap [] := ⟨hP.1, va_S.rf⟩
  have hf : ∀ w ∈ u_ws RX10 TX10 67, w.before ([.ref (zad g 0), .int a1] : List Value).toArray s = true := fun w hw => hT w (mU_X10 w hw)
  have L246 := hT _ mF_X10_246
  have L271 := hT _ mF_X10_271
  have L128 := hT _ mF_X10_128
  have B12 : ∀ (n : Nat) (x1 : Int32) (x2 : Int32) (S : zSt), fX10_isRoot_12L n (x1, x2, S) = some (r, S') → ∀ (H : Heap) (locs : List Loc), zZ (zYM g) S s H locs → ∀ ls : Array Slot, lv_has ls 3 [(0, .ref (zad g 0)), (1, .int x1), (2, .int x2)] → W p l e (headSpec vX10_isRoot { frames := 0, cells := 0, slots := 0, locals := 0 }).room s m ([.ref (zad g 0), .int a1] : List Value).toArray below meth c H locs 0 0 (MQ below (zQi (zYM g) r S') ([.ref (zad g 0), .int a1] : List Value).toArray s 0 0 (zYM g).2.2.1) (F0 m 12 ls []) := by
    intro n
    induction n with
    | zero => intro x1 x2 S h; exact absurd h (fun h => nomatch h)
    | succ n K12 =>
      intro x1 x2 S h H locs Z ls hl
      have h : fX10_isRoot_12 (fX10_isRoot_12L n) x1 x2 S = some (r, S') := h
      unfold fX10_isRoot_12 at h
      refine lv_iload_n hx hb dX10_isRoot_12 rfl (lv_at hl 2 rfl) ?_
      refine lv_aload_n hx hb dX10_isRoot_13 rfl (lv_at hl 0 rfl) ?_
      refine zgX10_48 (v := (zI S 18)) hx hb hf hown P0 Z L271 rfl dX10_isRoot_14 ?_
      refine lv_icmp_ge (tgt := 38) hx hb dX10_isRoot_17 (by decide) (fun q => ?_) (fun q => ?_)
      · have h := zi_t q h
        refine lv_iconst (v := (nI 0)) hx hb dX10_isRoot_38 (by decide) ?_
        exact zr_z hY P0 hx hb hr hlocks (by decide) h Z dX10_isRoot_39
      · have h := zi_f q h
        refine lv_aload_n hx hb dX10_isRoot_20 rfl (lv_at hl 0 rfl) ?_
        refine zgX10_49 hx hb hf hown P0 Z L128 dX10_isRoot_21 ?_
        refine lv_iload_n hx hb dX10_isRoot_24 rfl (lv_at hl 2 rfl) ?_
        obtain ⟨v1, ev, hin, h⟩ := zld_s h
        refine zlM_30 hx hb P0 Z ev hin dX10_isRoot_25 ?_
        refine lv_iload_n hx hb dX10_isRoot_26 rfl (lv_at hl 1 rfl) ?_
        refine lv_icmp_ne (tgt := 32) hx hb dX10_isRoot_27 (by decide) (fun q => ?_) (fun q => ?_)
        · have h := zi_f q h
          refine lv_iinc (v := (x2 + (nI 1))) (lv' := [(2, .int (x2 + (nI 1))), (0, .ref (zad g 0)), (1, .int x1)]) hx hb dX10_isRoot_32 hl (k := 2) rfl rfl (by decide) rfl (fun ls hl => ?_)
          refine lv_goto (tgt := 12) hx hb dX10_isRoot_35 (by decide) ?_
          exact K12 x1 (x2 + (nI 1)) S h _ _ Z ls (lv_sub hl [1, 2, 0] rfl)
        · have h := zi_t q h
          refine lv_iconst (v := (nI 1)) hx hb dX10_isRoot_30 (by decide) ?_
          exact zr_z hY P0 hx hb hr hlocks (by decide) h Z dX10_isRoot_31
  have hl := lv_entry ([.ref (zad g 0), .int a1] : List Value) (n := 3) (Nat.le_of_ble_eq_true rfl)
  rw [lg_entry_eq]
  generalize (lg_sl ([.ref (zad g 0), .int a1] : List Value) ++ List.replicate (3 - (lg_sl ([.ref (zad g 0), .int a1] : List Value)).length) Slot.unset).toArray = ls at hl ⊢
  have hl : lv_has ls 3 [(0, .ref (zad g 0)), (1, .int a1)] := hl
  unfold fX10_isRoot at h
  refine lv_iload_n hx hb dX10_isRoot_0 rfl (lv_at hl 1 rfl) ?_
  refine lv_aload_n hx hb dX10_isRoot_1 rfl (lv_at hl 0 rfl) ?_
  refine zgX10_11 (v := (zI S 8)) hx hb hf hown P0 Z L246 rfl dX10_isRoot_2 ?_
  refine lv_icmp_ge (tgt := 10) hx hb dX10_isRoot_5 (by decide) (fun q => ?_) (fun q => ?_)
  · have h := zi_t q h
    refine lv_iconst (v := (nI 0)) hx hb dX10_isRoot_10 (by decide) ?_
    refine lv_istore_n (lv' := [(2, .int (nI 0)), (0, .ref (zad g 0)), (1, .int a1)]) hx hb dX10_isRoot_11 rfl hl (by decide) rfl (fun ls hl => ?_)
    exact B12 zFU a1 (nI 0) S h _ _ Z ls (lv_sub hl [1, 2, 0] rfl)
  · have h := zi_f q h
    refine lv_iconst (v := (nI 1)) hx hb dX10_isRoot_8 (by decide) ?_
    exact zr_z hY P0 hx hb hr hlocks (by decide) h Z dX10_isRoot_9

set_option maxHeartbeats 4000000 in
set_option maxRecDepth 100000 in
theorem kX10_way {g : zG} (l : Launch) (hO : zinjM g) (a1 : Int32) (a2 : Int32) (S : zSt) (r : Int32) (S' : zSt) (h : fX10_way a1 a2 S = some (r, S')) : zMi (zYM g) l yX10_way vX10_way { frames := 2, cells := 0, slots := 0, locals := 43 } ([.ref (zad g 0), .int a1, .int a2] : List Value) S r S' := by
  have hY := zOkM hO
  refine Met.ofW (cc := cX10_way) (maxL := 11) (ret := (some .int)) (by decide) rfl ?_
  intro p e s m args below meth c s₁ B hml hv
  obtain ⟨rfl, hP⟩ := hv
  have hx := B.exec
  have hb := B.bytes
  have hr := B.returns
  have hts := atoms_spec (ws := vX10_way) B.pre
  have hT : ∀ w ∈ zTB, w.before ([.ref (zad g 0), .int a1, .int a2] : List Value).toArray s = true := fun w h => hts w (List.mem_cons_of_mem _ h)
  have hown : s.vm.findClass RX10 = some m.cls := findClass_of_methodNamed B.named
  have hlocks := B.notSynchronized
  have P0 := hP.2
  have Z : zZ (zYM g) S s s.heap [] := ⟨hP.1, va_S.rf⟩
  have hf : ∀ w ∈ u_ws RX10 TX10 67, w.before ([.ref (zad g 0), .int a1, .int a2] : List Value).toArray s = true := fun w hw => hT w (mU_X10 w hw)
  have L153 := hT _ mF_X10_153
  have L292 := hT _ mF_X10_292
  have L143 := hT _ mF_X10_143
  have L150 := hT _ mF_X10_150
  have L110 := hT _ mF_X10_110
  have L113 := hT _ mF_X10_113
  have L116 := hT _ mF_X10_116
  have B196 : ∀ (k105 : Int32 × Int32 × Int32 × Int32 × zSt → Option (Int32 × zSt)) (K105 : (∀ (x2 : Int32) (x4 : Int32) (x5 : Int32) (x6 : Int32) (S : zSt), k105 (x2, x4, x5, x6, S) = some (r, S') → ∀ (H : Heap) (locs : List Loc), zZ (zYM g) S s H locs → ∀ ls : Array Slot, lv_has ls 11 [(0, .ref (zad g 0)), (2, .int x2), (4, .int x4), (5, .int x5), (6, .int x6)] → W p l e (headSpec vX10_way { frames := 2, cells := 0, slots := 0, locals := 43 }).room s m ([.ref (zad g 0), .int a1, .int a2] : List Value).toArray below meth c H locs 0 0 (MQ below (zQi (zYM g) r S') ([.ref (zad g 0), .int a1, .int a2] : List Value).toArray s 0 0 (zYM g).2.2.1) (F0 m 105 ls []))) (x2 : Int32) (x5 : Int32) (x6 : Int32) (S : zSt), fX10_way_196 k105 x2 x5 x6 S = some (r, S') → ∀ (H : Heap) (locs : List Loc), zZ (zYM g) S s H locs → ∀ ls : Array Slot, lv_has ls 11 [(0, .ref (zad g 0)), (2, .int x2), (5, .int x5), (6, .int x6)] → W p l e (headSpec vX10_way { frames := 2, cells := 0, slots := 0, locals := 43 }).room s m ([.ref (zad g 0), .int a1, .int a2] : List Value).toArray below meth c H locs 0 0 (MQ below (zQi (zYM g) r S') ([.ref (zad g 0), .int a1, .int a2] : List Value).toArray s 0 0 (zYM g).2.2.1) (F0 m 196 ls []) := by
    intro k105 K105 x2 x5 x6 S h H locs Z ls hl
    unfold fX10_way_196 at h
    refine lv_aload_n hx hb dX10_way_196 rfl (lv_at hl 0 rfl) ?_
    refine zgX10_66 hx hb hf hown P0 Z L150 dX10_way_197 ?_
    refine lv_iload hx hb dX10_way_200 (lv_at hl 3 rfl) ?_
    refine lv_iload hx hb dX10_way_202 (lv_at hl 2 rfl) ?_
    refine lv_iconst (v := (nI 1)) hx hb dX10_way_204 (by decide) ?_
    refine lv_iadd hx hb dX10_way_205 ?_
    obtain ⟨hin, h⟩ := zck_s h
    refine zsM_37 hO hx hb P0 Z hin dX10_way_206 (fun H locs Z => ?_)
    refine lv_iconst (v := (nI 1)) hx hb dX10_way_207 (by decide) ?_
    refine lv_istore (lv' := [(4, .int (nI 1)), (0, .ref (zad g 0)), (2, .int x2), (5, .int x5), (6, .int x6)]) hx hb dX10_way_208 hl (by decide) rfl (fun ls hl => ?_)
    refine lv_iinc (v := (x6 + (nI 1))) (lv' := [(6, .int (x6 + (nI 1))), (4, .int (nI 1)), (0, .ref (zad g 0)), (2, .int x2), (5, .int x5)]) hx hb dX10_way_210 hl (k := 4) rfl rfl (by decide) rfl (fun ls hl => ?_)
    refine lv_goto (tgt := 105) hx hb dX10_way_213 (by decide) ?_
    exact K105 x2 (nI 1) x5 (x6 + (nI 1)) (wA S 37 (x6.toNatClampNeg) (x5 + (nI 1))) h _ _ Z ls (lv_sub hl [2, 3, 1, 4, 0] rfl)
  have B165 : ∀ (k105 : Int32 × Int32 × Int32 × Int32 × zSt → Option (Int32 × zSt)) (K105 : (∀ (x2 : Int32) (x4 : Int32) (x5 : Int32) (x6 : Int32) (S : zSt), k105 (x2, x4, x5, x6, S) = some (r, S') → ∀ (H : Heap) (locs : List Loc), zZ (zYM g) S s H locs → ∀ ls : Array Slot, lv_has ls 11 [(0, .ref (zad g 0)), (2, .int x2), (4, .int x4), (5, .int x5), (6, .int x6)] → W p l e (headSpec vX10_way { frames := 2, cells := 0, slots := 0, locals := 43 }).room s m ([.ref (zad g 0), .int a1, .int a2] : List Value).toArray below meth c H locs 0 0 (MQ below (zQi (zYM g) r S') ([.ref (zad g 0), .int a1, .int a2] : List Value).toArray s 0 0 (zYM g).2.2.1) (F0 m 105 ls []))) (x2 : Int32) (x4 : Int32) (x5 : Int32) (x6 : Int32) (S : zSt), fX10_way_165 k105 x2 x4 x5 x6 S = some (r, S') → ∀ (H : Heap) (locs : List Loc), zZ (zYM g) S s H locs → ∀ ls : Array Slot, lv_has ls 11 [(0, .ref (zad g 0)), (2, .int x2), (4, .int x4), (5, .int x5), (6, .int x6)] → W p l e (headSpec vX10_way { frames := 2, cells := 0, slots := 0, locals := 43 }).room s m ([.ref (zad g 0), .int a1, .int a2] : List Value).toArray below meth c H locs 0 0 (MQ below (zQi (zYM g) r S') ([.ref (zad g 0), .int a1, .int a2] : List Value).toArray s 0 0 (zYM g).2.2.1) (F0 m 165 ls []) := by
    intro k105 K105 x2 x4 x5 x6 S h H locs Z ls hl
    unfold fX10_way_165 at h
    refine lv_aload_n hx hb dX10_way_165 rfl (lv_at hl 0 rfl) ?_
    refine zgX10_39 hx hb hf hown P0 Z L110 dX10_way_166 ?_
    refine lv_iload hx hb dX10_way_169 (lv_at hl 4 rfl) ?_
    obtain ⟨v15, ev, hin, h⟩ := zld_s h
    refine zlM_24 hx hb P0 Z ev hin dX10_way_171 ?_
    obtain ⟨r16, S17, ec, h⟩ := zbd_s h
    refine zc_Si hY P0 ⟨hx, hb, hml, hown, hT⟩ (As := [.int v15]) (rest := []) (kX10_fields l hO v15 S r16 S17 ec) (va_cwS 1 hT (zgS mL_X10_362 mT_X10_fields mN_X10 mC_X10_fields) rfl rfl rfl hdnX10_fields ⟨Nat.le_of_ble_eq_true rfl, Nat.le_of_ble_eq_true rfl⟩) Z rfl hl.1 rfl (Nat.le_of_ble_eq_true rfl) dX10_way_172 (fun H locs Z => ?_)
    refine lv_iconst (v := (nI 1)) hx hb dX10_way_175 (by decide) ?_
    refine lv_icmp_le (tgt := 210) hx hb dX10_way_176 (by decide) (fun q => ?_) (fun q => ?_)
    · have h := zi_t q h
      refine lv_iinc (v := (x6 + (nI 1))) (lv' := [(6, .int (x6 + (nI 1))), (0, .ref (zad g 0)), (2, .int x2), (4, .int x4), (5, .int x5)]) hx hb dX10_way_210 hl (k := 4) rfl rfl (by decide) rfl (fun ls hl => ?_)
      refine lv_goto (tgt := 105) hx hb dX10_way_213 (by decide) ?_
      exact K105 x2 x4 x5 (x6 + (nI 1)) S17 h _ _ Z ls (lv_sub hl [1, 2, 3, 4, 0] rfl)
    · have h := zi_f q h
      refine lv_aload_n hx hb dX10_way_179 rfl (lv_at hl 0 rfl) ?_
      refine zgX10_66 hx hb hf hown P0 Z L150 dX10_way_180 ?_
      refine lv_aload_n hx hb dX10_way_183 rfl (lv_at hl 0 rfl) ?_
      refine zgX10_41 hx hb hf hown P0 Z L116 dX10_way_184 ?_
      refine lv_iload hx hb dX10_way_187 (lv_at hl 4 rfl) ?_
      obtain ⟨v18, ev, hin, h⟩ := zld_s h
      refine zlM_26 hx hb P0 Z ev hin dX10_way_189 ?_
      obtain ⟨v19, ev, hin, h⟩ := zld_s h
      refine zlM_37 hx hb P0 Z ev hin dX10_way_190 ?_
      refine lv_iload hx hb dX10_way_191 (lv_at hl 3 rfl) ?_
      refine lv_icmp_ne (tgt := 210) hx hb dX10_way_193 (by decide) (fun q => ?_) (fun q => ?_)
      · have h := zi_f q h
        refine lv_iinc (v := (x6 + (nI 1))) (lv' := [(6, .int (x6 + (nI 1))), (0, .ref (zad g 0)), (2, .int x2), (4, .int x4), (5, .int x5)]) hx hb dX10_way_210 hl (k := 4) rfl rfl (by decide) rfl (fun ls hl => ?_)
        refine lv_goto (tgt := 105) hx hb dX10_way_213 (by decide) ?_
        exact K105 x2 x4 x5 (x6 + (nI 1)) S17 h _ _ Z ls (lv_sub hl [1, 2, 3, 4, 0] rfl)
      · have h := zi_t q h
        exact B196 k105 K105 x2 x5 x6 S17 h _ _ Z ls (lv_sub hl [0, 1, 3, 4] rfl)
  have B105 : ∀ (k94 : Int32 × Int32 × Int32 × zSt → Option (Int32 × zSt)) (K94 : (∀ (x2 : Int32) (x4 : Int32) (x5 : Int32) (S : zSt), k94 (x2, x4, x5, S) = some (r, S') → ∀ (H : Heap) (locs : List Loc), zZ (zYM g) S s H locs → ∀ ls : Array Slot, lv_has ls 11 [(0, .ref (zad g 0)), (2, .int x2), (4, .int x4), (5, .int x5)] → W p l e (headSpec vX10_way { frames := 2, cells := 0, slots := 0, locals := 43 }).room s m ([.ref (zad g 0), .int a1, .int a2] : List Value).toArray below meth c H locs 0 0 (MQ below (zQi (zYM g) r S') ([.ref (zad g 0), .int a1, .int a2] : List Value).toArray s 0 0 (zYM g).2.2.1) (F0 m 94 ls []))) (n : Nat) (x2 : Int32) (x4 : Int32) (x5 : Int32) (x6 : Int32) (S : zSt), fX10_way_105L k94 n (x2, x4, x5, x6, S) = some (r, S') → ∀ (H : Heap) (locs : List Loc), zZ (zYM g) S s H locs → ∀ ls : Array Slot, lv_has ls 11 [(0, .ref (zad g 0)), (2, .int x2), (4, .int x4), (5, .int x5), (6, .int x6)] → W p l e (headSpec vX10_way { frames := 2, cells := 0, slots := 0, locals := 43 }).room s m ([.ref (zad g 0), .int a1, .int a2] : List Value).toArray below meth c H locs 0 0 (MQ below (zQi (zYM g) r S') ([.ref (zad g 0), .int a1, .int a2] : List Value).toArray s 0 0 (zYM g).2.2.1) (F0 m 105 ls []) := by
    intro k94 K94 n
    induction n with
    | zero => intro x2 x4 x5 x6 S h; exact absurd h (fun h => nomatch h)
    | succ n K105 =>
      intro x2 x4 x5 x6 S h H locs Z ls hl
      have h : fX10_way_105 k94 (fX10_way_105L k94 n) x2 x4 x5 x6 S = some (r, S') := h
      unfold fX10_way_105 at h
      refine lv_iload hx hb dX10_way_105 (lv_at hl 4 rfl) ?_
      refine lv_sipush (v := (nI 400)) hx hb dX10_way_107 (by decide) ?_
      refine lv_icmp_ge (tgt := 216) hx hb dX10_way_110 (by decide) (fun q => ?_) (fun q => ?_)
      · have h := zi_t q h
        refine lv_iinc (v := (x5 + (nI 1))) (lv' := [(5, .int (x5 + (nI 1))), (0, .ref (zad g 0)), (2, .int x2), (4, .int x4), (6, .int x6)]) hx hb dX10_way_216 hl (k := 3) rfl rfl (by decide) rfl (fun ls hl => ?_)
        refine lv_goto (tgt := 94) hx hb dX10_way_219 (by decide) ?_
        exact K94 x2 x4 (x5 + (nI 1)) S h _ _ Z ls (lv_sub hl [1, 2, 3, 0] rfl)
      · have h := zi_f q h
        refine lv_aload_n hx hb dX10_way_113 rfl (lv_at hl 0 rfl) ?_
        refine zgX10_39 hx hb hf hown P0 Z L110 dX10_way_114 ?_
        refine lv_iload hx hb dX10_way_117 (lv_at hl 4 rfl) ?_
        obtain ⟨v8, ev, hin, h⟩ := zld_s h
        refine zlM_24 hx hb P0 Z ev hin dX10_way_119 ?_
        refine lv_bipush (v := (nI 7)) hx hb dX10_way_120 (by decide) ?_
        refine lv_icmp_eq (tgt := 210) hx hb dX10_way_122 (by decide) (fun q => ?_) (fun q => ?_)
        · have h := zi_t q h
          refine lv_iinc (v := (x6 + (nI 1))) (lv' := [(6, .int (x6 + (nI 1))), (0, .ref (zad g 0)), (2, .int x2), (4, .int x4), (5, .int x5)]) hx hb dX10_way_210 hl (k := 4) rfl rfl (by decide) rfl (fun ls hl => ?_)
          refine lv_goto (tgt := 105) hx hb dX10_way_213 (by decide) ?_
          exact K105 x2 x4 x5 (x6 + (nI 1)) S h _ _ Z ls (lv_sub hl [1, 2, 3, 4, 0] rfl)
        · have h := zi_f q h
          refine lv_aload_n hx hb dX10_way_125 rfl (lv_at hl 0 rfl) ?_
          refine zgX10_66 hx hb hf hown P0 Z L150 dX10_way_126 ?_
          refine lv_iload hx hb dX10_way_129 (lv_at hl 4 rfl) ?_
          obtain ⟨v9, ev, hin, h⟩ := zld_s h
          refine zlM_37 hx hb P0 Z ev hin dX10_way_131 ?_
          refine lv_if_ge (tgt := 210) hx hb dX10_way_132 (by decide) (fun q => ?_) (fun q => ?_)
          · have h := zi_t q h
            refine lv_iinc (v := (x6 + (nI 1))) (lv' := [(6, .int (x6 + (nI 1))), (0, .ref (zad g 0)), (2, .int x2), (4, .int x4), (5, .int x5)]) hx hb dX10_way_210 hl (k := 4) rfl rfl (by decide) rfl (fun ls hl => ?_)
            refine lv_goto (tgt := 105) hx hb dX10_way_213 (by decide) ?_
            exact K105 x2 x4 x5 (x6 + (nI 1)) S h _ _ Z ls (lv_sub hl [1, 2, 3, 4, 0] rfl)
          · have h := zi_f q h
            refine lv_aload_n hx hb dX10_way_135 rfl (lv_at hl 0 rfl) ?_
            refine zgX10_39 hx hb hf hown P0 Z L110 dX10_way_136 ?_
            refine lv_iload hx hb dX10_way_139 (lv_at hl 4 rfl) ?_
            obtain ⟨v10, ev, hin, h⟩ := zld_s h
            refine zlM_24 hx hb P0 Z ev hin dX10_way_141 ?_
            obtain ⟨r11, S12, ec, h⟩ := zbd_s h
            refine zc_Si hY P0 ⟨hx, hb, hml, hown, hT⟩ (As := [.int v10]) (rest := []) (kX10_fields l hO v10 S r11 S12 ec) (va_cwS 1 hT (zgS mL_X10_362 mT_X10_fields mN_X10 mC_X10_fields) rfl rfl rfl hdnX10_fields ⟨Nat.le_of_ble_eq_true rfl, Nat.le_of_ble_eq_true rfl⟩) Z rfl hl.1 rfl (Nat.le_of_ble_eq_true rfl) dX10_way_142 (fun H locs Z => ?_)
            refine lv_if_le (tgt := 165) hx hb dX10_way_145 (by decide) (fun q => ?_) (fun q => ?_)
            · have h := zi_t q h
              exact B165 (fX10_way_105L k94 n) K105 x2 x4 x5 x6 S12 h _ _ Z ls (lv_sub hl [0, 1, 2, 3, 4] rfl)
            · have h := zi_f q h
              refine lv_aload_n hx hb dX10_way_148 rfl (lv_at hl 0 rfl) ?_
              refine zgX10_66 hx hb hf hown P0 Z L150 dX10_way_149 ?_
              refine lv_aload_n hx hb dX10_way_152 rfl (lv_at hl 0 rfl) ?_
              refine zgX10_40 hx hb hf hown P0 Z L113 dX10_way_153 ?_
              refine lv_iload hx hb dX10_way_156 (lv_at hl 4 rfl) ?_
              obtain ⟨v13, ev, hin, h⟩ := zld_s h
              refine zlM_25 hx hb P0 Z ev hin dX10_way_158 ?_
              obtain ⟨v14, ev, hin, h⟩ := zld_s h
              refine zlM_37 hx hb P0 Z ev hin dX10_way_159 ?_
              refine lv_iload hx hb dX10_way_160 (lv_at hl 3 rfl) ?_
              refine lv_icmp_eq (tgt := 196) hx hb dX10_way_162 (by decide) (fun q => ?_) (fun q => ?_)
              · have h := zi_t q h
                exact B196 (fX10_way_105L k94 n) K105 x2 x5 x6 S12 h _ _ Z ls (lv_sub hl [0, 1, 3, 4] rfl)
              · have h := zi_f q h
                exact B165 (fX10_way_105L k94 n) K105 x2 x4 x5 x6 S12 h _ _ Z ls (lv_sub hl [0, 1, 2, 3, 4] rfl)
  have B437 : ∀ (k315 : Int32 × Int32 × Int32 × zSt → Option (Int32 × zSt)) (K315 : (∀ (x2 : Int32) (x5 : Int32) (x6 : Int32) (S : zSt), k315 (x2, x5, x6, S) = some (r, S') → ∀ (H : Heap) (locs : List Loc), zZ (zYM g) S s H locs → ∀ ls : Array Slot, lv_has ls 11 [(0, .ref (zad g 0)), (2, .int x2), (5, .int x5), (6, .int x6)] → W p l e (headSpec vX10_way { frames := 2, cells := 0, slots := 0, locals := 43 }).room s m ([.ref (zad g 0), .int a1, .int a2] : List Value).toArray below meth c H locs 0 0 (MQ below (zQi (zYM g) r S') ([.ref (zad g 0), .int a1, .int a2] : List Value).toArray s 0 0 (zYM g).2.2.1) (F0 m 315 ls []))) (x2 : Int32) (x6 : Int32) (x7 : Int32) (x8 : Int32) (x9 : Int32) (S : zSt), fX10_way_437 k315 x2 x6 x7 x8 x9 S = some (r, S') → ∀ (H : Heap) (locs : List Loc), zZ (zYM g) S s H locs → ∀ ls : Array Slot, lv_has ls 11 [(0, .ref (zad g 0)), (2, .int x2), (6, .int x6), (7, .int x7), (8, .int x8), (9, .int x9)] → W p l e (headSpec vX10_way { frames := 2, cells := 0, slots := 0, locals := 43 }).room s m ([.ref (zad g 0), .int a1, .int a2] : List Value).toArray below meth c H locs 0 0 (MQ below (zQi (zYM g) r S') ([.ref (zad g 0), .int a1, .int a2] : List Value).toArray s 0 0 (zYM g).2.2.1) (F0 m 437 ls []) := by
    intro k315 K315 x2 x6 x7 x8 x9 S h H locs Z ls hl
    unfold fX10_way_437 at h
    refine lv_iload hx hb dX10_way_437 (lv_at hl 5 rfl) ?_
    refine lv_if_eq (tgt := 447) hx hb dX10_way_439 (by decide) (fun q => ?_) (fun q => ?_)
    · have h := zi_t q h
      refine lv_iload hx hb dX10_way_447 (lv_at hl 4 rfl) ?_
      refine lv_istore (lv' := [(5, .int x8), (0, .ref (zad g 0)), (2, .int x2), (6, .int x6), (7, .int x7), (8, .int x8), (9, .int x9)]) hx hb dX10_way_449 hl (by decide) rfl (fun ls hl => ?_)
      refine lv_iinc (v := (x6 + (nI 1))) (lv' := [(6, .int (x6 + (nI 1))), (5, .int x8), (0, .ref (zad g 0)), (2, .int x2), (7, .int x7), (8, .int x8), (9, .int x9)]) hx hb dX10_way_451 hl (k := 3) rfl rfl (by decide) rfl (fun ls hl => ?_)
      refine lv_goto (tgt := 315) hx hb dX10_way_454 (by decide) ?_
      exact K315 x2 x8 (x6 + (nI 1)) S h _ _ Z ls (lv_sub hl [2, 3, 1, 0] rfl)
    · have h := zi_f q h
      refine lv_iload hx hb dX10_way_442 (lv_at hl 3 rfl) ?_
      refine lv_goto (tgt := 449) hx hb dX10_way_444 (by decide) ?_
      refine lv_istore (lv' := [(5, .int x7), (0, .ref (zad g 0)), (2, .int x2), (6, .int x6), (7, .int x7), (8, .int x8), (9, .int x9)]) hx hb dX10_way_449 hl (by decide) rfl (fun ls hl => ?_)
      refine lv_iinc (v := (x6 + (nI 1))) (lv' := [(6, .int (x6 + (nI 1))), (5, .int x7), (0, .ref (zad g 0)), (2, .int x2), (7, .int x7), (8, .int x8), (9, .int x9)]) hx hb dX10_way_451 hl (k := 3) rfl rfl (by decide) rfl (fun ls hl => ?_)
      refine lv_goto (tgt := 315) hx hb dX10_way_454 (by decide) ?_
      exact K315 x2 x7 (x6 + (nI 1)) S h _ _ Z ls (lv_sub hl [2, 3, 1, 0] rfl)
  have B408 : ∀ (k315 : Int32 × Int32 × Int32 × zSt → Option (Int32 × zSt)) (K315 : (∀ (x2 : Int32) (x5 : Int32) (x6 : Int32) (S : zSt), k315 (x2, x5, x6, S) = some (r, S') → ∀ (H : Heap) (locs : List Loc), zZ (zYM g) S s H locs → ∀ ls : Array Slot, lv_has ls 11 [(0, .ref (zad g 0)), (2, .int x2), (5, .int x5), (6, .int x6)] → W p l e (headSpec vX10_way { frames := 2, cells := 0, slots := 0, locals := 43 }).room s m ([.ref (zad g 0), .int a1, .int a2] : List Value).toArray below meth c H locs 0 0 (MQ below (zQi (zYM g) r S') ([.ref (zad g 0), .int a1, .int a2] : List Value).toArray s 0 0 (zYM g).2.2.1) (F0 m 315 ls []))) (x2 : Int32) (x6 : Int32) (x7 : Int32) (x8 : Int32) (x9 : Int32) (y0 : Int32) (S : zSt), fX10_way_408 k315 x2 x6 x7 x8 x9 y0 S = some (r, S') → ∀ (H : Heap) (locs : List Loc), zZ (zYM g) S s H locs → ∀ ls : Array Slot, lv_has ls 11 [(0, .ref (zad g 0)), (2, .int x2), (6, .int x6), (7, .int x7), (8, .int x8), (9, .int x9)] → W p l e (headSpec vX10_way { frames := 2, cells := 0, slots := 0, locals := 43 }).room s m ([.ref (zad g 0), .int a1, .int a2] : List Value).toArray below meth c H locs 0 0 (MQ below (zQi (zYM g) r S') ([.ref (zad g 0), .int a1, .int a2] : List Value).toArray s 0 0 (zYM g).2.2.1) (F0 m 408 ls [.int y0]) := by
    intro k315 K315 x2 x6 x7 x8 x9 y0 S h H locs Z ls hl
    unfold fX10_way_408 at h
    refine lv_istore (lv' := [(10, .int y0), (0, .ref (zad g 0)), (2, .int x2), (6, .int x6), (7, .int x7), (8, .int x8), (9, .int x9)]) hx hb dX10_way_408 hl (by decide) rfl (fun ls hl => ?_)
    refine lv_iload hx hb dX10_way_410 (lv_at hl 6 rfl) ?_
    refine lv_if_eq (tgt := 437) hx hb dX10_way_412 (by decide) (fun q => ?_) (fun q => ?_)
    · have h := zi_t q h
      exact B437 k315 K315 x2 x6 x7 x8 x9 S h _ _ Z ls (lv_sub hl [1, 2, 3, 4, 5, 6] rfl)
    · have h := zi_f q h
      refine lv_iload hx hb dX10_way_415 (lv_at hl 0 rfl) ?_
      refine lv_if_eq (tgt := 437) hx hb dX10_way_417 (by decide) (fun q => ?_) (fun q => ?_)
      · have h := zi_t q h
        exact B437 k315 K315 x2 x6 x7 x8 x9 S h _ _ Z ls (lv_sub hl [1, 2, 3, 4, 5, 6] rfl)
      · have h := zi_f q h
        refine lv_iload hx hb dX10_way_420 (lv_at hl 4 rfl) ?_
        refine lv_iload hx hb dX10_way_422 (lv_at hl 5 rfl) ?_
        refine lv_icmp_ge (tgt := 432) hx hb dX10_way_424 (by decide) (fun q => ?_) (fun q => ?_)
        · have h := zi_t q h
          refine lv_iload hx hb dX10_way_432 (lv_at hl 5 rfl) ?_
          refine lv_goto (tgt := 449) hx hb dX10_way_434 (by decide) ?_
          refine lv_istore (lv' := [(5, .int x8), (10, .int y0), (0, .ref (zad g 0)), (2, .int x2), (6, .int x6), (7, .int x7), (8, .int x8), (9, .int x9)]) hx hb dX10_way_449 hl (by decide) rfl (fun ls hl => ?_)
          refine lv_iinc (v := (x6 + (nI 1))) (lv' := [(6, .int (x6 + (nI 1))), (5, .int x8), (10, .int y0), (0, .ref (zad g 0)), (2, .int x2), (7, .int x7), (8, .int x8), (9, .int x9)]) hx hb dX10_way_451 hl (k := 4) rfl rfl (by decide) rfl (fun ls hl => ?_)
          refine lv_goto (tgt := 315) hx hb dX10_way_454 (by decide) ?_
          exact K315 x2 x8 (x6 + (nI 1)) S h _ _ Z ls (lv_sub hl [3, 4, 1, 0] rfl)
        · have h := zi_f q h
          refine lv_iload hx hb dX10_way_427 (lv_at hl 4 rfl) ?_
          refine lv_goto (tgt := 449) hx hb dX10_way_429 (by decide) ?_
          refine lv_istore (lv' := [(5, .int x7), (10, .int y0), (0, .ref (zad g 0)), (2, .int x2), (6, .int x6), (7, .int x7), (8, .int x8), (9, .int x9)]) hx hb dX10_way_449 hl (by decide) rfl (fun ls hl => ?_)
          refine lv_iinc (v := (x6 + (nI 1))) (lv' := [(6, .int (x6 + (nI 1))), (5, .int x7), (10, .int y0), (0, .ref (zad g 0)), (2, .int x2), (7, .int x7), (8, .int x8), (9, .int x9)]) hx hb dX10_way_451 hl (k := 4) rfl rfl (by decide) rfl (fun ls hl => ?_)
          refine lv_goto (tgt := 315) hx hb dX10_way_454 (by decide) ?_
          exact K315 x2 x7 (x6 + (nI 1)) S h _ _ Z ls (lv_sub hl [3, 4, 1, 0] rfl)
  have B382 : ∀ (k315 : Int32 × Int32 × Int32 × zSt → Option (Int32 × zSt)) (K315 : (∀ (x2 : Int32) (x5 : Int32) (x6 : Int32) (S : zSt), k315 (x2, x5, x6, S) = some (r, S') → ∀ (H : Heap) (locs : List Loc), zZ (zYM g) S s H locs → ∀ ls : Array Slot, lv_has ls 11 [(0, .ref (zad g 0)), (2, .int x2), (5, .int x5), (6, .int x6)] → W p l e (headSpec vX10_way { frames := 2, cells := 0, slots := 0, locals := 43 }).room s m ([.ref (zad g 0), .int a1, .int a2] : List Value).toArray below meth c H locs 0 0 (MQ below (zQi (zYM g) r S') ([.ref (zad g 0), .int a1, .int a2] : List Value).toArray s 0 0 (zYM g).2.2.1) (F0 m 315 ls []))) (x2 : Int32) (x5 : Int32) (x6 : Int32) (x7 : Int32) (x8 : Int32) (y0 : Int32) (S : zSt), fX10_way_382 k315 x2 x5 x6 x7 x8 y0 S = some (r, S') → ∀ (H : Heap) (locs : List Loc), zZ (zYM g) S s H locs → ∀ ls : Array Slot, lv_has ls 11 [(0, .ref (zad g 0)), (2, .int x2), (5, .int x5), (6, .int x6), (7, .int x7), (8, .int x8)] → W p l e (headSpec vX10_way { frames := 2, cells := 0, slots := 0, locals := 43 }).room s m ([.ref (zad g 0), .int a1, .int a2] : List Value).toArray below meth c H locs 0 0 (MQ below (zQi (zYM g) r S') ([.ref (zad g 0), .int a1, .int a2] : List Value).toArray s 0 0 (zYM g).2.2.1) (F0 m 382 ls [.int y0]) := by
    intro k315 K315 x2 x5 x6 x7 x8 y0 S h H locs Z ls hl
    unfold fX10_way_382 at h
    refine lv_istore (lv' := [(9, .int y0), (0, .ref (zad g 0)), (2, .int x2), (5, .int x5), (6, .int x6), (7, .int x7), (8, .int x8)]) hx hb dX10_way_382 hl (by decide) rfl (fun ls hl => ?_)
    refine lv_aload_n hx hb dX10_way_384 rfl (lv_at hl 1 rfl) ?_
    refine zgX10_66 hx hb hf hown P0 Z L150 dX10_way_385 ?_
    refine lv_iload hx hb dX10_way_388 (lv_at hl 6 rfl) ?_
    obtain ⟨v34, ev, hin, h⟩ := zld_s h
    refine zlM_37 hx hb P0 Z ev hin dX10_way_390 ?_
    refine lv_aload_n hx hb dX10_way_391 rfl (lv_at hl 1 rfl) ?_
    refine zgX10_66 hx hb hf hown P0 Z L150 dX10_way_392 ?_
    refine lv_iload hx hb dX10_way_395 (lv_at hl 3 rfl) ?_
    obtain ⟨v35, ev, hin, h⟩ := zld_s h
    refine zlM_37 hx hb P0 Z ev hin dX10_way_397 ?_
    refine lv_iconst (v := (nI 1)) hx hb dX10_way_398 (by decide) ?_
    refine lv_isub hx hb dX10_way_399 ?_
    refine lv_icmp_ne (tgt := 407) hx hb dX10_way_400 (by decide) (fun q => ?_) (fun q => ?_)
    · have h := zi_f q h
      refine lv_iconst (v := (nI 0)) hx hb dX10_way_407 (by decide) ?_
      exact B408 k315 K315 x2 x6 x7 x8 y0 (nI 0) S h _ _ Z ls (lv_sub hl [1, 2, 4, 5, 6, 0] rfl)
    · have h := zi_t q h
      refine lv_iconst (v := (nI 1)) hx hb dX10_way_403 (by decide) ?_
      refine lv_goto (tgt := 408) hx hb dX10_way_404 (by decide) ?_
      exact B408 k315 K315 x2 x6 x7 x8 y0 (nI 1) S h _ _ Z ls (lv_sub hl [1, 2, 4, 5, 6, 0] rfl)
  have B356 : ∀ (k315 : Int32 × Int32 × Int32 × zSt → Option (Int32 × zSt)) (K315 : (∀ (x2 : Int32) (x5 : Int32) (x6 : Int32) (S : zSt), k315 (x2, x5, x6, S) = some (r, S') → ∀ (H : Heap) (locs : List Loc), zZ (zYM g) S s H locs → ∀ ls : Array Slot, lv_has ls 11 [(0, .ref (zad g 0)), (2, .int x2), (5, .int x5), (6, .int x6)] → W p l e (headSpec vX10_way { frames := 2, cells := 0, slots := 0, locals := 43 }).room s m ([.ref (zad g 0), .int a1, .int a2] : List Value).toArray below meth c H locs 0 0 (MQ below (zQi (zYM g) r S') ([.ref (zad g 0), .int a1, .int a2] : List Value).toArray s 0 0 (zYM g).2.2.1) (F0 m 315 ls []))) (x2 : Int32) (x5 : Int32) (x6 : Int32) (x7 : Int32) (y0 : Int32) (S : zSt), fX10_way_356 k315 x2 x5 x6 x7 y0 S = some (r, S') → ∀ (H : Heap) (locs : List Loc), zZ (zYM g) S s H locs → ∀ ls : Array Slot, lv_has ls 11 [(0, .ref (zad g 0)), (2, .int x2), (5, .int x5), (6, .int x6), (7, .int x7)] → W p l e (headSpec vX10_way { frames := 2, cells := 0, slots := 0, locals := 43 }).room s m ([.ref (zad g 0), .int a1, .int a2] : List Value).toArray below meth c H locs 0 0 (MQ below (zQi (zYM g) r S') ([.ref (zad g 0), .int a1, .int a2] : List Value).toArray s 0 0 (zYM g).2.2.1) (F0 m 356 ls [.int y0]) := by
    intro k315 K315 x2 x5 x6 x7 y0 S h H locs Z ls hl
    unfold fX10_way_356 at h
    refine lv_istore (lv' := [(8, .int y0), (0, .ref (zad g 0)), (2, .int x2), (5, .int x5), (6, .int x6), (7, .int x7)]) hx hb dX10_way_356 hl (by decide) rfl (fun ls hl => ?_)
    refine lv_aload_n hx hb dX10_way_358 rfl (lv_at hl 1 rfl) ?_
    refine zgX10_66 hx hb hf hown P0 Z L150 dX10_way_359 ?_
    refine lv_iload hx hb dX10_way_362 (lv_at hl 5 rfl) ?_
    obtain ⟨v32, ev, hin, h⟩ := zld_s h
    refine zlM_37 hx hb P0 Z ev hin dX10_way_364 ?_
    refine lv_aload_n hx hb dX10_way_365 rfl (lv_at hl 1 rfl) ?_
    refine zgX10_66 hx hb hf hown P0 Z L150 dX10_way_366 ?_
    refine lv_iload hx hb dX10_way_369 (lv_at hl 3 rfl) ?_
    obtain ⟨v33, ev, hin, h⟩ := zld_s h
    refine zlM_37 hx hb P0 Z ev hin dX10_way_371 ?_
    refine lv_iconst (v := (nI 1)) hx hb dX10_way_372 (by decide) ?_
    refine lv_isub hx hb dX10_way_373 ?_
    refine lv_icmp_ne (tgt := 381) hx hb dX10_way_374 (by decide) (fun q => ?_) (fun q => ?_)
    · have h := zi_f q h
      refine lv_iconst (v := (nI 0)) hx hb dX10_way_381 (by decide) ?_
      exact B382 k315 K315 x2 x5 x6 x7 y0 (nI 0) S h _ _ Z ls (lv_sub hl [1, 2, 3, 4, 5, 0] rfl)
    · have h := zi_t q h
      refine lv_iconst (v := (nI 1)) hx hb dX10_way_377 (by decide) ?_
      refine lv_goto (tgt := 382) hx hb dX10_way_378 (by decide) ?_
      exact B382 k315 K315 x2 x5 x6 x7 y0 (nI 1) S h _ _ Z ls (lv_sub hl [1, 2, 3, 4, 5, 0] rfl)
  have B315 : ∀ (n : Nat) (x2 : Int32) (x5 : Int32) (x6 : Int32) (S : zSt), fX10_way_315L n (x2, x5, x6, S) = some (r, S') → ∀ (H : Heap) (locs : List Loc), zZ (zYM g) S s H locs → ∀ ls : Array Slot, lv_has ls 11 [(0, .ref (zad g 0)), (2, .int x2), (5, .int x5), (6, .int x6)] → W p l e (headSpec vX10_way { frames := 2, cells := 0, slots := 0, locals := 43 }).room s m ([.ref (zad g 0), .int a1, .int a2] : List Value).toArray below meth c H locs 0 0 (MQ below (zQi (zYM g) r S') ([.ref (zad g 0), .int a1, .int a2] : List Value).toArray s 0 0 (zYM g).2.2.1) (F0 m 315 ls []) := by
    intro n
    induction n with
    | zero => intro x2 x5 x6 S h; exact absurd h (fun h => nomatch h)
    | succ n K315 =>
      intro x2 x5 x6 S h H locs Z ls hl
      have h : fX10_way_315 (fX10_way_315L n) x2 x5 x6 S = some (r, S') := h
      unfold fX10_way_315 at h
      refine lv_iload hx hb dX10_way_315 (lv_at hl 3 rfl) ?_
      refine lv_iload_n hx hb dX10_way_317 rfl (lv_at hl 1 rfl) ?_
      refine lv_icmp_ge (tgt := 457) hx hb dX10_way_318 (by decide) (fun q => ?_) (fun q => ?_)
      · have h := zi_t q h
        refine lv_iload hx hb dX10_way_457 (lv_at hl 2 rfl) ?_
        exact zr_i hY P0 hx hb hr hlocks h Z dX10_way_459
      · have h := zi_f q h
        refine lv_aload_n hx hb dX10_way_321 rfl (lv_at hl 0 rfl) ?_
        refine zgX10_40 hx hb hf hown P0 Z L113 dX10_way_322 ?_
        refine lv_iload hx hb dX10_way_325 (lv_at hl 2 rfl) ?_
        obtain ⟨v27, ev, hin, h⟩ := zld_s h
        refine zlM_25 hx hb P0 Z ev hin dX10_way_327 ?_
        refine lv_istore (lv' := [(7, .int v27), (0, .ref (zad g 0)), (2, .int x2), (5, .int x5), (6, .int x6)]) hx hb dX10_way_328 hl (by decide) rfl (fun ls hl => ?_)
        refine lv_aload_n hx hb dX10_way_330 rfl (lv_at hl 1 rfl) ?_
        refine zgX10_39 hx hb hf hown P0 Z L110 dX10_way_331 ?_
        refine lv_iload hx hb dX10_way_334 (lv_at hl 3 rfl) ?_
        obtain ⟨v28, ev, hin, h⟩ := zld_s h
        refine zlM_24 hx hb P0 Z ev hin dX10_way_336 ?_
        obtain ⟨r29, S30, ec, h⟩ := zbd_s h
        refine zc_Si hY P0 ⟨hx, hb, hml, hown, hT⟩ (As := [.int v28]) (rest := []) (kX10_fields l hO v28 S r29 S30 ec) (va_cwS 1 hT (zgS mL_X10_362 mT_X10_fields mN_X10 mC_X10_fields) rfl rfl rfl hdnX10_fields ⟨Nat.le_of_ble_eq_true rfl, Nat.le_of_ble_eq_true rfl⟩) Z rfl hl.1 rfl (Nat.le_of_ble_eq_true rfl) dX10_way_337 (fun H locs Z => ?_)
        refine lv_iconst (v := (nI 1)) hx hb dX10_way_340 (by decide) ?_
        refine lv_icmp_le (tgt := 354) hx hb dX10_way_341 (by decide) (fun q => ?_) (fun q => ?_)
        · have h := zi_t q h
          refine lv_iload hx hb dX10_way_354 (lv_at hl 0 rfl) ?_
          exact B356 (fX10_way_315L n) K315 x2 x5 x6 v27 v27 S30 h _ _ Z ls (lv_sub hl [1, 2, 3, 4, 0] rfl)
        · have h := zi_f q h
          refine lv_aload_n hx hb dX10_way_344 rfl (lv_at hl 1 rfl) ?_
          refine zgX10_41 hx hb hf hown P0 Z L116 dX10_way_345 ?_
          refine lv_iload hx hb dX10_way_348 (lv_at hl 3 rfl) ?_
          obtain ⟨v31, ev, hin, h⟩ := zld_s h
          refine zlM_26 hx hb P0 Z ev hin dX10_way_350 ?_
          refine lv_goto (tgt := 356) hx hb dX10_way_351 (by decide) ?_
          exact B356 (fX10_way_315L n) K315 x2 x5 x6 v27 v31 S30 h _ _ Z ls (lv_sub hl [1, 2, 3, 4, 0] rfl)
  have B228 : ∀ (n : Nat) (x2 : Int32) (x5 : Int32) (x6 : Int32) (S : zSt), fX10_way_228L n (x2, x5, x6, S) = some (r, S') → ∀ (H : Heap) (locs : List Loc), zZ (zYM g) S s H locs → ∀ ls : Array Slot, lv_has ls 11 [(0, .ref (zad g 0)), (2, .int x2), (5, .int x5), (6, .int x6)] → W p l e (headSpec vX10_way { frames := 2, cells := 0, slots := 0, locals := 43 }).room s m ([.ref (zad g 0), .int a1, .int a2] : List Value).toArray below meth c H locs 0 0 (MQ below (zQi (zYM g) r S') ([.ref (zad g 0), .int a1, .int a2] : List Value).toArray s 0 0 (zYM g).2.2.1) (F0 m 228 ls []) := by
    intro n
    induction n with
    | zero => intro x2 x5 x6 S h; exact absurd h (fun h => nomatch h)
    | succ n K228 =>
      intro x2 x5 x6 S h H locs Z ls hl
      have h : fX10_way_228 (fX10_way_228L n) x2 x5 x6 S = some (r, S') := h
      unfold fX10_way_228 at h
      refine lv_iload hx hb dX10_way_228 (lv_at hl 3 rfl) ?_
      refine lv_sipush (v := (nI 400)) hx hb dX10_way_230 (by decide) ?_
      refine lv_icmp_ge (tgt := 287) hx hb dX10_way_233 (by decide) (fun q => ?_) (fun q => ?_)
      · have h := zi_t q h
        refine lv_iload_n hx hb dX10_way_287 rfl (lv_at hl 1 rfl) ?_
        refine lv_aload_n hx hb dX10_way_288 rfl (lv_at hl 0 rfl) ?_
        refine zgX10_66 hx hb hf hown P0 Z L150 dX10_way_289 ?_
        refine lv_iload hx hb dX10_way_292 (lv_at hl 2 rfl) ?_
        obtain ⟨v20, ev, hin, h⟩ := zld_s h
        refine zlM_37 hx hb P0 Z ev hin dX10_way_294 ?_
        refine lv_icmp_lt (tgt := 300) hx hb dX10_way_295 (by decide) (fun q => ?_) (fun q => ?_)
        · have h := zi_t q h
          refine lv_iload_n hx hb dX10_way_300 rfl (lv_at hl 1 rfl) ?_
          refine lv_if_ge (tgt := 312) hx hb dX10_way_301 (by decide) (fun q => ?_) (fun q => ?_)
          · have h := zi_t q h
            refine lv_iconst (v := (nI 0)) hx hb dX10_way_312 (by decide) ?_
            refine lv_istore (lv' := [(6, .int (nI 0)), (0, .ref (zad g 0)), (2, .int x2), (5, .int x5)]) hx hb dX10_way_313 hl (by decide) rfl (fun ls hl => ?_)
            exact B315 zFU x2 x5 (nI 0) S h _ _ Z ls (lv_sub hl [1, 2, 3, 0] rfl)
          · have h := zi_f q h
            refine lv_aload_n hx hb dX10_way_304 rfl (lv_at hl 0 rfl) ?_
            refine zgX10_66 hx hb hf hown P0 Z L150 dX10_way_305 ?_
            refine lv_iload hx hb dX10_way_308 (lv_at hl 2 rfl) ?_
            obtain ⟨v21, ev, hin, h⟩ := zld_s h
            refine zlM_37 hx hb P0 Z ev hin dX10_way_310 ?_
            exact zr_i hY P0 hx hb hr hlocks h Z dX10_way_311
        · have h := zi_f q h
          refine lv_iconst (v := (-1 : Int32)) hx hb dX10_way_298 (by decide) ?_
          exact zr_i hY P0 hx hb hr hlocks h Z dX10_way_299
      · have h := zi_f q h
        refine lv_aload_n hx hb dX10_way_236 rfl (lv_at hl 0 rfl) ?_
        refine lv_iload hx hb dX10_way_237 (lv_at hl 3 rfl) ?_
        obtain ⟨r22, S23, ec, h⟩ := zbd_s h
        refine zc_Vi hY P0 ⟨hx, hb, hml, hown, hT⟩ (As := [.int x6]) (rest := []) (kX10_isRoot l hO x6 S r22 S23 ec) (cwV 1 hT (zgV mL_X10_374 mI_X10_isRoot mS_X10_isRoot mN_X10 mC_X10_isRoot) rfl rfl rfl hdnX10_isRoot ⟨Nat.le_of_ble_eq_true rfl, Nat.le_of_ble_eq_true rfl⟩) (zrecM_0 P0 Z) Z rfl hl.1 rfl (Nat.le_of_ble_eq_true rfl) dX10_way_239 (fun H locs Z => ?_)
        refine lv_if_eq (tgt := 281) hx hb dX10_way_242 (by decide) (fun q => ?_) (fun q => ?_)
        · have h := zi_t q h
          refine lv_iinc (v := (x6 + (nI 1))) (lv' := [(6, .int (x6 + (nI 1))), (0, .ref (zad g 0)), (2, .int x2), (5, .int x5)]) hx hb dX10_way_281 hl (k := 3) rfl rfl (by decide) rfl (fun ls hl => ?_)
          refine lv_goto (tgt := 228) hx hb dX10_way_284 (by decide) ?_
          exact K228 x2 x5 (x6 + (nI 1)) S23 h _ _ Z ls (lv_sub hl [1, 2, 3, 0] rfl)
        · have h := zi_f q h
          refine lv_aload_n hx hb dX10_way_245 rfl (lv_at hl 0 rfl) ?_
          refine zgX10_66 hx hb hf hown P0 Z L150 dX10_way_246 ?_
          refine lv_iload hx hb dX10_way_249 (lv_at hl 3 rfl) ?_
          obtain ⟨v24, ev, hin, h⟩ := zld_s h
          refine zlM_37 hx hb P0 Z ev hin dX10_way_251 ?_
          refine lv_if_le (tgt := 281) hx hb dX10_way_252 (by decide) (fun q => ?_) (fun q => ?_)
          · have h := zi_t q h
            refine lv_iinc (v := (x6 + (nI 1))) (lv' := [(6, .int (x6 + (nI 1))), (0, .ref (zad g 0)), (2, .int x2), (5, .int x5)]) hx hb dX10_way_281 hl (k := 3) rfl rfl (by decide) rfl (fun ls hl => ?_)
            refine lv_goto (tgt := 228) hx hb dX10_way_284 (by decide) ?_
            exact K228 x2 x5 (x6 + (nI 1)) S23 h _ _ Z ls (lv_sub hl [1, 2, 3, 0] rfl)
          · have h := zi_f q h
            refine lv_iload hx hb dX10_way_255 (lv_at hl 2 rfl) ?_
            refine lv_if_lt (tgt := 277) hx hb dX10_way_257 (by decide) (fun q => ?_) (fun q => ?_)
            · have h := zi_t q h
              refine lv_iload hx hb dX10_way_277 (lv_at hl 3 rfl) ?_
              refine lv_istore (lv' := [(5, .int x6), (0, .ref (zad g 0)), (2, .int x2), (6, .int x6)]) hx hb dX10_way_279 hl (by decide) rfl (fun ls hl => ?_)
              refine lv_iinc (v := (x6 + (nI 1))) (lv' := [(6, .int (x6 + (nI 1))), (5, .int x6), (0, .ref (zad g 0)), (2, .int x2)]) hx hb dX10_way_281 hl (k := 3) rfl rfl (by decide) rfl (fun ls hl => ?_)
              refine lv_goto (tgt := 228) hx hb dX10_way_284 (by decide) ?_
              exact K228 x2 x6 (x6 + (nI 1)) S23 h _ _ Z ls (lv_sub hl [2, 3, 1, 0] rfl)
            · have h := zi_f q h
              refine lv_aload_n hx hb dX10_way_260 rfl (lv_at hl 0 rfl) ?_
              refine zgX10_66 hx hb hf hown P0 Z L150 dX10_way_261 ?_
              refine lv_iload hx hb dX10_way_264 (lv_at hl 3 rfl) ?_
              obtain ⟨v25, ev, hin, h⟩ := zld_s h
              refine zlM_37 hx hb P0 Z ev hin dX10_way_266 ?_
              refine lv_aload_n hx hb dX10_way_267 rfl (lv_at hl 0 rfl) ?_
              refine zgX10_66 hx hb hf hown P0 Z L150 dX10_way_268 ?_
              refine lv_iload hx hb dX10_way_271 (lv_at hl 2 rfl) ?_
              obtain ⟨v26, ev, hin, h⟩ := zld_s h
              refine zlM_37 hx hb P0 Z ev hin dX10_way_273 ?_
              refine lv_icmp_ge (tgt := 281) hx hb dX10_way_274 (by decide) (fun q => ?_) (fun q => ?_)
              · have h := zi_t q h
                refine lv_iinc (v := (x6 + (nI 1))) (lv' := [(6, .int (x6 + (nI 1))), (0, .ref (zad g 0)), (2, .int x2), (5, .int x5)]) hx hb dX10_way_281 hl (k := 3) rfl rfl (by decide) rfl (fun ls hl => ?_)
                refine lv_goto (tgt := 228) hx hb dX10_way_284 (by decide) ?_
                exact K228 x2 x5 (x6 + (nI 1)) S23 h _ _ Z ls (lv_sub hl [1, 2, 3, 0] rfl)
              · have h := zi_f q h
                refine lv_iload hx hb dX10_way_277 (lv_at hl 3 rfl) ?_
                refine lv_istore (lv' := [(5, .int x6), (0, .ref (zad g 0)), (2, .int x2), (6, .int x6)]) hx hb dX10_way_279 hl (by decide) rfl (fun ls hl => ?_)
                refine lv_iinc (v := (x6 + (nI 1))) (lv' := [(6, .int (x6 + (nI 1))), (5, .int x6), (0, .ref (zad g 0)), (2, .int x2)]) hx hb dX10_way_281 hl (k := 3) rfl rfl (by decide) rfl (fun ls hl => ?_)
                refine lv_goto (tgt := 228) hx hb dX10_way_284 (by decide) ?_
                exact K228 x2 x6 (x6 + (nI 1)) S23 h _ _ Z ls (lv_sub hl [2, 3, 1, 0] rfl)
  have B94 : ∀ (n : Nat) (x2 : Int32) (x4 : Int32) (x5 : Int32) (S : zSt), fX10_way_94L n (x2, x4, x5, S) = some (r, S') → ∀ (H : Heap) (locs : List Loc), zZ (zYM g) S s H locs → ∀ ls : Array Slot, lv_has ls 11 [(0, .ref (zad g 0)), (2, .int x2), (4, .int x4), (5, .int x5)] → W p l e (headSpec vX10_way { frames := 2, cells := 0, slots := 0, locals := 43 }).room s m ([.ref (zad g 0), .int a1, .int a2] : List Value).toArray below meth c H locs 0 0 (MQ below (zQi (zYM g) r S') ([.ref (zad g 0), .int a1, .int a2] : List Value).toArray s 0 0 (zYM g).2.2.1) (F0 m 94 ls []) := by
    intro n
    induction n with
    | zero => intro x2 x4 x5 S h; exact absurd h (fun h => nomatch h)
    | succ n K94 =>
      intro x2 x4 x5 S h H locs Z ls hl
      have h : fX10_way_94 (fX10_way_94L n) x2 x4 x5 S = some (r, S') := h
      unfold fX10_way_94 at h
      refine lv_iload hx hb dX10_way_94 (lv_at hl 2 rfl) ?_
      refine lv_if_eq (tgt := 222) hx hb dX10_way_96 (by decide) (fun q => ?_) (fun q => ?_)
      · have h := zi_t q h
        refine lv_iconst (v := (-1 : Int32)) hx hb dX10_way_222 (by decide) ?_
        refine lv_istore (lv' := [(5, .int (-1 : Int32)), (0, .ref (zad g 0)), (2, .int x2), (4, .int x4)]) hx hb dX10_way_223 hl (by decide) rfl (fun ls hl => ?_)
        refine lv_iconst (v := (nI 0)) hx hb dX10_way_225 (by decide) ?_
        refine lv_istore (lv' := [(6, .int (nI 0)), (5, .int (-1 : Int32)), (0, .ref (zad g 0)), (2, .int x2), (4, .int x4)]) hx hb dX10_way_226 hl (by decide) rfl (fun ls hl => ?_)
        exact B228 zFU x2 (-1 : Int32) (nI 0) S h _ _ Z ls (lv_sub hl [2, 3, 1, 0] rfl)
      · have h := zi_f q h
        refine lv_iconst (v := (nI 0)) hx hb dX10_way_99 (by decide) ?_
        refine lv_istore (lv' := [(4, .int (nI 0)), (0, .ref (zad g 0)), (2, .int x2), (5, .int x5)]) hx hb dX10_way_100 hl (by decide) rfl (fun ls hl => ?_)
        refine lv_iconst (v := (nI 0)) hx hb dX10_way_102 (by decide) ?_
        refine lv_istore (lv' := [(6, .int (nI 0)), (4, .int (nI 0)), (0, .ref (zad g 0)), (2, .int x2), (5, .int x5)]) hx hb dX10_way_103 hl (by decide) rfl (fun ls hl => ?_)
        exact B105 (fX10_way_94L n) K94 zFU x2 (nI 0) x5 (nI 0) S h _ _ Z ls (lv_sub hl [2, 3, 1, 4, 0] rfl)
  have B59 : ∀ (n : Nat) (x1 : Int32) (x2 : Int32) (x4 : Int32) (S : zSt), fX10_way_59L n (x1, x2, x4, S) = some (r, S') → ∀ (H : Heap) (locs : List Loc), zZ (zYM g) S s H locs → ∀ ls : Array Slot, lv_has ls 11 [(0, .ref (zad g 0)), (1, .int x1), (2, .int x2), (4, .int x4)] → W p l e (headSpec vX10_way { frames := 2, cells := 0, slots := 0, locals := 43 }).room s m ([.ref (zad g 0), .int a1, .int a2] : List Value).toArray below meth c H locs 0 0 (MQ below (zQi (zYM g) r S') ([.ref (zad g 0), .int a1, .int a2] : List Value).toArray s 0 0 (zYM g).2.2.1) (F0 m 59 ls []) := by
    intro n
    induction n with
    | zero => intro x1 x2 x4 S h; exact absurd h (fun h => nomatch h)
    | succ n K59 =>
      intro x1 x2 x4 S h H locs Z ls hl
      have h : fX10_way_59 (fX10_way_59L n) x1 x2 x4 S = some (r, S') := h
      unfold fX10_way_59 at h
      refine lv_iload hx hb dX10_way_59 (lv_at hl 3 rfl) ?_
      refine lv_sipush (v := (nI 400)) hx hb dX10_way_61 (by decide) ?_
      refine lv_icmp_ge (tgt := 81) hx hb dX10_way_64 (by decide) (fun q => ?_) (fun q => ?_)
      · have h := zi_t q h
        refine lv_aload_n hx hb dX10_way_81 rfl (lv_at hl 0 rfl) ?_
        refine zgX10_66 hx hb hf hown P0 Z L150 dX10_way_82 ?_
        refine lv_iload_n hx hb dX10_way_85 rfl (lv_at hl 1 rfl) ?_
        refine lv_iconst (v := (nI 1)) hx hb dX10_way_86 (by decide) ?_
        obtain ⟨hin, h⟩ := zck_s h
        refine zsM_37 hO hx hb P0 Z hin dX10_way_87 (fun H locs Z => ?_)
        refine lv_iconst (v := (nI 1)) hx hb dX10_way_88 (by decide) ?_
        refine lv_istore (lv' := [(4, .int (nI 1)), (0, .ref (zad g 0)), (1, .int x1), (2, .int x2)]) hx hb dX10_way_89 hl (by decide) rfl (fun ls hl => ?_)
        refine lv_iconst (v := (nI 1)) hx hb dX10_way_91 (by decide) ?_
        refine lv_istore (lv' := [(5, .int (nI 1)), (4, .int (nI 1)), (0, .ref (zad g 0)), (1, .int x1), (2, .int x2)]) hx hb dX10_way_92 hl (by decide) rfl (fun ls hl => ?_)
        exact B94 zFU x2 (nI 1) (nI 1) (wA S 37 (x1.toNatClampNeg) (nI 1)) h _ _ Z ls (lv_sub hl [2, 4, 1, 0] rfl)
      · have h := zi_f q h
        refine lv_aload_n hx hb dX10_way_67 rfl (lv_at hl 0 rfl) ?_
        refine zgX10_66 hx hb hf hown P0 Z L150 dX10_way_68 ?_
        refine lv_iload hx hb dX10_way_71 (lv_at hl 3 rfl) ?_
        refine lv_iconst (v := (-1 : Int32)) hx hb dX10_way_73 (by decide) ?_
        obtain ⟨hin, h⟩ := zck_s h
        refine zsM_37 hO hx hb P0 Z hin dX10_way_74 (fun H locs Z => ?_)
        refine lv_iinc (v := (x4 + (nI 1))) (lv' := [(4, .int (x4 + (nI 1))), (0, .ref (zad g 0)), (1, .int x1), (2, .int x2)]) hx hb dX10_way_75 hl (k := 3) rfl rfl (by decide) rfl (fun ls hl => ?_)
        refine lv_goto (tgt := 59) hx hb dX10_way_78 (by decide) ?_
        exact K59 x1 x2 (x4 + (nI 1)) (wA S 37 (x4.toNatClampNeg) (-1 : Int32)) h _ _ Z ls (lv_sub hl [1, 2, 3, 0] rfl)
  have B31 : ∀ (x1 : Int32) (x2 : Int32) (y0 : Int32) (S : zSt), fX10_way_31 x1 x2 y0 S = some (r, S') → ∀ (H : Heap) (locs : List Loc), zZ (zYM g) S s H locs → ∀ ls : Array Slot, lv_has ls 11 [(0, .ref (zad g 0)), (1, .int x1), (2, .int x2)] → W p l e (headSpec vX10_way { frames := 2, cells := 0, slots := 0, locals := 43 }).room s m ([.ref (zad g 0), .int a1, .int a2] : List Value).toArray below meth c H locs 0 0 (MQ below (zQi (zYM g) r S') ([.ref (zad g 0), .int a1, .int a2] : List Value).toArray s 0 0 (zYM g).2.2.1) (F0 m 31 ls [.int y0]) := by
    intro x1 x2 y0 S h H locs Z ls hl
    unfold fX10_way_31 at h
    refine lv_istore_n (lv' := [(3, .int y0), (0, .ref (zad g 0)), (1, .int x1), (2, .int x2)]) hx hb dX10_way_31 rfl hl (by decide) rfl (fun ls hl => ?_)
    refine lv_aload_n hx hb dX10_way_32 rfl (lv_at hl 1 rfl) ?_
    refine lv_iload_n hx hb dX10_way_33 rfl (lv_at hl 2 rfl) ?_
    obtain ⟨r5, S6, ec, h⟩ := zbd_s h
    refine zc_Vi hY P0 ⟨hx, hb, hml, hown, hT⟩ (As := [.int x1]) (rest := []) (kX10_isNode l hO x1 S r5 S6 ec) (cwV 1 hT (zgV mL_X10_368 mI_X10_isNode mS_X10_isNode mN_X10 mC_X10_isNode) rfl rfl rfl hdnX10_isNode ⟨Nat.le_of_ble_eq_true rfl, Nat.le_of_ble_eq_true rfl⟩) (zrecM_0 P0 Z) Z rfl hl.1 rfl (Nat.le_of_ble_eq_true rfl) dX10_way_34 (fun H locs Z => ?_)
    refine lv_if_eq (tgt := 54) hx hb dX10_way_37 (by decide) (fun q => ?_) (fun q => ?_)
    · have h := zi_t q h
      refine lv_iconst (v := (-1 : Int32)) hx hb dX10_way_54 (by decide) ?_
      exact zr_i hY P0 hx hb hr hlocks h Z dX10_way_55
    · have h := zi_f q h
      refine lv_aload_n hx hb dX10_way_40 rfl (lv_at hl 1 rfl) ?_
      refine zgX10_63 hx hb hf hown P0 Z L143 dX10_way_41 ?_
      refine lv_iload_n hx hb dX10_way_44 rfl (lv_at hl 2 rfl) ?_
      obtain ⟨v7, ev, hin, h⟩ := zld_s h
      refine zlM_35 hx hb P0 Z ev hin dX10_way_45 ?_
      refine lv_if_eq (tgt := 54) hx hb dX10_way_46 (by decide) (fun q => ?_) (fun q => ?_)
      · have h := zi_t q h
        refine lv_iconst (v := (-1 : Int32)) hx hb dX10_way_54 (by decide) ?_
        exact zr_i hY P0 hx hb hr hlocks h Z dX10_way_55
      · have h := zi_f q h
        refine lv_iload_n hx hb dX10_way_49 rfl (lv_at hl 3 rfl) ?_
        refine lv_iconst (v := (-1 : Int32)) hx hb dX10_way_50 (by decide) ?_
        refine lv_icmp_ge (tgt := 56) hx hb dX10_way_51 (by decide) (fun q => ?_) (fun q => ?_)
        · have h := zi_t q h
          refine lv_iconst (v := (nI 0)) hx hb dX10_way_56 (by decide) ?_
          refine lv_istore (lv' := [(4, .int (nI 0)), (3, .int y0), (0, .ref (zad g 0)), (1, .int x1), (2, .int x2)]) hx hb dX10_way_57 hl (by decide) rfl (fun ls hl => ?_)
          exact B59 zFU x1 x2 (nI 0) S6 h _ _ Z ls (lv_sub hl [2, 3, 4, 0] rfl)
        · have h := zi_f q h
          refine lv_iconst (v := (-1 : Int32)) hx hb dX10_way_54 (by decide) ?_
          exact zr_i hY P0 hx hb hr hlocks h Z dX10_way_55
  have hl := lv_entry ([.ref (zad g 0), .int a1, .int a2] : List Value) (n := 11) (Nat.le_of_ble_eq_true rfl)
  rw [lg_entry_eq]
  generalize (lg_sl ([.ref (zad g 0), .int a1, .int a2] : List Value) ++ List.replicate (11 - (lg_sl ([.ref (zad g 0), .int a1, .int a2] : List Value)).length) Slot.unset).toArray = ls at hl ⊢
  have hl : lv_has ls 11 [(0, .ref (zad g 0)), (1, .int a1), (2, .int a2)] := hl
  unfold fX10_way at h
  refine lv_aload_n hx hb dX10_way_0 rfl (lv_at hl 0 rfl) ?_
  refine lv_iconst (v := (nI 0)) hx hb dX10_way_1 (by decide) ?_
  refine zpX10_0 hO hx hb hf hown P0 Z L153 dX10_way_2 (fun H locs Z => ?_)
  refine lv_aload_n hx hb dX10_way_5 rfl (lv_at hl 0 rfl) ?_
  refine zgX10_56 (v := (zI S 24)) hx hb hf hown P0 Z L292 rfl dX10_way_6 ?_
  refine lv_if_ne (tgt := 15) hx hb dX10_way_9 (by decide) (fun q => ?_) (fun q => ?_)
  · have h := zi_f q h
    refine lv_aload_n hx hb dX10_way_15 rfl (lv_at hl 0 rfl) ?_
    refine lv_iload_n hx hb dX10_way_16 rfl (lv_at hl 1 rfl) ?_
    obtain ⟨r1, S2, ec, h⟩ := zbd_s h
    refine zc_Vi hY P0 ⟨hx, hb, hml, hown, hT⟩ (As := [.int a1]) (rest := []) (kX10_isNode l hO a1 (wI S 0 (nI 0)) r1 S2 ec) (cwV 1 hT (zgV mL_X10_368 mI_X10_isNode mS_X10_isNode mN_X10 mC_X10_isNode) rfl rfl rfl hdnX10_isNode ⟨Nat.le_of_ble_eq_true rfl, Nat.le_of_ble_eq_true rfl⟩) (zrecM_0 P0 Z) Z rfl hl.1 rfl (Nat.le_of_ble_eq_true rfl) dX10_way_17 (fun H locs Z => ?_)
    refine lv_if_eq (tgt := 30) hx hb dX10_way_20 (by decide) (fun q => ?_) (fun q => ?_)
    · have h := zi_t q h
      refine lv_iconst (v := (nI 0)) hx hb dX10_way_30 (by decide) ?_
      exact B31 a1 a2 (nI 0) S2 h _ _ Z ls (lv_sub hl [0, 1, 2] rfl)
    · have h := zi_f q h
      refine lv_aload_n hx hb dX10_way_23 rfl (lv_at hl 0 rfl) ?_
      obtain ⟨r3, S4, ec, h⟩ := zbd_s h
      refine zc_Vi hY P0 ⟨hx, hb, hml, hown, hT⟩ (As := []) (rest := []) (kX10_findKept l hO  S2 r3 S4 ec) (cwV 0 hT (zgV mL_X10_365 mI_X10_findKept mS_X10_findKept mN_X10 mC_X10_findKept) rfl rfl rfl hdnX10_findKept ⟨Nat.le_of_ble_eq_true rfl, Nat.le_of_ble_eq_true rfl⟩) (zrecM_0 P0 Z) Z rfl hl.1 rfl (Nat.le_of_ble_eq_true rfl) dX10_way_24 (fun H locs Z => ?_)
      refine lv_goto (tgt := 31) hx hb dX10_way_27 (by decide) ?_
      exact B31 a1 a2 r3 S4 h _ _ Z ls (lv_sub hl [0, 1, 2] rfl)
  · have h := zi_t q h
    refine lv_bipush (v := (-3 : Int32)) hx hb dX10_way_12 (by decide) ?_
    exact zr_i hY P0 hx hb hr hlocks h Z dX10_way_14

set_option maxHeartbeats 4000000 in
set_option maxRecDepth 100000 in
theorem kX10_profile {g : zG} (l : Launch) (hO : zinjM g) (a1 : Int32) (a2 : Int32) (S : zSt) (r : Int32) (S' : zSt) (h : fX10_profile a1 a2 S = some (r, S')) : zMi (zYM g) l yX10_profile vX10_profile { frames := 1, cells := 0, slots := 0, locals := 22 } ([.ref (zad g 0), .int a1, .int a2] : List Value) S r S' := by
  have hY := zOkM hO
  refine Met.ofW (cc := cX10_profile) (maxL := 3) (ret := (some .int)) (by decide) rfl ?_
  intro p e s m args below meth c s₁ B hml hv
  obtain ⟨rfl, hP⟩ := hv
  have hx := B.exec
  have hb := B.bytes
  have hr := B.returns
  have hts := atoms_spec (ws := vX10_profile) B.pre
  have hT : ∀ w ∈ zTB, w.before ([.ref (zad g 0), .int a1, .int a2] : List Value).toArray s = true := fun w h => hts w (List.mem_cons_of_mem _ h)
  have hown : s.vm.findClass RX10 = some m.cls := findClass_of_methodNamed B.named
  have hlocks := B.notSynchronized
  have P0 := hP.2
  have Z : zZ (zYM g) S s s.heap [] := ⟨hP.1, va_S.rf⟩
  have hf : ∀ w ∈ u_ws RX10 TX10 67, w.before ([.ref (zad g 0), .int a1, .int a2] : List Value).toArray s = true := fun w hw => hT w (mU_X10 w hw)
  have L153 := hT _ mF_X10_153
  have L292 := hT _ mF_X10_292
  have L246 := hT _ mF_X10_246
  have L125 := hT _ mF_X10_125
  have L122 := hT _ mF_X10_122
  have hl := lv_entry ([.ref (zad g 0), .int a1, .int a2] : List Value) (n := 3) (Nat.le_of_ble_eq_true rfl)
  rw [lg_entry_eq]
  generalize (lg_sl ([.ref (zad g 0), .int a1, .int a2] : List Value) ++ List.replicate (3 - (lg_sl ([.ref (zad g 0), .int a1, .int a2] : List Value)).length) Slot.unset).toArray = ls at hl ⊢
  have hl : lv_has ls 3 [(0, .ref (zad g 0)), (1, .int a1), (2, .int a2)] := hl
  unfold fX10_profile at h
  refine lv_aload_n hx hb dX10_profile_0 rfl (lv_at hl 0 rfl) ?_
  refine lv_iconst (v := (nI 0)) hx hb dX10_profile_1 (by decide) ?_
  refine zpX10_0 hO hx hb hf hown P0 Z L153 dX10_profile_2 (fun H locs Z => ?_)
  refine lv_aload_n hx hb dX10_profile_5 rfl (lv_at hl 0 rfl) ?_
  refine zgX10_56 (v := (zI S 24)) hx hb hf hown P0 Z L292 rfl dX10_profile_6 ?_
  refine lv_if_ne (tgt := 15) hx hb dX10_profile_9 (by decide) (fun q => ?_) (fun q => ?_)
  · have h := zi_f q h
    refine lv_iload_n hx hb dX10_profile_15 rfl (lv_at hl 1 rfl) ?_
    refine lv_iconst (v := (nI 0)) hx hb dX10_profile_16 (by decide) ?_
    refine lv_aload_n hx hb dX10_profile_17 rfl (lv_at hl 0 rfl) ?_
    refine zgX10_11 (v := (zI S 8)) hx hb hf hown P0 Z L246 rfl dX10_profile_18 ?_
    refine lv_iconst (v := (nI 1)) hx hb dX10_profile_21 (by decide) ?_
    refine lv_isub hx hb dX10_profile_22 ?_
    obtain ⟨r1, S2, ec, h⟩ := zbd_s h
    refine zc_Si hY P0 ⟨hx, hb, hml, hown, hT⟩ (As := [.int a1, .int (nI 0), .int ((zI S 8) - (nI 1))]) (rest := []) (kX10_in l hO a1 (nI 0) ((zI S 8) - (nI 1)) (wI S 0 (nI 0)) r1 S2 ec) (va_cwS 3 hT (zgS mL_X10_160 mT_X10_in mN_X10 mC_X10_in) rfl rfl rfl hdnX10_in ⟨Nat.le_of_ble_eq_true rfl, Nat.le_of_ble_eq_true rfl⟩) Z rfl hl.1 rfl (Nat.le_of_ble_eq_true rfl) dX10_profile_23 (fun H locs Z => ?_)
    refine lv_if_eq (tgt := 38) hx hb dX10_profile_26 (by decide) (fun q => ?_) (fun q => ?_)
    · have h := zi_t q h
      refine lv_iconst (v := (-1 : Int32)) hx hb dX10_profile_38 (by decide) ?_
      exact zr_i hY P0 hx hb hr hlocks h Z dX10_profile_39
    · have h := zi_f q h
      refine lv_iload_n hx hb dX10_profile_29 rfl (lv_at hl 2 rfl) ?_
      refine lv_iconst (v := (nI 0)) hx hb dX10_profile_30 (by decide) ?_
      refine lv_iconst (v := (nI 1)) hx hb dX10_profile_31 (by decide) ?_
      obtain ⟨r3, S4, ec, h⟩ := zbd_s h
      refine zc_Si hY P0 ⟨hx, hb, hml, hown, hT⟩ (As := [.int a2, .int (nI 0), .int (nI 1)]) (rest := []) (kX10_in l hO a2 (nI 0) (nI 1) S2 r3 S4 ec) (va_cwS 3 hT (zgS mL_X10_160 mT_X10_in mN_X10 mC_X10_in) rfl rfl rfl hdnX10_in ⟨Nat.le_of_ble_eq_true rfl, Nat.le_of_ble_eq_true rfl⟩) Z rfl hl.1 rfl (Nat.le_of_ble_eq_true rfl) dX10_profile_32 (fun H locs Z => ?_)
      refine lv_if_ne (tgt := 40) hx hb dX10_profile_35 (by decide) (fun q => ?_) (fun q => ?_)
      · have h := zi_f q h
        refine lv_iload_n hx hb dX10_profile_40 rfl (lv_at hl 2 rfl) ?_
        refine lv_if_ne (tgt := 53) hx hb dX10_profile_41 (by decide) (fun q => ?_) (fun q => ?_)
        · have h := zi_f q h
          refine lv_aload_n hx hb dX10_profile_53 rfl (lv_at hl 0 rfl) ?_
          refine zgX10_47 hx hb hf hown P0 Z L125 dX10_profile_54 ?_
          refine lv_iload_n hx hb dX10_profile_57 rfl (lv_at hl 1 rfl) ?_
          obtain ⟨v5, ev, hin, h⟩ := zld_s h
          refine zlM_29 hx hb P0 Z ev hin dX10_profile_58 ?_
          exact zr_i hY P0 hx hb hr hlocks h Z dX10_profile_59
        · have h := zi_t q h
          refine lv_aload_n hx hb dX10_profile_44 rfl (lv_at hl 0 rfl) ?_
          refine zgX10_46 hx hb hf hown P0 Z L122 dX10_profile_45 ?_
          refine lv_iload_n hx hb dX10_profile_48 rfl (lv_at hl 1 rfl) ?_
          obtain ⟨v6, ev, hin, h⟩ := zld_s h
          refine zlM_28 hx hb P0 Z ev hin dX10_profile_49 ?_
          refine lv_goto (tgt := 59) hx hb dX10_profile_50 (by decide) ?_
          exact zr_i hY P0 hx hb hr hlocks h Z dX10_profile_59
      · have h := zi_t q h
        refine lv_iconst (v := (-1 : Int32)) hx hb dX10_profile_38 (by decide) ?_
        exact zr_i hY P0 hx hb hr hlocks h Z dX10_profile_39
  · have h := zi_t q h
    refine lv_bipush (v := (-3 : Int32)) hx hb dX10_profile_12 (by decide) ?_
    exact zr_i hY P0 hx hb hr hlocks h Z dX10_profile_14

set_option maxHeartbeats 4000000 in
set_option maxRecDepth 100000 in
theorem kX10_rest {g : zG} (l : Launch) (hO : zinjM g) (S : zSt) (r : Int32) (S' : zSt) (h : fX10_rest S = some (r, S')) : zMi (zYM g) l yX10_rest vX10_rest { frames := 1, cells := 0, slots := 0, locals := 20 } ([.ref (zad g 0)] : List Value) S r S' := by
  have hY := zOkM hO
  refine Met.ofW (cc := cX10_rest) (maxL := 2) (ret := (some .int)) (by decide) rfl ?_
  intro p e s m args below meth c s₁ B hml hv
  obtain ⟨rfl, hP⟩ := hv
  have hx := B.exec
  have hb := B.bytes
  have hr := B.returns
  have hts := atoms_spec (ws := vX10_rest) B.pre
  have hT : ∀ w ∈ zTB, w.before ([.ref (zad g 0)] : List Value).toArray s = true := fun w h => hts w (List.mem_cons_of_mem _ h)
  have hown : s.vm.findClass RX10 = some m.cls := findClass_of_methodNamed B.named
  have hlocks := B.notSynchronized
  have P0 := hP.2
  have Z : zZ (zYM g) S s s.heap [] := ⟨hP.1, va_S.rf⟩
  have hf : ∀ w ∈ u_ws RX10 TX10 67, w.before ([.ref (zad g 0)] : List Value).toArray s = true := fun w hw => hT w (mU_X10 w hw)
  have L153 := hT _ mF_X10_153
  have L292 := hT _ mF_X10_292
  have L280 := hT _ mF_X10_280
  have L110 := hT _ mF_X10_110
  have hl := lv_entry ([.ref (zad g 0)] : List Value) (n := 2) (Nat.le_of_ble_eq_true rfl)
  rw [lg_entry_eq]
  generalize (lg_sl ([.ref (zad g 0)] : List Value) ++ List.replicate (2 - (lg_sl ([.ref (zad g 0)] : List Value)).length) Slot.unset).toArray = ls at hl ⊢
  have hl : lv_has ls 2 [(0, .ref (zad g 0))] := hl
  unfold fX10_rest at h
  refine lv_aload_n hx hb dX10_rest_0 rfl (lv_at hl 0 rfl) ?_
  refine lv_iconst (v := (nI 0)) hx hb dX10_rest_1 (by decide) ?_
  refine zpX10_0 hO hx hb hf hown P0 Z L153 dX10_rest_2 (fun H locs Z => ?_)
  refine lv_aload_n hx hb dX10_rest_5 rfl (lv_at hl 0 rfl) ?_
  refine zgX10_56 (v := (zI S 24)) hx hb hf hown P0 Z L292 rfl dX10_rest_6 ?_
  refine lv_if_eq (tgt := 20) hx hb dX10_rest_9 (by decide) (fun q => ?_) (fun q => ?_)
  · have h := zi_t q h
    refine lv_bipush (v := (-3 : Int32)) hx hb dX10_rest_20 (by decide) ?_
    exact zr_i hY P0 hx hb hr hlocks h Z dX10_rest_22
  · have h := zi_f q h
    refine lv_aload_n hx hb dX10_rest_12 rfl (lv_at hl 0 rfl) ?_
    refine zgX10_53 (v := (zI S 21)) hx hb hf hown P0 Z L280 rfl dX10_rest_13 ?_
    refine lv_iconst (v := (nI 1)) hx hb dX10_rest_16 (by decide) ?_
    refine lv_icmp_eq (tgt := 23) hx hb dX10_rest_17 (by decide) (fun q => ?_) (fun q => ?_)
    · have h := zi_t q h
      refine lv_aload_n hx hb dX10_rest_23 rfl (lv_at hl 0 rfl) ?_
      refine zgX10_39 hx hb hf hown P0 Z L110 dX10_rest_24 ?_
      refine lv_aload_n hx hb dX10_rest_27 rfl (lv_at hl 0 rfl) ?_
      obtain ⟨r1, S2, ec, h⟩ := zbd_s h
      refine zc_Vi hY P0 ⟨hx, hb, hml, hown, hT⟩ (As := []) (rest := [.ref (zad g 24)]) (kX10_topNode l hO  (wI S 0 (nI 0)) r1 S2 ec) (cwV 0 hT (zgV mL_X10_311 mI_X10_topNode mS_X10_topNode mN_X10 mC_X10_topNode) rfl rfl rfl hdnX10_topNode ⟨Nat.le_of_ble_eq_true rfl, Nat.le_of_ble_eq_true rfl⟩) (zrecM_0 P0 Z) Z rfl hl.1 rfl (Nat.le_of_ble_eq_true rfl) dX10_rest_28 (fun H locs Z => ?_)
      obtain ⟨v3, ev, hin, h⟩ := zld_s h
      refine zlM_24 hx hb P0 Z ev hin dX10_rest_31 ?_
      refine lv_istore_n (lv' := [(1, .int v3), (0, .ref (zad g 0))]) hx hb dX10_rest_32 rfl hl (by decide) rfl (fun ls hl => ?_)
      refine lv_iload_n hx hb dX10_rest_33 rfl (lv_at hl 0 rfl) ?_
      refine lv_if_ne (tgt := 41) hx hb dX10_rest_34 (by decide) (fun q => ?_) (fun q => ?_)
      · have h := zi_f q h
        refine lv_iload_n hx hb dX10_rest_41 rfl (lv_at hl 0 rfl) ?_
        refine lv_iconst (v := (nI 4)) hx hb dX10_rest_42 (by decide) ?_
        refine lv_icmp_ne (tgt := 50) hx hb dX10_rest_43 (by decide) (fun q => ?_) (fun q => ?_)
        · have h := zi_f q h
          refine lv_iload_n hx hb dX10_rest_50 rfl (lv_at hl 0 rfl) ?_
          refine lv_iconst (v := (nI 5)) hx hb dX10_rest_51 (by decide) ?_
          refine lv_icmp_ne (tgt := 59) hx hb dX10_rest_52 (by decide) (fun q => ?_) (fun q => ?_)
          · have h := zi_f q h
            refine lv_iconst (v := (nI 3)) hx hb dX10_rest_59 (by decide) ?_
            exact zr_i hY P0 hx hb hr hlocks h Z dX10_rest_60
          · have h := zi_t q h
            refine lv_iconst (v := (nI 2)) hx hb dX10_rest_55 (by decide) ?_
            refine lv_goto (tgt := 60) hx hb dX10_rest_56 (by decide) ?_
            exact zr_i hY P0 hx hb hr hlocks h Z dX10_rest_60
        · have h := zi_t q h
          refine lv_iconst (v := (nI 1)) hx hb dX10_rest_46 (by decide) ?_
          refine lv_goto (tgt := 60) hx hb dX10_rest_47 (by decide) ?_
          exact zr_i hY P0 hx hb hr hlocks h Z dX10_rest_60
      · have h := zi_t q h
        refine lv_iconst (v := (nI 0)) hx hb dX10_rest_37 (by decide) ?_
        refine lv_goto (tgt := 60) hx hb dX10_rest_38 (by decide) ?_
        exact zr_i hY P0 hx hb hr hlocks h Z dX10_rest_60
    · have h := zi_f q h
      refine lv_bipush (v := (-3 : Int32)) hx hb dX10_rest_20 (by decide) ?_
      exact zr_i hY P0 hx hb hr hlocks h Z dX10_rest_22

set_option maxHeartbeats 4000000 in
set_option maxRecDepth 100000 in
theorem kX10_share {g : zG} (l : Launch) (hO : zinjM g) (S : zSt) (r : Int32) (S' : zSt) (h : fX10_share S = some (r, S')) : zMi (zYM g) l yX10_share vX10_share { frames := 2, cells := 0, slots := 0, locals := 43 } ([.ref (zad g 0)] : List Value) S r S' := by
  have hY := zOkM hO
  refine Met.ofW (cc := cX10_share) (maxL := 1) (ret := (some .int)) (by decide) rfl ?_
  intro p e s m args below meth c s₁ B hml hv
  obtain ⟨rfl, hP⟩ := hv
  have hx := B.exec
  have hb := B.bytes
  have hr := B.returns
  have hts := atoms_spec (ws := vX10_share) B.pre
  have hT : ∀ w ∈ zTB, w.before ([.ref (zad g 0)] : List Value).toArray s = true := fun w h => hts w (List.mem_cons_of_mem _ h)
  have hown : s.vm.findClass RX10 = some m.cls := findClass_of_methodNamed B.named
  have hlocks := B.notSynchronized
  have P0 := hP.2
  have Z : zZ (zYM g) S s s.heap [] := ⟨hP.1, va_S.rf⟩
  have hf : ∀ w ∈ u_ws RX10 TX10 67, w.before ([.ref (zad g 0)] : List Value).toArray s = true := fun w hw => hT w (mU_X10 w hw)
  have L153 := hT _ mF_X10_153
  have L292 := hT _ mF_X10_292
  have L256 := hT _ mF_X10_256
  have hl := lv_entry ([.ref (zad g 0)] : List Value) (n := 1) (Nat.le_of_ble_eq_true rfl)
  rw [lg_entry_eq]
  generalize (lg_sl ([.ref (zad g 0)] : List Value) ++ List.replicate (1 - (lg_sl ([.ref (zad g 0)] : List Value)).length) Slot.unset).toArray = ls at hl ⊢
  have hl : lv_has ls 1 [(0, .ref (zad g 0))] := hl
  unfold fX10_share at h
  refine lv_aload_n hx hb dX10_share_0 rfl (lv_at hl 0 rfl) ?_
  refine lv_iconst (v := (nI 0)) hx hb dX10_share_1 (by decide) ?_
  refine zpX10_0 hO hx hb hf hown P0 Z L153 dX10_share_2 (fun H locs Z => ?_)
  refine lv_aload_n hx hb dX10_share_5 rfl (lv_at hl 0 rfl) ?_
  refine zgX10_56 (v := (zI S 24)) hx hb hf hown P0 Z L292 rfl dX10_share_6 ?_
  refine lv_if_ne (tgt := 19) hx hb dX10_share_9 (by decide) (fun q => ?_) (fun q => ?_)
  · have h := zi_f q h
    refine lv_sipush (v := (nI 1000)) hx hb dX10_share_19 (by decide) ?_
    refine lv_aload_n hx hb dX10_share_22 rfl (lv_at hl 0 rfl) ?_
    obtain ⟨r1, S2, ec, h⟩ := zbd_s h
    refine zc_Vi hY P0 ⟨hx, hb, hml, hown, hT⟩ (As := []) (rest := [.int (nI 1000)]) (kX10_findKept l hO  (wI S 0 (nI 0)) r1 S2 ec) (cwV 0 hT (zgV mL_X10_365 mI_X10_findKept mS_X10_findKept mN_X10 mC_X10_findKept) rfl rfl rfl hdnX10_findKept ⟨Nat.le_of_ble_eq_true rfl, Nat.le_of_ble_eq_true rfl⟩) (zrecM_0 P0 Z) Z rfl hl.1 rfl (Nat.le_of_ble_eq_true rfl) dX10_share_23 (fun H locs Z => ?_)
    refine lv_imul hx hb dX10_share_26 ?_
    refine lv_aload_n hx hb dX10_share_27 rfl (lv_at hl 0 rfl) ?_
    refine zgX10_43 (v := (zI S2 15)) hx hb hf hown P0 Z L256 rfl dX10_share_28 ?_
    obtain ⟨hn, h⟩ := zdv_s h
    refine lv_idiv hx hb dX10_share_31 hn ?_
    exact zr_i hY P0 hx hb hr hlocks h Z dX10_share_32
  · have h := zi_t q h
    refine lv_aload_n hx hb dX10_share_12 rfl (lv_at hl 0 rfl) ?_
    refine lv_iconst (v := (nI 1)) hx hb dX10_share_13 (by decide) ?_
    refine zpX10_0 hO hx hb hf hown P0 Z L153 dX10_share_14 (fun H locs Z => ?_)
    refine lv_iconst (v := (nI 0)) hx hb dX10_share_17 (by decide) ?_
    exact zr_i hY P0 hx hb hr hlocks h Z dX10_share_18
