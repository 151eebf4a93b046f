set_option maxHeartbeats 4000000 in
set_option maxRecDepth 100000 in
theorem kX10_isValue {g : zG} (l : Launch) (hO : zinjM g) (a1 : Int32) (S : zSt) (r : Int32) (S' : zSt) (h : fX10_isValue a1 S = some (r, S')) : zMi (zYM g) l yX10_isValue vX10_isValue { frames := 1, cells := 0, slots := 0, locals := 23 } ([.ref (zad g 0), .int a1] : List Value) S r S' := by
  have hY := zOkM hO
  refine Met.ofW (cc := cX10_isValue) (maxL := 4) (ret := (some .boolean)) (by decide) rfl ?_
  intro p e s m args below meth c s₁ B hml hv
  obtain ⟨rfl, hP⟩ := hv
  have hx := B.exec
  have hb := B.bytes
  have hr := B.returns
  have hts := atoms_spec (ws := vX10_isValue) B.pre
  have hT : ∀ w ∈ zTB, w.before ([.ref (zad g 0), .int a1] : List Value).toArray s = true := fun w h => hts w (List.mem_cons_of_mem _ h)
  have hown : s.vm.findClass RX10 = some m.cls := findClass_of_methodNamed B.named
  have hlocks := B.notSynchronized
  have P0 := hP.2
  have Z : zZ (zYM g) S s s.heap [] := ⟨hP.1, va_S.rf⟩
  have hf : ∀ w ∈ u_ws RX10 TX10 67, w.before ([.ref (zad g 0), .int a1] : List Value).toArray s = true := fun w hw => hT w (mU_X10 w hw)
  have L110 := hT _ mF_X10_110
  have L113 := hT _ mF_X10_113
  have L50 := hT _ mF_X10_50
  have B41 : ∀ (x2 : Int32) (x3 : Int32) (S : zSt), fX10_isValue_41 x2 x3 S = some (r, S') → ∀ (H : Heap) (locs : List Loc), zZ (zYM g) S s H locs → ∀ ls : Array Slot, lv_has ls 4 [(0, .ref (zad g 0)), (2, .int x2), (3, .int x3)] → W p l e (headSpec vX10_isValue { frames := 1, cells := 0, slots := 0, locals := 23 }).room s m ([.ref (zad g 0), .int a1] : List Value).toArray below meth c H locs 0 0 (MQ below (zQi (zYM g) r S') ([.ref (zad g 0), .int a1] : List Value).toArray s 0 0 (zYM g).2.2.1) (F0 m 41 ls []) := by
    intro x2 x3 S h H locs Z ls hl
    unfold fX10_isValue_41 at h
    refine lv_iload_n hx hb dX10_isValue_41 rfl (lv_at hl 1 rfl) ?_
    refine lv_if_lt (tgt := 55) hx hb dX10_isValue_42 (by decide) (fun q => ?_) (fun q => ?_)
    · have h := zi_t q h
      refine lv_iconst (v := (nI 0)) hx hb dX10_isValue_55 (by decide) ?_
      exact zr_z hY P0 hx hb hr hlocks (by decide) h Z dX10_isValue_56
    · have h := zi_f q h
      refine lv_aload_n hx hb dX10_isValue_45 rfl (lv_at hl 0 rfl) ?_
      refine zgX10_39 hx hb hf hown P0 Z L110 dX10_isValue_46 ?_
      refine lv_iload_n hx hb dX10_isValue_49 rfl (lv_at hl 1 rfl) ?_
      obtain ⟨v5, ev, hin, h⟩ := zld_s h
      refine zlM_24 hx hb P0 Z ev hin dX10_isValue_50 ?_
      refine lv_iconst (v := (nI 1)) hx hb dX10_isValue_51 (by decide) ?_
      refine lv_icmp_ne (tgt := 57) hx hb dX10_isValue_52 (by decide) (fun q => ?_) (fun q => ?_)
      · have h := zi_f q h
        refine lv_aload_n hx hb dX10_isValue_57 rfl (lv_at hl 0 rfl) ?_
        refine zgX10_39 hx hb hf hown P0 Z L110 dX10_isValue_58 ?_
        refine lv_iload_n hx hb dX10_isValue_61 rfl (lv_at hl 1 rfl) ?_
        obtain ⟨v6, ev, hin, h⟩ := zld_s h
        refine zlM_24 hx hb P0 Z ev hin dX10_isValue_62 ?_
        refine lv_iconst (v := (nI 2)) hx hb dX10_isValue_63 (by decide) ?_
        refine lv_icmp_ne (tgt := 88) hx hb dX10_isValue_64 (by decide) (fun q => ?_) (fun q => ?_)
        · have h := zi_f q h
          refine lv_aload_n hx hb dX10_isValue_88 rfl (lv_at hl 0 rfl) ?_
          refine zgX10_39 hx hb hf hown P0 Z L110 dX10_isValue_89 ?_
          refine lv_iload_n hx hb dX10_isValue_92 rfl (lv_at hl 1 rfl) ?_
          obtain ⟨v7, ev, hin, h⟩ := zld_s h
          refine zlM_24 hx hb P0 Z ev hin dX10_isValue_93 ?_
          refine lv_iconst (v := (nI 3)) hx hb dX10_isValue_94 (by decide) ?_
          refine lv_icmp_ne (tgt := 119) hx hb dX10_isValue_95 (by decide) (fun q => ?_) (fun q => ?_)
          · have h := zi_f q h
            refine lv_iload_n hx hb dX10_isValue_119 rfl (lv_at hl 2 rfl) ?_
            refine lv_if_ne (tgt := 127) hx hb dX10_isValue_120 (by decide) (fun q => ?_) (fun q => ?_)
            · have h := zi_f q h
              refine lv_iconst (v := (nI 0)) hx hb dX10_isValue_127 (by decide) ?_
              exact zr_z hY P0 hx hb hr hlocks (by decide) h Z dX10_isValue_128
            · have h := zi_t q h
              refine lv_iconst (v := (nI 1)) hx hb dX10_isValue_123 (by decide) ?_
              refine lv_goto (tgt := 128) hx hb dX10_isValue_124 (by decide) ?_
              exact zr_z hY P0 hx hb hr hlocks (by decide) h Z dX10_isValue_128
          · have h := zi_t q h
            refine lv_iload_n hx hb dX10_isValue_98 rfl (lv_at hl 2 rfl) ?_
            refine lv_aload_n hx hb dX10_isValue_99 rfl (lv_at hl 0 rfl) ?_
            refine zgX10_40 hx hb hf hown P0 Z L113 dX10_isValue_100 ?_
            refine lv_iload_n hx hb dX10_isValue_103 rfl (lv_at hl 1 rfl) ?_
            obtain ⟨v8, ev, hin, h⟩ := zld_s h
            refine zlM_25 hx hb P0 Z ev hin dX10_isValue_104 ?_
            obtain ⟨r9, S10, ec, h⟩ := zbd_s h
            refine zc_Si hY P0 ⟨hx, hb, hml, hown, hT⟩ (As := [.int v8]) (rest := [.int x3]) (kX10_wants l hO v8 S r9 S10 ec) (va_cwS 1 hT (zgS mL_X10_308 mT_X10_wants mN_X10 mC_X10_wants) rfl rfl rfl hdnX10_wants ⟨Nat.le_of_ble_eq_true rfl, Nat.le_of_ble_eq_true rfl⟩) Z rfl hl.1 rfl (Nat.le_of_ble_eq_true rfl) dX10_isValue_105 (fun H locs Z => ?_)
            refine lv_icmp_ge (tgt := 115) hx hb dX10_isValue_108 (by decide) (fun q => ?_) (fun q => ?_)
            · have h := zi_t q h
              refine lv_iconst (v := (nI 0)) hx hb dX10_isValue_115 (by decide) ?_
              refine lv_goto (tgt := 128) hx hb dX10_isValue_116 (by decide) ?_
              exact zr_z hY P0 hx hb hr hlocks (by decide) h Z dX10_isValue_128
            · have h := zi_f q h
              refine lv_iconst (v := (nI 1)) hx hb dX10_isValue_111 (by decide) ?_
              refine lv_goto (tgt := 128) hx hb dX10_isValue_112 (by decide) ?_
              exact zr_z hY P0 hx hb hr hlocks (by decide) h Z dX10_isValue_128
        · have h := zi_t q h
          refine lv_iload_n hx hb dX10_isValue_67 rfl (lv_at hl 2 rfl) ?_
          refine lv_aload_n hx hb dX10_isValue_68 rfl (lv_at hl 0 rfl) ?_
          refine zgX10_13 hx hb hf hown P0 Z L50 dX10_isValue_69 ?_
          refine lv_aload_n hx hb dX10_isValue_72 rfl (lv_at hl 0 rfl) ?_
          refine zgX10_40 hx hb hf hown P0 Z L113 dX10_isValue_73 ?_
          refine lv_iload_n hx hb dX10_isValue_76 rfl (lv_at hl 1 rfl) ?_
          obtain ⟨v11, ev, hin, h⟩ := zld_s h
          refine zlM_25 hx hb P0 Z ev hin dX10_isValue_77 ?_
          obtain ⟨v12, ev, hin, h⟩ := zld_s h
          refine zlM_4 hx hb P0 Z ev hin dX10_isValue_78 ?_
          refine lv_icmp_ge (tgt := 86) hx hb dX10_isValue_79 (by decide) (fun q => ?_) (fun q => ?_)
          · have h := zi_t q h
            refine lv_iconst (v := (nI 0)) hx hb dX10_isValue_86 (by decide) ?_
            exact zr_z hY P0 hx hb hr hlocks (by decide) h Z dX10_isValue_87
          · have h := zi_f q h
            refine lv_iconst (v := (nI 1)) hx hb dX10_isValue_82 (by decide) ?_
            refine lv_goto (tgt := 87) hx hb dX10_isValue_83 (by decide) ?_
            exact zr_z hY P0 hx hb hr hlocks (by decide) h Z dX10_isValue_87
      · have h := zi_t q h
        refine lv_iconst (v := (nI 0)) hx hb dX10_isValue_55 (by decide) ?_
        exact zr_z hY P0 hx hb hr hlocks (by decide) h Z dX10_isValue_56
  have B4 : ∀ (n : Nat) (x2 : Int32) (x3 : Int32) (S : zSt), fX10_isValue_4L n (x2, x3, S) = some (r, S') → ∀ (H : Heap) (locs : List Loc), zZ (zYM g) S s H locs → ∀ ls : Array Slot, lv_has ls 4 [(0, .ref (zad g 0)), (2, .int x2), (3, .int x3)] → W p l e (headSpec vX10_isValue { frames := 1, cells := 0, slots := 0, locals := 23 }).room s m ([.ref (zad g 0), .int a1] : List Value).toArray below meth c H locs 0 0 (MQ below (zQi (zYM g) r S') ([.ref (zad g 0), .int a1] : List Value).toArray s 0 0 (zYM g).2.2.1) (F0 m 4 ls []) := by
    intro n
    induction n with
    | zero => intro x2 x3 S h; exact absurd h (fun h => nomatch h)
    | succ n K4 =>
      intro x2 x3 S h H locs Z ls hl
      have h : fX10_isValue_4 (fX10_isValue_4L n) x2 x3 S = some (r, S') := h
      unfold fX10_isValue_4 at h
      refine lv_iload_n hx hb dX10_isValue_4 rfl (lv_at hl 1 rfl) ?_
      refine lv_if_lt (tgt := 41) hx hb dX10_isValue_5 (by decide) (fun q => ?_) (fun q => ?_)
      · have h := zi_t q h
        exact B41 x2 x3 S h _ _ Z ls (lv_sub hl [0, 1, 2] rfl)
      · have h := zi_f q h
        refine lv_aload_n hx hb dX10_isValue_8 rfl (lv_at hl 0 rfl) ?_
        refine zgX10_39 hx hb hf hown P0 Z L110 dX10_isValue_9 ?_
        refine lv_iload_n hx hb dX10_isValue_12 rfl (lv_at hl 1 rfl) ?_
        obtain ⟨v1, ev, hin, h⟩ := zld_s h
        refine zlM_24 hx hb P0 Z ev hin dX10_isValue_13 ?_
        refine lv_iconst (v := (nI 1)) hx hb dX10_isValue_14 (by decide) ?_
        refine lv_icmp_ne (tgt := 41) hx hb dX10_isValue_15 (by decide) (fun q => ?_) (fun q => ?_)
        · have h := zi_f q h
          exact B41 x2 x3 S h _ _ Z ls (lv_sub hl [0, 1, 2] rfl)
        · have h := zi_t q h
          refine lv_iload_n hx hb dX10_isValue_18 rfl (lv_at hl 2 rfl) ?_
          refine lv_bipush (v := (nI 10)) hx hb dX10_isValue_19 (by decide) ?_
          refine lv_icmp_ge (tgt := 41) hx hb dX10_isValue_21 (by decide) (fun q => ?_) (fun q => ?_)
          · have h := zi_t q h
            exact B41 x2 x3 S h _ _ Z ls (lv_sub hl [0, 1, 2] rfl)
          · have h := zi_f q h
            refine lv_iinc (v := (x3 + (nI 1))) (lv' := [(3, .int (x3 + (nI 1))), (0, .ref (zad g 0)), (2, .int x2)]) hx hb dX10_isValue_24 hl (k := 2) rfl rfl (by decide) rfl (fun ls hl => ?_)
            refine lv_aload_n hx hb dX10_isValue_27 rfl (lv_at hl 1 rfl) ?_
            refine lv_aload_n hx hb dX10_isValue_28 rfl (lv_at hl 1 rfl) ?_
            refine zgX10_40 hx hb hf hown P0 Z L113 dX10_isValue_29 ?_
            refine lv_iload_n hx hb dX10_isValue_32 rfl (lv_at hl 2 rfl) ?_
            obtain ⟨v2, ev, hin, h⟩ := zld_s h
            refine zlM_25 hx hb P0 Z ev hin dX10_isValue_33 ?_
            obtain ⟨r3, S4, ec, h⟩ := zbd_s h
            refine zc_Vi hY P0 ⟨hx, hb, hml, hown, hT⟩ (As := [.int v2]) (rest := []) (kX10_followed l hO v2 S r3 S4 ec) (cwV 1 hT (zgV mL_X10_305 mI_X10_followed mS_X10_followed mN_X10 mC_X10_followed) rfl rfl rfl hdnX10_followed ⟨Nat.le_of_ble_eq_true rfl, Nat.le_of_ble_eq_true rfl⟩) (zrecM_0 P0 Z) Z rfl hl.1 rfl (Nat.le_of_ble_eq_true rfl) dX10_isValue_34 (fun H locs Z => ?_)
            refine lv_istore_n (lv' := [(2, .int r3), (3, .int (x3 + (nI 1))), (0, .ref (zad g 0))]) hx hb dX10_isValue_37 rfl hl (by decide) rfl (fun ls hl => ?_)
            refine lv_goto (tgt := 4) hx hb dX10_isValue_38 (by decide) ?_
            exact K4 r3 (x3 + (nI 1)) S4 h _ _ Z ls (lv_sub hl [2, 0, 1] rfl)
  have hl := lv_entry ([.ref (zad g 0), .int a1] : List Value) (n := 4) (Nat.le_of_ble_eq_true rfl)
  rw [lg_entry_eq]
  generalize (lg_sl ([.ref (zad g 0), .int a1] : List Value) ++ List.replicate (4 - (lg_sl ([.ref (zad g 0), .int a1] : List Value)).length) Slot.unset).toArray = ls at hl ⊢
  have hl : lv_has ls 4 [(0, .ref (zad g 0)), (1, .int a1)] := hl
  unfold fX10_isValue at h
  refine lv_iload_n hx hb dX10_isValue_0 rfl (lv_at hl 1 rfl) ?_
  refine lv_istore_n (lv' := [(2, .int a1), (0, .ref (zad g 0)), (1, .int a1)]) hx hb dX10_isValue_1 rfl hl (by decide) rfl (fun ls hl => ?_)
  refine lv_iconst (v := (nI 0)) hx hb dX10_isValue_2 (by decide) ?_
  refine lv_istore_n (lv' := [(3, .int (nI 0)), (2, .int a1), (0, .ref (zad g 0)), (1, .int a1)]) hx hb dX10_isValue_3 rfl hl (by decide) rfl (fun ls hl => ?_)
  exact B4 zFU a1 (nI 0) S h _ _ Z ls (lv_sub hl [2, 1, 0] rfl)

set_option maxHeartbeats 4000000 in
set_option maxRecDepth 100000 in
theorem kX10_size {g : zG} (l : Launch) (hO : zinjM g) (S : zSt) (r : Int32) (S' : zSt) (h : fX10_size S = some (r, S')) : zMi (zYM g) l yX10_size vX10_size { frames := 0, cells := 0, slots := 0, locals := 0 } ([.ref (zad g 0)] : List Value) S r S' := by
  have hY := zOkM hO
  refine Met.ofW (cc := cX10_size) (maxL := 1) (ret := (some .int)) (by decide) rfl ?_
  intro p e s m args below meth c s₁ B hml hv
  obtain ⟨rfl, hP⟩ := hv
  have hx := B.exec
  have hb := B.bytes
  have hr := B.returns
  have hts := atoms_spec (ws := vX10_size) B.pre
  have hT : ∀ w ∈ zTB, w.before ([.ref (zad g 0)] : List Value).toArray s = true := fun w h => hts w (List.mem_cons_of_mem _ h)
  have hown : s.vm.findClass RX10 = some m.cls := findClass_of_methodNamed B.named
  have hlocks := B.notSynchronized
  have P0 := hP.2
  have Z : zZ (zYM g) S s s.heap [] := ⟨hP.1, va_S.rf⟩
  have hf : ∀ w ∈ u_ws RX10 TX10 67, w.before ([.ref (zad g 0)] : List Value).toArray s = true := fun w hw => hT w (mU_X10 w hw)
  have L271 := hT _ mF_X10_271
  have L131 := hT _ mF_X10_131
  have L274 := hT _ mF_X10_274
  have hl := lv_entry ([.ref (zad g 0)] : List Value) (n := 1) (Nat.le_of_ble_eq_true rfl)
  rw [lg_entry_eq]
  generalize (lg_sl ([.ref (zad g 0)] : List Value) ++ List.replicate (1 - (lg_sl ([.ref (zad g 0)] : List Value)).length) Slot.unset).toArray = ls at hl ⊢
  have hl : lv_has ls 1 [(0, .ref (zad g 0))] := hl
  unfold fX10_size at h
  refine lv_aload_n hx hb dX10_size_0 rfl (lv_at hl 0 rfl) ?_
  refine zgX10_48 (v := (zI S 18)) hx hb hf hown P0 Z L271 rfl dX10_size_1 ?_
  refine lv_aload_n hx hb dX10_size_4 rfl (lv_at hl 0 rfl) ?_
  refine zgX10_51 hx hb hf hown P0 Z L131 dX10_size_5 ?_
  refine lv_aload_n hx hb dX10_size_8 rfl (lv_at hl 0 rfl) ?_
  refine zgX10_50 (v := (zI S 19)) hx hb hf hown P0 Z L274 rfl dX10_size_9 ?_
  refine lv_iconst (v := (nI 1)) hx hb dX10_size_12 (by decide) ?_
  refine lv_isub hx hb dX10_size_13 ?_
  obtain ⟨v1, ev, hin, h⟩ := zld_s h
  refine zlM_31 hx hb P0 Z ev hin dX10_size_14 ?_
  refine lv_isub hx hb dX10_size_15 ?_
  exact zr_i hY P0 hx hb hr hlocks h Z dX10_size_16

set_option maxHeartbeats 4000000 in
set_option maxRecDepth 100000 in
theorem kX10_topNode {g : zG} (l : Launch) (hO : zinjM g) (S : zSt) (r : Int32) (S' : zSt) (h : fX10_topNode S = some (r, S')) : zMi (zYM g) l yX10_topNode vX10_topNode { frames := 0, cells := 0, slots := 0, locals := 0 } ([.ref (zad g 0)] : List Value) S r S' := by
  have hY := zOkM hO
  refine Met.ofW (cc := cX10_topNode) (maxL := 1) (ret := (some .int)) (by decide) rfl ?_
  intro p e s m args below meth c s₁ B hml hv
  obtain ⟨rfl, hP⟩ := hv
  have hx := B.exec
  have hb := B.bytes
  have hr := B.returns
  have hts := atoms_spec (ws := vX10_topNode) B.pre
  have hT : ∀ w ∈ zTB, w.before ([.ref (zad g 0)] : List Value).toArray s = true := fun w h => hts w (List.mem_cons_of_mem _ h)
  have hown : s.vm.findClass RX10 = some m.cls := findClass_of_methodNamed B.named
  have hlocks := B.notSynchronized
  have P0 := hP.2
  have Z : zZ (zYM g) S s s.heap [] := ⟨hP.1, va_S.rf⟩
  have hf : ∀ w ∈ u_ws RX10 TX10 67, w.before ([.ref (zad g 0)] : List Value).toArray s = true := fun w hw => hT w (mU_X10 w hw)
  have L128 := hT _ mF_X10_128
  have L271 := hT _ mF_X10_271
  have hl := lv_entry ([.ref (zad g 0)] : List Value) (n := 1) (Nat.le_of_ble_eq_true rfl)
  rw [lg_entry_eq]
  generalize (lg_sl ([.ref (zad g 0)] : List Value) ++ List.replicate (1 - (lg_sl ([.ref (zad g 0)] : List Value)).length) Slot.unset).toArray = ls at hl ⊢
  have hl : lv_has ls 1 [(0, .ref (zad g 0))] := hl
  unfold fX10_topNode at h
  refine lv_aload_n hx hb dX10_topNode_0 rfl (lv_at hl 0 rfl) ?_
  refine zgX10_49 hx hb hf hown P0 Z L128 dX10_topNode_1 ?_
  refine lv_aload_n hx hb dX10_topNode_4 rfl (lv_at hl 0 rfl) ?_
  refine zgX10_48 (v := (zI S 18)) hx hb hf hown P0 Z L271 rfl dX10_topNode_5 ?_
  refine lv_iconst (v := (nI 1)) hx hb dX10_topNode_8 (by decide) ?_
  refine lv_isub hx hb dX10_topNode_9 ?_
  obtain ⟨v1, ev, hin, h⟩ := zld_s h
  refine zlM_30 hx hb P0 Z ev hin dX10_topNode_10 ?_
  exact zr_i hY P0 hx hb hr hlocks h Z dX10_topNode_11

set_option maxHeartbeats 4000000 in
set_option maxRecDepth 100000 in
theorem kX10_thing {g : zG} (l : Launch) (hO : zinjM g) (a1 : Int32) (S : zSt) (r : Int32) (S' : zSt) (h : fX10_thing a1 S = some (r, S')) : zMi (zYM g) l yX10_thing vX10_thing { frames := 0, cells := 0, slots := 0, locals := 0 } ([.ref (zad g 0), .int a1] : List Value) S r S' := by
  have hY := zOkM hO
  refine Met.ofW (cc := cX10_thing) (maxL := 2) (ret := (some .int)) (by decide) rfl ?_
  intro p e s m args below meth c s₁ B hml hv
  obtain ⟨rfl, hP⟩ := hv
  have hx := B.exec
  have hb := B.bytes
  have hr := B.returns
  have hts := atoms_spec (ws := vX10_thing) B.pre
  have hT : ∀ w ∈ zTB, w.before ([.ref (zad g 0), .int a1] : List Value).toArray s = true := fun w h => hts w (List.mem_cons_of_mem _ h)
  have hown : s.vm.findClass RX10 = some m.cls := findClass_of_methodNamed B.named
  have hlocks := B.notSynchronized
  have P0 := hP.2
  have Z : zZ (zYM g) S s s.heap [] := ⟨hP.1, va_S.rf⟩
  have hf : ∀ w ∈ u_ws RX10 TX10 67, w.before ([.ref (zad g 0), .int a1] : List Value).toArray s = true := fun w hw => hT w (mU_X10 w hw)
  have L116 := hT _ mF_X10_116
  have L128 := hT _ mF_X10_128
  have L271 := hT _ mF_X10_271
  have hl := lv_entry ([.ref (zad g 0), .int a1] : List Value) (n := 2) (Nat.le_of_ble_eq_true rfl)
  rw [lg_entry_eq]
  generalize (lg_sl ([.ref (zad g 0), .int a1] : List Value) ++ List.replicate (2 - (lg_sl ([.ref (zad g 0), .int a1] : List Value)).length) Slot.unset).toArray = ls at hl ⊢
  have hl : lv_has ls 2 [(0, .ref (zad g 0)), (1, .int a1)] := hl
  unfold fX10_thing at h
  refine lv_aload_n hx hb dX10_thing_0 rfl (lv_at hl 0 rfl) ?_
  refine zgX10_41 hx hb hf hown P0 Z L116 dX10_thing_1 ?_
  refine lv_aload_n hx hb dX10_thing_4 rfl (lv_at hl 0 rfl) ?_
  refine zgX10_49 hx hb hf hown P0 Z L128 dX10_thing_5 ?_
  refine lv_aload_n hx hb dX10_thing_8 rfl (lv_at hl 0 rfl) ?_
  refine zgX10_48 (v := (zI S 18)) hx hb hf hown P0 Z L271 rfl dX10_thing_9 ?_
  refine lv_iconst (v := (nI 1)) hx hb dX10_thing_12 (by decide) ?_
  refine lv_isub hx hb dX10_thing_13 ?_
  refine lv_iload_n hx hb dX10_thing_14 rfl (lv_at hl 1 rfl) ?_
  refine lv_isub hx hb dX10_thing_15 ?_
  obtain ⟨v1, ev, hin, h⟩ := zld_s h
  refine zlM_30 hx hb P0 Z ev hin dX10_thing_16 ?_
  obtain ⟨v2, ev, hin, h⟩ := zld_s h
  refine zlM_26 hx hb P0 Z ev hin dX10_thing_17 ?_
  exact zr_i hY P0 hx hb hr hlocks h Z dX10_thing_18

set_option maxHeartbeats 4000000 in
set_option maxRecDepth 100000 in
theorem kX10_lookPrimitive {g : zG} (l : Launch) (hO : zinjM g) (a1 : Int32) (S : zSt) (r : Int32) (S' : zSt) (h : fX10_lookPrimitive a1 S = some (r, S')) : zMi (zYM g) l yX10_lookPrimitive vX10_lookPrimitive { frames := 2, cells := 0, slots := 0, locals := 46 } ([.ref (zad g 0), .int a1] : List Value) S r S' := by
  have hY := zOkM hO
  refine Met.ofW (cc := cX10_lookPrimitive) (maxL := 6) (ret := (some .int)) (by decide) rfl ?_
  intro p e s m args below meth c s₁ B hml hv
  obtain ⟨rfl, hP⟩ := hv
  have hx := B.exec
  have hb := B.bytes
  have hr := B.returns
  have hts := atoms_spec (ws := vX10_lookPrimitive) B.pre
  have hT : ∀ w ∈ zTB, w.before ([.ref (zad g 0), .int a1] : List Value).toArray s = true := fun w h => hts w (List.mem_cons_of_mem _ h)
  have hown : s.vm.findClass RX10 = some m.cls := findClass_of_methodNamed B.named
  have hlocks := B.notSynchronized
  have P0 := hP.2
  have Z : zZ (zYM g) S s s.heap [] := ⟨hP.1, va_S.rf⟩
  have hf : ∀ w ∈ u_ws RX10 TX10 67, w.before ([.ref (zad g 0), .int a1] : List Value).toArray s = true := fun w hw => hT w (mU_X10 w hw)
  have L113 := hT _ mF_X10_113
  have L321 := hT _ mF_X10_321
  have L110 := hT _ mF_X10_110
  have L274 := hT _ mF_X10_274
  have L318 := hT _ mF_X10_318
  have L128 := hT _ mF_X10_128
  have L131 := hT _ mF_X10_131
  have B63 : ∀ (n : Nat) (x4 : Int32) (x5 : Int32) (S : zSt), fX10_lookPrimitive_63L n (x4, x5, S) = some (r, S') → ∀ (H : Heap) (locs : List Loc), zZ (zYM g) S s H locs → ∀ ls : Array Slot, lv_has ls 6 [(0, .ref (zad g 0)), (4, .int x4), (5, .int x5)] → W p l e (headSpec vX10_lookPrimitive { frames := 2, cells := 0, slots := 0, locals := 46 }).room s m ([.ref (zad g 0), .int a1] : List Value).toArray below meth c H locs 0 0 (MQ below (zQi (zYM g) r S') ([.ref (zad g 0), .int a1] : List Value).toArray s 0 0 (zYM g).2.2.1) (F0 m 63 ls []) := by
    intro n
    induction n with
    | zero => intro x4 x5 S h; exact absurd h (fun h => nomatch h)
    | succ n K63 =>
      intro x4 x5 S h H locs Z ls hl
      have h : fX10_lookPrimitive_63 (fX10_lookPrimitive_63L n) x4 x5 S = some (r, S') := h
      unfold fX10_lookPrimitive_63 at h
      refine lv_iload hx hb dX10_lookPrimitive_63 (lv_at hl 2 rfl) ?_
      refine lv_aload_n hx hb dX10_lookPrimitive_65 rfl (lv_at hl 0 rfl) ?_
      refine zgX10_50 (v := (zI S 19)) hx hb hf hown P0 Z L274 rfl dX10_lookPrimitive_66 ?_
      refine lv_icmp_ge (tgt := 107) hx hb dX10_lookPrimitive_69 (by decide) (fun q => ?_) (fun q => ?_)
      · have h := zi_t q h
        refine lv_aload_n hx hb dX10_lookPrimitive_107 rfl (lv_at hl 0 rfl) ?_
        refine lv_iload hx hb dX10_lookPrimitive_108 (lv_at hl 1 rfl) ?_
        refine zpX10_61 hO hx hb hf hown P0 Z L318 dX10_lookPrimitive_110 (fun H locs Z => ?_)
        refine lv_aload_n hx hb dX10_lookPrimitive_113 rfl (lv_at hl 0 rfl) ?_
        refine zgX10_62 (v := (zI S 27)) hx hb hf hown P0 Z L321 rfl dX10_lookPrimitive_114 ?_
        refine lv_if_le (tgt := 125) hx hb dX10_lookPrimitive_117 (by decide) (fun q => ?_) (fun q => ?_)
        · have h := zi_t q h
          refine lv_iconst (v := (nI 3)) hx hb dX10_lookPrimitive_125 (by decide) ?_
          exact zr_i hY P0 hx hb hr hlocks h Z dX10_lookPrimitive_126
        · have h := zi_f q h
          refine lv_bipush (v := (nI 7)) hx hb dX10_lookPrimitive_120 (by decide) ?_
          refine lv_goto (tgt := 126) hx hb dX10_lookPrimitive_122 (by decide) ?_
          exact zr_i hY P0 hx hb hr hlocks h Z dX10_lookPrimitive_126
      · have h := zi_f q h
        refine lv_aload_n hx hb dX10_lookPrimitive_72 rfl (lv_at hl 0 rfl) ?_
        refine lv_aload_n hx hb dX10_lookPrimitive_73 rfl (lv_at hl 0 rfl) ?_
        refine zgX10_49 hx hb hf hown P0 Z L128 dX10_lookPrimitive_74 ?_
        refine lv_aload_n hx hb dX10_lookPrimitive_77 rfl (lv_at hl 0 rfl) ?_
        refine zgX10_51 hx hb hf hown P0 Z L131 dX10_lookPrimitive_78 ?_
        refine lv_iload hx hb dX10_lookPrimitive_81 (lv_at hl 2 rfl) ?_
        obtain ⟨v15, ev, hin, h⟩ := zld_s h
        refine zlM_31 hx hb P0 Z ev hin dX10_lookPrimitive_83 ?_
        obtain ⟨v16, ev, hin, h⟩ := zld_s h
        refine zlM_30 hx hb P0 Z ev hin dX10_lookPrimitive_84 ?_
        refine lv_iload hx hb dX10_lookPrimitive_85 (lv_at hl 1 rfl) ?_
        refine lv_icmp_ne (tgt := 94) hx hb dX10_lookPrimitive_87 (by decide) (fun q => ?_) (fun q => ?_)
        · have h := zi_f q h
          refine lv_aload_n hx hb dX10_lookPrimitive_94 rfl (lv_at hl 0 rfl) ?_
          refine zgX10_62 (v := (zI S 27)) hx hb hf hown P0 Z L321 rfl dX10_lookPrimitive_95 ?_
          refine zpX10_62 hO hx hb hf hown P0 Z L321 dX10_lookPrimitive_98 (fun H locs Z => ?_)
          refine lv_iinc (v := (x5 + (nI 1))) (lv' := [(5, .int (x5 + (nI 1))), (0, .ref (zad g 0)), (4, .int x4)]) hx hb dX10_lookPrimitive_101 hl (k := 2) rfl rfl (by decide) rfl (fun ls hl => ?_)
          refine lv_goto (tgt := 63) hx hb dX10_lookPrimitive_104 (by decide) ?_
          exact K63 x4 (x5 + (nI 1)) (wI S 27 (zI S 27)) h _ _ Z ls (lv_sub hl [1, 2, 0] rfl)
        · have h := zi_t q h
          refine lv_iconst (v := (nI 5)) hx hb dX10_lookPrimitive_90 (by decide) ?_
          refine lv_goto (tgt := 98) hx hb dX10_lookPrimitive_91 (by decide) ?_
          refine zpX10_62 hO hx hb hf hown P0 Z L321 dX10_lookPrimitive_98 (fun H locs Z => ?_)
          refine lv_iinc (v := (x5 + (nI 1))) (lv' := [(5, .int (x5 + (nI 1))), (0, .ref (zad g 0)), (4, .int x4)]) hx hb dX10_lookPrimitive_101 hl (k := 2) rfl rfl (by decide) rfl (fun ls hl => ?_)
          refine lv_goto (tgt := 63) hx hb dX10_lookPrimitive_104 (by decide) ?_
          exact K63 x4 (x5 + (nI 1)) (wI S 27 (nI 5)) h _ _ Z ls (lv_sub hl [1, 2, 0] rfl)
  have B184 : ∀ (k22 : Int32 × Int32 × Int32 × zSt → Option (Int32 × zSt)) (K22 : (∀ (x1 : Int32) (x2 : Int32) (x3 : Int32) (S : zSt), k22 (x1, x2, x3, S) = some (r, S') → ∀ (H : Heap) (locs : List Loc), zZ (zYM g) S s H locs → ∀ ls : Array Slot, lv_has ls 6 [(0, .ref (zad g 0)), (1, .int x1), (2, .int x2), (3, .int x3)] → W p l e (headSpec vX10_lookPrimitive { frames := 2, cells := 0, slots := 0, locals := 46 }).room s m ([.ref (zad g 0), .int a1] : List Value).toArray below meth c H locs 0 0 (MQ below (zQi (zYM g) r S') ([.ref (zad g 0), .int a1] : List Value).toArray s 0 0 (zYM g).2.2.1) (F0 m 22 ls []))) (x1 : Int32) (x2 : Int32) (x3 : Int32) (y0 : Int32) (S : zSt), fX10_lookPrimitive_184 k22 x1 x2 x3 y0 S = some (r, S') → ∀ (H : Heap) (locs : List Loc), zZ (zYM g) S s H locs → ∀ ls : Array Slot, lv_has ls 6 [(0, .ref (zad g 0)), (1, .int x1), (2, .int x2), (3, .int x3)] → W p l e (headSpec vX10_lookPrimitive { frames := 2, cells := 0, slots := 0, locals := 46 }).room s m ([.ref (zad g 0), .int a1] : List Value).toArray below meth c H locs 0 0 (MQ below (zQi (zYM g) r S') ([.ref (zad g 0), .int a1] : List Value).toArray s 0 0 (zYM g).2.2.1) (F0 m 184 ls [.int y0]) := by
    intro k22 K22 x1 x2 x3 y0 S h H locs Z ls hl
    unfold fX10_lookPrimitive_184 at h
    refine lv_istore (lv' := [(5, .int y0), (0, .ref (zad g 0)), (1, .int x1), (2, .int x2), (3, .int x3)]) hx hb dX10_lookPrimitive_184 hl (by decide) rfl (fun ls hl => ?_)
    refine lv_iload hx hb dX10_lookPrimitive_186 (lv_at hl 0 rfl) ?_
    refine lv_if_ne (tgt := 199) hx hb dX10_lookPrimitive_188 (by decide) (fun q => ?_) (fun q => ?_)
    · have h := zi_f q h
      refine lv_iinc (v := (x3 + (nI 1))) (lv' := [(3, .int (x3 + (nI 1))), (5, .int y0), (0, .ref (zad g 0)), (1, .int x1), (2, .int x2)]) hx hb dX10_lookPrimitive_199 hl (k := 4) rfl rfl (by decide) rfl (fun ls hl => ?_)
      refine lv_goto (tgt := 22) hx hb dX10_lookPrimitive_202 (by decide) ?_
      exact K22 x1 x2 (x3 + (nI 1)) S h _ _ Z ls (lv_sub hl [2, 3, 4, 0] rfl)
    · have h := zi_t q h
      refine lv_aload_n hx hb dX10_lookPrimitive_191 rfl (lv_at hl 1 rfl) ?_
      refine lv_iconst (v := (nI 2)) hx hb dX10_lookPrimitive_192 (by decide) ?_
      refine zpX10_62 hO hx hb hf hown P0 Z L321 dX10_lookPrimitive_193 (fun H locs Z => ?_)
      refine lv_bipush (v := (nI 7)) hx hb dX10_lookPrimitive_196 (by decide) ?_
      exact zr_i hY P0 hx hb hr hlocks h Z dX10_lookPrimitive_198
  have B179 : ∀ (k22 : Int32 × Int32 × Int32 × zSt → Option (Int32 × zSt)) (K22 : (∀ (x1 : Int32) (x2 : Int32) (x3 : Int32) (S : zSt), k22 (x1, x2, x3, S) = some (r, S') → ∀ (H : Heap) (locs : List Loc), zZ (zYM g) S s H locs → ∀ ls : Array Slot, lv_has ls 6 [(0, .ref (zad g 0)), (1, .int x1), (2, .int x2), (3, .int x3)] → W p l e (headSpec vX10_lookPrimitive { frames := 2, cells := 0, slots := 0, locals := 46 }).room s m ([.ref (zad g 0), .int a1] : List Value).toArray below meth c H locs 0 0 (MQ below (zQi (zYM g) r S') ([.ref (zad g 0), .int a1] : List Value).toArray s 0 0 (zYM g).2.2.1) (F0 m 22 ls []))) (x1 : Int32) (x2 : Int32) (x3 : Int32) (S : zSt), fX10_lookPrimitive_179 k22 x1 x2 x3 S = some (r, S') → ∀ (H : Heap) (locs : List Loc), zZ (zYM g) S s H locs → ∀ ls : Array Slot, lv_has ls 6 [(0, .ref (zad g 0)), (1, .int x1), (2, .int x2), (3, .int x3)] → W p l e (headSpec vX10_lookPrimitive { frames := 2, cells := 0, slots := 0, locals := 46 }).room s m ([.ref (zad g 0), .int a1] : List Value).toArray below meth c H locs 0 0 (MQ below (zQi (zYM g) r S') ([.ref (zad g 0), .int a1] : List Value).toArray s 0 0 (zYM g).2.2.1) (F0 m 179 ls []) := by
    intro k22 K22 x1 x2 x3 S h H locs Z ls hl
    unfold fX10_lookPrimitive_179 at h
    refine lv_iconst (v := (nI 1)) hx hb dX10_lookPrimitive_179 (by decide) ?_
    refine lv_goto (tgt := 184) hx hb dX10_lookPrimitive_180 (by decide) ?_
    exact B184 k22 K22 x1 x2 x3 (nI 1) S h _ _ Z ls (lv_sub hl [0, 1, 2, 3] rfl)
  have B270 : ∀ (S : zSt), fX10_lookPrimitive_270 S = some (r, S') → ∀ (H : Heap) (locs : List Loc), zZ (zYM g) S s H locs → ∀ ls : Array Slot, lv_has ls 6 [(0, .ref (zad g 0))] → W p l e (headSpec vX10_lookPrimitive { frames := 2, cells := 0, slots := 0, locals := 46 }).room s m ([.ref (zad g 0), .int a1] : List Value).toArray below meth c H locs 0 0 (MQ below (zQi (zYM g) r S') ([.ref (zad g 0), .int a1] : List Value).toArray s 0 0 (zYM g).2.2.1) (F0 m 270 ls []) := by
    intro S h H locs Z ls hl
    unfold fX10_lookPrimitive_270 at h
    refine lv_aload_n hx hb dX10_lookPrimitive_270 rfl (lv_at hl 0 rfl) ?_
    refine zgX10_62 (v := (zI S 27)) hx hb hf hown P0 Z L321 rfl dX10_lookPrimitive_271 ?_
    refine lv_if_le (tgt := 282) hx hb dX10_lookPrimitive_274 (by decide) (fun q => ?_) (fun q => ?_)
    · have h := zi_t q h
      refine lv_iconst (v := (nI 4)) hx hb dX10_lookPrimitive_282 (by decide) ?_
      exact zr_i hY P0 hx hb hr hlocks h Z dX10_lookPrimitive_283
    · have h := zi_f q h
      refine lv_bipush (v := (nI 7)) hx hb dX10_lookPrimitive_277 (by decide) ?_
      refine lv_goto (tgt := 283) hx hb dX10_lookPrimitive_279 (by decide) ?_
      exact zr_i hY P0 hx hb hr hlocks h Z dX10_lookPrimitive_283
  have B247 : ∀ (S : zSt), fX10_lookPrimitive_247 S = some (r, S') → ∀ (H : Heap) (locs : List Loc), zZ (zYM g) S s H locs → ∀ ls : Array Slot, lv_has ls 6 [(0, .ref (zad g 0))] → W p l e (headSpec vX10_lookPrimitive { frames := 2, cells := 0, slots := 0, locals := 46 }).room s m ([.ref (zad g 0), .int a1] : List Value).toArray below meth c H locs 0 0 (MQ below (zQi (zYM g) r S') ([.ref (zad g 0), .int a1] : List Value).toArray s 0 0 (zYM g).2.2.1) (F0 m 247 ls []) := by
    intro S h H locs Z ls hl
    unfold fX10_lookPrimitive_247 at h
    refine lv_aload_n hx hb dX10_lookPrimitive_247 rfl (lv_at hl 0 rfl) ?_
    refine zgX10_39 hx hb hf hown P0 Z L110 dX10_lookPrimitive_248 ?_
    refine lv_aload_n hx hb dX10_lookPrimitive_251 rfl (lv_at hl 0 rfl) ?_
    refine lv_aload_n hx hb dX10_lookPrimitive_252 rfl (lv_at hl 0 rfl) ?_
    refine lv_iconst (v := (nI 1)) hx hb dX10_lookPrimitive_253 (by decide) ?_
    obtain ⟨r17, S18, ec, h⟩ := zbd_s h
    refine zc_Vi hY P0 ⟨hx, hb, hml, hown, hT⟩ (As := [.int (nI 1)]) (rest := [.ref (zad g 0), .ref (zad g 24)]) (kX10_thing l hO (nI 1) S r17 S18 ec) (cwV 1 hT (zgV mL_X10_327 mI_X10_thing mS_X10_thing mN_X10 mC_X10_thing) rfl rfl rfl hdnX10_thing ⟨Nat.le_of_ble_eq_true rfl, Nat.le_of_ble_eq_true rfl⟩) (zrecM_0 P0 Z) Z rfl hl.1 rfl (Nat.le_of_ble_eq_true rfl) dX10_lookPrimitive_254 (fun H locs Z => ?_)
    obtain ⟨r19, S20, ec, h⟩ := zbd_s h
    refine zc_Vi hY P0 ⟨hx, hb, hml, hown, hT⟩ (As := [.int r17]) (rest := [.ref (zad g 24)]) (kX10_followed l hO r17 S18 r19 S20 ec) (cwV 1 hT (zgV mL_X10_305 mI_X10_followed mS_X10_followed mN_X10 mC_X10_followed) rfl rfl rfl hdnX10_followed ⟨Nat.le_of_ble_eq_true rfl, Nat.le_of_ble_eq_true rfl⟩) (zrecM_0 P0 Z) Z rfl hl.1 rfl (Nat.le_of_ble_eq_true rfl) dX10_lookPrimitive_257 (fun H locs Z => ?_)
    obtain ⟨v21, ev, hin, h⟩ := zld_s h
    refine zlM_24 hx hb P0 Z ev hin dX10_lookPrimitive_260 ?_
    refine lv_iconst (v := (nI 5)) hx hb dX10_lookPrimitive_261 (by decide) ?_
    refine lv_icmp_ne (tgt := 270) hx hb dX10_lookPrimitive_262 (by decide) (fun q => ?_) (fun q => ?_)
    · have h := zi_f q h
      exact B270 S20 h _ _ Z ls (lv_sub hl [0] rfl)
    · have h := zi_t q h
      refine lv_aload_n hx hb dX10_lookPrimitive_265 rfl (lv_at hl 0 rfl) ?_
      refine lv_iconst (v := (nI 4)) hx hb dX10_lookPrimitive_266 (by decide) ?_
      refine zpX10_62 hO hx hb hf hown P0 Z L321 dX10_lookPrimitive_267 (fun H locs Z => ?_)
      exact B270 (wI S20 27 (nI 4)) h _ _ Z ls (lv_sub hl [0] rfl)
  have B235 : ∀ (x1 : Int32) (S : zSt), fX10_lookPrimitive_235 x1 S = some (r, S') → ∀ (H : Heap) (locs : List Loc), zZ (zYM g) S s H locs → ∀ ls : Array Slot, lv_has ls 6 [(0, .ref (zad g 0)), (1, .int x1)] → W p l e (headSpec vX10_lookPrimitive { frames := 2, cells := 0, slots := 0, locals := 46 }).room s m ([.ref (zad g 0), .int a1] : List Value).toArray below meth c H locs 0 0 (MQ below (zQi (zYM g) r S') ([.ref (zad g 0), .int a1] : List Value).toArray s 0 0 (zYM g).2.2.1) (F0 m 235 ls []) := by
    intro x1 S h H locs Z ls hl
    unfold fX10_lookPrimitive_235 at h
    refine lv_iload_n hx hb dX10_lookPrimitive_235 rfl (lv_at hl 1 rfl) ?_
    refine lv_bipush (v := (nI 9)) hx hb dX10_lookPrimitive_236 (by decide) ?_
    refine lv_icmp_eq (tgt := 247) hx hb dX10_lookPrimitive_238 (by decide) (fun q => ?_) (fun q => ?_)
    · have h := zi_t q h
      exact B247 S h _ _ Z ls (lv_sub hl [0] rfl)
    · have h := zi_f q h
      refine lv_iload_n hx hb dX10_lookPrimitive_241 rfl (lv_at hl 1 rfl) ?_
      refine lv_bipush (v := (nI 10)) hx hb dX10_lookPrimitive_242 (by decide) ?_
      refine lv_icmp_ne (tgt := 270) hx hb dX10_lookPrimitive_244 (by decide) (fun q => ?_) (fun q => ?_)
      · have h := zi_f q h
        exact B270 S h _ _ Z ls (lv_sub hl [0] rfl)
      · have h := zi_t q h
        exact B247 S h _ _ Z ls (lv_sub hl [0] rfl)
  have B22 : ∀ (n : Nat) (x1 : Int32) (x2 : Int32) (x3 : Int32) (S : zSt), fX10_lookPrimitive_22L n (x1, x2, x3, S) = some (r, S') → ∀ (H : Heap) (locs : List Loc), zZ (zYM g) S s H locs → ∀ ls : Array Slot, lv_has ls 6 [(0, .ref (zad g 0)), (1, .int x1), (2, .int x2), (3, .int x3)] → W p l e (headSpec vX10_lookPrimitive { frames := 2, cells := 0, slots := 0, locals := 46 }).room s m ([.ref (zad g 0), .int a1] : List Value).toArray below meth c H locs 0 0 (MQ below (zQi (zYM g) r S') ([.ref (zad g 0), .int a1] : List Value).toArray s 0 0 (zYM g).2.2.1) (F0 m 22 ls []) := by
    intro n
    induction n with
    | zero => intro x1 x2 x3 S h; exact absurd h (fun h => nomatch h)
    | succ n K22 =>
      intro x1 x2 x3 S h H locs Z ls hl
      have h : fX10_lookPrimitive_22 (fX10_lookPrimitive_22L n) x1 x2 x3 S = some (r, S') := h
      unfold fX10_lookPrimitive_22 at h
      refine lv_iload_n hx hb dX10_lookPrimitive_22 rfl (lv_at hl 3 rfl) ?_
      refine lv_iload_n hx hb dX10_lookPrimitive_23 rfl (lv_at hl 2 rfl) ?_
      refine lv_icmp_gt (tgt := 205) hx hb dX10_lookPrimitive_24 (by decide) (fun q => ?_) (fun q => ?_)
      · have h := zi_t q h
        refine lv_iload_n hx hb dX10_lookPrimitive_205 rfl (lv_at hl 1 rfl) ?_
        refine lv_iconst (v := (nI 3)) hx hb dX10_lookPrimitive_206 (by decide) ?_
        refine lv_icmp_ne (tgt := 235) hx hb dX10_lookPrimitive_207 (by decide) (fun q => ?_) (fun q => ?_)
        · have h := zi_f q h
          exact B235 x1 S h _ _ Z ls (lv_sub hl [0, 1] rfl)
        · have h := zi_t q h
          refine lv_aload_n hx hb dX10_lookPrimitive_210 rfl (lv_at hl 0 rfl) ?_
          refine zgX10_40 hx hb hf hown P0 Z L113 dX10_lookPrimitive_211 ?_
          refine lv_aload_n hx hb dX10_lookPrimitive_214 rfl (lv_at hl 0 rfl) ?_
          refine lv_aload_n hx hb dX10_lookPrimitive_215 rfl (lv_at hl 0 rfl) ?_
          refine lv_iconst (v := (nI 2)) hx hb dX10_lookPrimitive_216 (by decide) ?_
          obtain ⟨r1, S2, ec, h⟩ := zbd_s h
          refine zc_Vi hY P0 ⟨hx, hb, hml, hown, hT⟩ (As := [.int (nI 2)]) (rest := [.ref (zad g 0), .ref (zad g 25)]) (kX10_thing l hO (nI 2) S r1 S2 ec) (cwV 1 hT (zgV mL_X10_327 mI_X10_thing mS_X10_thing mN_X10 mC_X10_thing) rfl rfl rfl hdnX10_thing ⟨Nat.le_of_ble_eq_true rfl, Nat.le_of_ble_eq_true rfl⟩) (zrecM_0 P0 Z) Z rfl hl.1 rfl (Nat.le_of_ble_eq_true rfl) dX10_lookPrimitive_217 (fun H locs Z => ?_)
          obtain ⟨r3, S4, ec, h⟩ := zbd_s h
          refine zc_Vi hY P0 ⟨hx, hb, hml, hown, hT⟩ (As := [.int r1]) (rest := [.ref (zad g 25)]) (kX10_followed l hO r1 S2 r3 S4 ec) (cwV 1 hT (zgV mL_X10_305 mI_X10_followed mS_X10_followed mN_X10 mC_X10_followed) rfl rfl rfl hdnX10_followed ⟨Nat.le_of_ble_eq_true rfl, Nat.le_of_ble_eq_true rfl⟩) (zrecM_0 P0 Z) Z rfl hl.1 rfl (Nat.le_of_ble_eq_true rfl) dX10_lookPrimitive_220 (fun H locs Z => ?_)
          obtain ⟨v5, ev, hin, h⟩ := zld_s h
          refine zlM_25 hx hb P0 Z ev hin dX10_lookPrimitive_223 ?_
          refine lv_if_ne (tgt := 235) hx hb dX10_lookPrimitive_224 (by decide) (fun q => ?_) (fun q => ?_)
          · have h := zi_f q h
            exact B235 x1 S4 h _ _ Z ls (lv_sub hl [0, 1] rfl)
          · have h := zi_t q h
            refine lv_aload_n hx hb dX10_lookPrimitive_227 rfl (lv_at hl 0 rfl) ?_
            refine lv_iconst (v := (nI 3)) hx hb dX10_lookPrimitive_228 (by decide) ?_
            refine zpX10_62 hO hx hb hf hown P0 Z L321 dX10_lookPrimitive_229 (fun H locs Z => ?_)
            refine lv_goto (tgt := 270) hx hb dX10_lookPrimitive_232 (by decide) ?_
            exact B270 (wI S4 27 (nI 3)) h _ _ Z ls (lv_sub hl [0] rfl)
      · have h := zi_f q h
        refine lv_aload_n hx hb dX10_lookPrimitive_27 rfl (lv_at hl 0 rfl) ?_
        refine lv_aload_n hx hb dX10_lookPrimitive_28 rfl (lv_at hl 0 rfl) ?_
        refine lv_iload_n hx hb dX10_lookPrimitive_29 rfl (lv_at hl 3 rfl) ?_
        obtain ⟨r6, S7, ec, h⟩ := zbd_s h
        refine zc_Vi hY P0 ⟨hx, hb, hml, hown, hT⟩ (As := [.int x3]) (rest := [.ref (zad g 0)]) (kX10_thing l hO x3 S r6 S7 ec) (cwV 1 hT (zgV mL_X10_327 mI_X10_thing mS_X10_thing mN_X10 mC_X10_thing) rfl rfl rfl hdnX10_thing ⟨Nat.le_of_ble_eq_true rfl, Nat.le_of_ble_eq_true rfl⟩) (zrecM_0 P0 Z) Z rfl hl.1 rfl (Nat.le_of_ble_eq_true rfl) dX10_lookPrimitive_30 (fun H locs Z => ?_)
        obtain ⟨r8, S9, ec, h⟩ := zbd_s h
        refine zc_Vi hY P0 ⟨hx, hb, hml, hown, hT⟩ (As := [.int r6]) (rest := []) (kX10_followed l hO r6 S7 r8 S9 ec) (cwV 1 hT (zgV mL_X10_305 mI_X10_followed mS_X10_followed mN_X10 mC_X10_followed) rfl rfl rfl hdnX10_followed ⟨Nat.le_of_ble_eq_true rfl, Nat.le_of_ble_eq_true rfl⟩) (zrecM_0 P0 Z) Z rfl hl.1 rfl (Nat.le_of_ble_eq_true rfl) dX10_lookPrimitive_33 (fun H locs Z => ?_)
        refine lv_istore (lv' := [(4, .int r8), (0, .ref (zad g 0)), (1, .int x1), (2, .int x2), (3, .int x3)]) hx hb dX10_lookPrimitive_36 hl (by decide) rfl (fun ls hl => ?_)
        refine lv_iload hx hb dX10_lookPrimitive_38 (lv_at hl 0 rfl) ?_
        refine lv_if_ge (tgt := 51) hx hb dX10_lookPrimitive_40 (by decide) (fun q => ?_) (fun q => ?_)
        · have h := zi_t q h
          refine lv_aload_n hx hb dX10_lookPrimitive_51 rfl (lv_at hl 1 rfl) ?_
          refine lv_iload hx hb dX10_lookPrimitive_52 (lv_at hl 0 rfl) ?_
          obtain ⟨r10, S11, ec, h⟩ := zbd_s h
          refine zc_Vi hY P0 ⟨hx, hb, hml, hown, hT⟩ (As := [.int r8]) (rest := []) (kX10_isValue l hO r8 S9 r10 S11 ec) (cwV 1 hT (zgV mL_X10_330 mI_X10_isValue mS_X10_isValue mN_X10 mC_X10_isValue) rfl rfl rfl hdnX10_isValue ⟨Nat.le_of_ble_eq_true rfl, Nat.le_of_ble_eq_true rfl⟩) (zrecM_0 P0 Z) Z rfl hl.1 rfl (Nat.le_of_ble_eq_true rfl) dX10_lookPrimitive_54 (fun H locs Z => ?_)
          refine lv_if_ne (tgt := 127) hx hb dX10_lookPrimitive_57 (by decide) (fun q => ?_) (fun q => ?_)
          · have h := zi_f q h
            refine lv_iload_n hx hb dX10_lookPrimitive_127 rfl (lv_at hl 2 rfl) ?_
            refine lv_bipush (v := (nI 7)) hx hb dX10_lookPrimitive_128 (by decide) ?_
            refine lv_icmp_ge (tgt := 151) hx hb dX10_lookPrimitive_130 (by decide) (fun q => ?_) (fun q => ?_)
            · have h := zi_t q h
              refine lv_iload_n hx hb dX10_lookPrimitive_151 rfl (lv_at hl 2 rfl) ?_
              refine lv_bipush (v := (nI 12)) hx hb dX10_lookPrimitive_152 (by decide) ?_
              refine lv_icmp_eq (tgt := 179) hx hb dX10_lookPrimitive_154 (by decide) (fun q => ?_) (fun q => ?_)
              · have h := zi_t q h
                exact B179 (fX10_lookPrimitive_22L n) K22 x1 x2 x3 S11 h _ _ Z ls (lv_sub hl [1, 2, 3, 4] rfl)
              · have h := zi_f q h
                refine lv_aload_n hx hb dX10_lookPrimitive_157 rfl (lv_at hl 1 rfl) ?_
                refine zgX10_39 hx hb hf hown P0 Z L110 dX10_lookPrimitive_158 ?_
                refine lv_iload hx hb dX10_lookPrimitive_161 (lv_at hl 0 rfl) ?_
                obtain ⟨v12, ev, hin, h⟩ := zld_s h
                refine zlM_24 hx hb P0 Z ev hin dX10_lookPrimitive_163 ?_
                refine lv_iconst (v := (nI 4)) hx hb dX10_lookPrimitive_164 (by decide) ?_
                refine lv_icmp_eq (tgt := 179) hx hb dX10_lookPrimitive_165 (by decide) (fun q => ?_) (fun q => ?_)
                · have h := zi_t q h
                  exact B179 (fX10_lookPrimitive_22L n) K22 x1 x2 x3 S11 h _ _ Z ls (lv_sub hl [1, 2, 3, 4] rfl)
                · have h := zi_f q h
                  refine lv_aload_n hx hb dX10_lookPrimitive_168 rfl (lv_at hl 1 rfl) ?_
                  refine zgX10_39 hx hb hf hown P0 Z L110 dX10_lookPrimitive_169 ?_
                  refine lv_iload hx hb dX10_lookPrimitive_172 (lv_at hl 0 rfl) ?_
                  obtain ⟨v13, ev, hin, h⟩ := zld_s h
                  refine zlM_24 hx hb P0 Z ev hin dX10_lookPrimitive_174 ?_
                  refine lv_iconst (v := (nI 5)) hx hb dX10_lookPrimitive_175 (by decide) ?_
                  refine lv_icmp_ne (tgt := 183) hx hb dX10_lookPrimitive_176 (by decide) (fun q => ?_) (fun q => ?_)
                  · have h := zi_f q h
                    refine lv_iconst (v := (nI 0)) hx hb dX10_lookPrimitive_183 (by decide) ?_
                    exact B184 (fX10_lookPrimitive_22L n) K22 x1 x2 x3 (nI 0) S11 h _ _ Z ls (lv_sub hl [1, 2, 3, 4] rfl)
                  · have h := zi_t q h
                    exact B179 (fX10_lookPrimitive_22L n) K22 x1 x2 x3 S11 h _ _ Z ls (lv_sub hl [1, 2, 3, 4] rfl)
            · have h := zi_f q h
              refine lv_aload_n hx hb dX10_lookPrimitive_133 rfl (lv_at hl 1 rfl) ?_
              refine zgX10_39 hx hb hf hown P0 Z L110 dX10_lookPrimitive_134 ?_
              refine lv_iload hx hb dX10_lookPrimitive_137 (lv_at hl 0 rfl) ?_
              obtain ⟨v14, ev, hin, h⟩ := zld_s h
              refine zlM_24 hx hb P0 Z ev hin dX10_lookPrimitive_139 ?_
              refine lv_if_ne (tgt := 147) hx hb dX10_lookPrimitive_140 (by decide) (fun q => ?_) (fun q => ?_)
              · have h := zi_f q h
                refine lv_iconst (v := (nI 0)) hx hb dX10_lookPrimitive_147 (by decide) ?_
                refine lv_goto (tgt := 184) hx hb dX10_lookPrimitive_148 (by decide) ?_
                exact B184 (fX10_lookPrimitive_22L n) K22 x1 x2 x3 (nI 0) S11 h _ _ Z ls (lv_sub hl [1, 2, 3, 4] rfl)
              · have h := zi_t q h
                refine lv_iconst (v := (nI 1)) hx hb dX10_lookPrimitive_143 (by decide) ?_
                refine lv_goto (tgt := 184) hx hb dX10_lookPrimitive_144 (by decide) ?_
                exact B184 (fX10_lookPrimitive_22L n) K22 x1 x2 x3 (nI 1) S11 h _ _ Z ls (lv_sub hl [1, 2, 3, 4] rfl)
          · have h := zi_t q h
            refine lv_iconst (v := (nI 0)) hx hb dX10_lookPrimitive_60 (by decide) ?_
            refine lv_istore (lv' := [(5, .int (nI 0)), (4, .int r8), (0, .ref (zad g 0)), (1, .int x1), (2, .int x2), (3, .int x3)]) hx hb dX10_lookPrimitive_61 hl (by decide) rfl (fun ls hl => ?_)
            exact B63 zFU r8 (nI 0) S11 h _ _ Z ls (lv_sub hl [2, 1, 0] rfl)
        · have h := zi_f q h
          refine lv_aload_n hx hb dX10_lookPrimitive_43 rfl (lv_at hl 1 rfl) ?_
          refine lv_iconst (v := (nI 5)) hx hb dX10_lookPrimitive_44 (by decide) ?_
          refine zpX10_62 hO hx hb hf hown P0 Z L321 dX10_lookPrimitive_45 (fun H locs Z => ?_)
          refine lv_bipush (v := (nI 7)) hx hb dX10_lookPrimitive_48 (by decide) ?_
          exact zr_i hY P0 hx hb hr hlocks h Z dX10_lookPrimitive_50
  have hl := lv_entry ([.ref (zad g 0), .int a1] : List Value) (n := 6) (Nat.le_of_ble_eq_true rfl)
  rw [lg_entry_eq]
  generalize (lg_sl ([.ref (zad g 0), .int a1] : List Value) ++ List.replicate (6 - (lg_sl ([.ref (zad g 0), .int a1] : List Value)).length) Slot.unset).toArray = ls at hl ⊢
  have hl : lv_has ls 6 [(0, .ref (zad g 0)), (1, .int a1)] := hl
  unfold fX10_lookPrimitive at h
  refine lv_iload_n hx hb dX10_lookPrimitive_0 rfl (lv_at hl 1 rfl) ?_
  refine lv_bipush (v := (nI 7)) hx hb dX10_lookPrimitive_1 (by decide) ?_
  refine lv_icmp_ne (tgt := 8) hx hb dX10_lookPrimitive_3 (by decide) (fun q => ?_) (fun q => ?_)
  · have h := zi_f q h
    refine lv_iload_n hx hb dX10_lookPrimitive_8 rfl (lv_at hl 1 rfl) ?_
    refine lv_bipush (v := (nI 6)) hx hb dX10_lookPrimitive_9 (by decide) ?_
    refine lv_icmp_ge (tgt := 18) hx hb dX10_lookPrimitive_11 (by decide) (fun q => ?_) (fun q => ?_)
    · have h := zi_t q h
      refine lv_iconst (v := (nI 1)) hx hb dX10_lookPrimitive_18 (by decide) ?_
      refine lv_istore_n (lv' := [(2, .int (nI 1)), (0, .ref (zad g 0)), (1, .int a1)]) hx hb dX10_lookPrimitive_19 rfl hl (by decide) rfl (fun ls hl => ?_)
      refine lv_iconst (v := (nI 1)) hx hb dX10_lookPrimitive_20 (by decide) ?_
      refine lv_istore_n (lv' := [(3, .int (nI 1)), (2, .int (nI 1)), (0, .ref (zad g 0)), (1, .int a1)]) hx hb dX10_lookPrimitive_21 rfl hl (by decide) rfl (fun ls hl => ?_)
      exact B22 zFU a1 (nI 1) (nI 1) S h _ _ Z ls (lv_sub hl [2, 3, 1, 0] rfl)
    · have h := zi_f q h
      refine lv_iconst (v := (nI 2)) hx hb dX10_lookPrimitive_14 (by decide) ?_
      refine lv_goto (tgt := 19) hx hb dX10_lookPrimitive_15 (by decide) ?_
      refine lv_istore_n (lv' := [(2, .int (nI 2)), (0, .ref (zad g 0)), (1, .int a1)]) hx hb dX10_lookPrimitive_19 rfl hl (by decide) rfl (fun ls hl => ?_)
      refine lv_iconst (v := (nI 1)) hx hb dX10_lookPrimitive_20 (by decide) ?_
      refine lv_istore_n (lv' := [(3, .int (nI 1)), (2, .int (nI 2)), (0, .ref (zad g 0)), (1, .int a1)]) hx hb dX10_lookPrimitive_21 rfl hl (by decide) rfl (fun ls hl => ?_)
      exact B22 zFU a1 (nI 2) (nI 1) S h _ _ Z ls (lv_sub hl [2, 3, 1, 0] rfl)
  · have h := zi_t q h
    refine lv_iconst (v := (nI 4)) hx hb dX10_lookPrimitive_6 (by decide) ?_
    exact zr_i hY P0 hx hb hr hlocks h Z dX10_lookPrimitive_7

set_option maxHeartbeats 4000000 in
set_option maxRecDepth 100000 in
theorem kX10_look {g : zG} (l : Launch) (hO : zinjM g) (S : zSt) (r : Int32) (S' : zSt) (h : fX10_look S = some (r, S')) : zMi (zYM g) l yX10_look vX10_look { frames := 3, cells := 0, slots := 0, locals := 71 } ([.ref (zad g 0)] : List Value) S r S' := by
  have hY := zOkM hO
  refine Met.ofW (cc := cX10_look) (maxL := 3) (ret := (some .int)) (by decide) rfl ?_
  intro p e s m args below meth c s₁ B hml hv
  obtain ⟨rfl, hP⟩ := hv
  have hx := B.exec
  have hb := B.bytes
  have hr := B.returns
  have hts := atoms_spec (ws := vX10_look) B.pre
  have hT : ∀ w ∈ zTB, w.before ([.ref (zad g 0)] : List Value).toArray s = true := fun w h => hts w (List.mem_cons_of_mem _ h)
  have hown : s.vm.findClass RX10 = some m.cls := findClass_of_methodNamed B.named
  have hlocks := B.notSynchronized
  have P0 := hP.2
  have Z : zZ (zYM g) S s s.heap [] := ⟨hP.1, va_S.rf⟩
  have hf : ∀ w ∈ u_ws RX10 TX10 67, w.before ([.ref (zad g 0)] : List Value).toArray s = true := fun w hw => hT w (mU_X10 w hw)
  have L318 := hT _ mF_X10_318
  have L321 := hT _ mF_X10_321
  have L110 := hT _ mF_X10_110
  have L50 := hT _ mF_X10_50
  have L113 := hT _ mF_X10_113
  have L274 := hT _ mF_X10_274
  have hl := lv_entry ([.ref (zad g 0)] : List Value) (n := 3) (Nat.le_of_ble_eq_true rfl)
  rw [lg_entry_eq]
  generalize (lg_sl ([.ref (zad g 0)] : List Value) ++ List.replicate (3 - (lg_sl ([.ref (zad g 0)] : List Value)).length) Slot.unset).toArray = ls at hl ⊢
  have hl : lv_has ls 3 [(0, .ref (zad g 0))] := hl
  unfold fX10_look at h
  refine lv_aload_n hx hb dX10_look_0 rfl (lv_at hl 0 rfl) ?_
  obtain ⟨r1, S2, ec, h⟩ := zbd_s h
  refine zc_Vi hY P0 ⟨hx, hb, hml, hown, hT⟩ (As := []) (rest := []) (kX10_topNode l hO  S r1 S2 ec) (cwV 0 hT (zgV mL_X10_311 mI_X10_topNode mS_X10_topNode mN_X10 mC_X10_topNode) rfl rfl rfl hdnX10_topNode ⟨Nat.le_of_ble_eq_true rfl, Nat.le_of_ble_eq_true rfl⟩) (zrecM_0 P0 Z) Z rfl hl.1 rfl (Nat.le_of_ble_eq_true rfl) dX10_look_1 (fun H locs Z => ?_)
  refine lv_istore_n (lv' := [(1, .int r1), (0, .ref (zad g 0))]) hx hb dX10_look_4 rfl hl (by decide) rfl (fun ls hl => ?_)
  refine lv_aload_n hx hb dX10_look_5 rfl (lv_at hl 1 rfl) ?_
  obtain ⟨r3, S4, ec, h⟩ := zbd_s h
  refine zc_Vi hY P0 ⟨hx, hb, hml, hown, hT⟩ (As := []) (rest := []) (kX10_size l hO  S2 r3 S4 ec) (cwV 0 hT (zgV mL_X10_315 mI_X10_size mS_X10_size mN_X10 mC_X10_size) rfl rfl rfl hdnX10_size ⟨Nat.le_of_ble_eq_true rfl, Nat.le_of_ble_eq_true rfl⟩) (zrecM_0 P0 Z) Z rfl hl.1 rfl (Nat.le_of_ble_eq_true rfl) dX10_look_6 (fun H locs Z => ?_)
  refine lv_iconst (v := (nI 1)) hx hb dX10_look_9 (by decide) ?_
  refine lv_isub hx hb dX10_look_10 ?_
  refine lv_istore_n (lv' := [(2, .int (r3 - (nI 1))), (1, .int r1), (0, .ref (zad g 0))]) hx hb dX10_look_11 rfl hl (by decide) rfl (fun ls hl => ?_)
  refine lv_aload_n hx hb dX10_look_12 rfl (lv_at hl 2 rfl) ?_
  refine lv_iconst (v := (-1 : Int32)) hx hb dX10_look_13 (by decide) ?_
  refine zpX10_61 hO hx hb hf hown P0 Z L318 dX10_look_14 (fun H locs Z => ?_)
  refine lv_aload_n hx hb dX10_look_17 rfl (lv_at hl 2 rfl) ?_
  refine lv_iconst (v := (nI 0)) hx hb dX10_look_18 (by decide) ?_
  refine zpX10_62 hO hx hb hf hown P0 Z L321 dX10_look_19 (fun H locs Z => ?_)
  refine lv_aload_n hx hb dX10_look_22 rfl (lv_at hl 2 rfl) ?_
  refine zgX10_39 hx hb hf hown P0 Z L110 dX10_look_23 ?_
  refine lv_iload_n hx hb dX10_look_26 rfl (lv_at hl 1 rfl) ?_
  obtain ⟨v5, ev, hin, h⟩ := zld_s h
  refine zlM_24 hx hb P0 Z ev hin dX10_look_27 ?_
  by_cases q1 : v5 = (nI 1)
  · have h := zi_t q1 h
    refine ztbl (off := 42) (tgt := 70) hx hb q1 dX10_look_28 (by decide) (by decide) (by decide) (by decide) ?_
    refine lv_iconst (v := (nI 1)) hx hb dX10_look_70 (by decide) ?_
    exact zr_i hY P0 hx hb hr hlocks h Z dX10_look_71
  have h := zi_f q1 h
  by_cases q2 : v5 = (nI 2)
  · have h := zi_t q2 h
    refine ztbl (off := 44) (tgt := 72) hx hb q2 dX10_look_28 (by decide) (by decide) (by decide) (by decide) ?_
    refine lv_iload_n hx hb dX10_look_72 rfl (lv_at hl 0 rfl) ?_
    refine lv_aload_n hx hb dX10_look_73 rfl (lv_at hl 2 rfl) ?_
    refine zgX10_13 hx hb hf hown P0 Z L50 dX10_look_74 ?_
    refine lv_aload_n hx hb dX10_look_77 rfl (lv_at hl 2 rfl) ?_
    refine zgX10_40 hx hb hf hown P0 Z L113 dX10_look_78 ?_
    refine lv_iload_n hx hb dX10_look_81 rfl (lv_at hl 1 rfl) ?_
    obtain ⟨v6, ev, hin, h⟩ := zld_s h
    refine zlM_25 hx hb P0 Z ev hin dX10_look_82 ?_
    obtain ⟨v7, ev, hin, h⟩ := zld_s h
    refine zlM_4 hx hb P0 Z ev hin dX10_look_83 ?_
    refine lv_icmp_lt (tgt := 91) hx hb dX10_look_84 (by decide) (fun q => ?_) (fun q => ?_)
    · have h := zi_t q h
      refine lv_aload_n hx hb dX10_look_91 rfl (lv_at hl 2 rfl) ?_
      refine zgX10_50 (v := (zI S4 19)) hx hb hf hown P0 Z L274 rfl dX10_look_92 ?_
      refine lv_iconst (v := (nI 1)) hx hb dX10_look_95 (by decide) ?_
      refine lv_icmp_le (tgt := 103) hx hb dX10_look_96 (by decide) (fun q => ?_) (fun q => ?_)
      · have h := zi_t q h
        refine lv_bipush (v := (nI 6)) hx hb dX10_look_103 (by decide) ?_
        exact zr_i hY P0 hx hb hr hlocks h Z dX10_look_105
      · have h := zi_f q h
        refine lv_iconst (v := (nI 5)) hx hb dX10_look_99 (by decide) ?_
        refine lv_goto (tgt := 105) hx hb dX10_look_100 (by decide) ?_
        exact zr_i hY P0 hx hb hr hlocks h Z dX10_look_105
    · have h := zi_f q h
      refine lv_iconst (v := (nI 2)) hx hb dX10_look_87 (by decide) ?_
      refine lv_goto (tgt := 105) hx hb dX10_look_88 (by decide) ?_
      exact zr_i hY P0 hx hb hr hlocks h Z dX10_look_105
  have h := zi_f q2 h
  by_cases q3 : v5 = (nI 3)
  · have h := zi_t q3 h
    refine ztbl (off := 78) (tgt := 106) hx hb q3 dX10_look_28 (by decide) (by decide) (by decide) (by decide) ?_
    refine lv_iload_n hx hb dX10_look_106 rfl (lv_at hl 0 rfl) ?_
    refine lv_aload_n hx hb dX10_look_107 rfl (lv_at hl 2 rfl) ?_
    refine zgX10_40 hx hb hf hown P0 Z L113 dX10_look_108 ?_
    refine lv_iload_n hx hb dX10_look_111 rfl (lv_at hl 1 rfl) ?_
    obtain ⟨v8, ev, hin, h⟩ := zld_s h
    refine zlM_25 hx hb P0 Z ev hin dX10_look_112 ?_
    obtain ⟨r9, S10, ec, h⟩ := zbd_s h
    refine zc_Si hY P0 ⟨hx, hb, hml, hown, hT⟩ (As := [.int v8]) (rest := [.int (r3 - (nI 1))]) (kX10_wants l hO v8 (wI (wI S4 26 (-1 : Int32)) 27 (nI 0)) r9 S10 ec) (va_cwS 1 hT (zgS mL_X10_308 mT_X10_wants mN_X10 mC_X10_wants) rfl rfl rfl hdnX10_wants ⟨Nat.le_of_ble_eq_true rfl, Nat.le_of_ble_eq_true rfl⟩) Z rfl hl.1 rfl (Nat.le_of_ble_eq_true rfl) dX10_look_113 (fun H locs Z => ?_)
    refine lv_icmp_lt (tgt := 132) hx hb dX10_look_116 (by decide) (fun q => ?_) (fun q => ?_)
    · have h := zi_t q h
      refine lv_aload_n hx hb dX10_look_132 rfl (lv_at hl 2 rfl) ?_
      refine zgX10_50 (v := (zI S10 19)) hx hb hf hown P0 Z L274 rfl dX10_look_133 ?_
      refine lv_iconst (v := (nI 1)) hx hb dX10_look_136 (by decide) ?_
      refine lv_icmp_le (tgt := 144) hx hb dX10_look_137 (by decide) (fun q => ?_) (fun q => ?_)
      · have h := zi_t q h
        refine lv_bipush (v := (nI 6)) hx hb dX10_look_144 (by decide) ?_
        exact zr_i hY P0 hx hb hr hlocks h Z dX10_look_146
      · have h := zi_f q h
        refine lv_iconst (v := (nI 5)) hx hb dX10_look_140 (by decide) ?_
        refine lv_goto (tgt := 146) hx hb dX10_look_141 (by decide) ?_
        exact zr_i hY P0 hx hb hr hlocks h Z dX10_look_146
    · have h := zi_f q h
      refine lv_aload_n hx hb dX10_look_119 rfl (lv_at hl 2 rfl) ?_
      refine lv_aload_n hx hb dX10_look_120 rfl (lv_at hl 2 rfl) ?_
      refine zgX10_40 hx hb hf hown P0 Z L113 dX10_look_121 ?_
      refine lv_iload_n hx hb dX10_look_124 rfl (lv_at hl 1 rfl) ?_
      obtain ⟨v11, ev, hin, h⟩ := zld_s h
      refine zlM_25 hx hb P0 Z ev hin dX10_look_125 ?_
      obtain ⟨r12, S13, ec, h⟩ := zbd_s h
      refine zc_Vi hY P0 ⟨hx, hb, hml, hown, hT⟩ (As := [.int v11]) (rest := []) (kX10_lookPrimitive l hO v11 S10 r12 S13 ec) (cwV 1 hT (zgV mL_X10_324 mI_X10_lookPrimitive mS_X10_lookPrimitive mN_X10 mC_X10_lookPrimitive) rfl rfl rfl hdnX10_lookPrimitive ⟨Nat.le_of_ble_eq_true rfl, Nat.le_of_ble_eq_true rfl⟩) (zrecM_0 P0 Z) Z rfl hl.1 rfl (Nat.le_of_ble_eq_true rfl) dX10_look_126 (fun H locs Z => ?_)
      refine lv_goto (tgt := 146) hx hb dX10_look_129 (by decide) ?_
      exact zr_i hY P0 hx hb hr hlocks h Z dX10_look_146
  have h := zi_f q3 h
  by_cases q6 : v5 = (nI 6)
  · have h := zi_t q6 h
    refine ztbl (off := 40) (tgt := 68) hx hb q6 dX10_look_28 (by decide) (by decide) (by decide) (by decide) ?_
    refine lv_iconst (v := (nI 0)) hx hb dX10_look_68 (by decide) ?_
    exact zr_i hY P0 hx hb hr hlocks h Z dX10_look_69
  have h := zi_f q6 h
  by_cases q4 : v5 = (nI 4)
  · refine ztbl (off := 119) (tgt := 147) hx hb q4 dX10_look_28 (by decide) (by decide) (by decide) (by decide) ?_
    refine lv_iload_n hx hb dX10_look_147 rfl (lv_at hl 0 rfl) ?_
    refine lv_if_le (tgt := 159) hx hb dX10_look_148 (by decide) (fun q => ?_) (fun q => ?_)
    · have h := zi_t q h
      refine lv_aload_n hx hb dX10_look_159 rfl (lv_at hl 2 rfl) ?_
      refine zgX10_50 (v := (zI S4 19)) hx hb hf hown P0 Z L274 rfl dX10_look_160 ?_
      refine lv_iconst (v := (nI 1)) hx hb dX10_look_163 (by decide) ?_
      refine lv_icmp_le (tgt := 171) hx hb dX10_look_164 (by decide) (fun q => ?_) (fun q => ?_)
      · have h := zi_t q h
        refine lv_bipush (v := (nI 6)) hx hb dX10_look_171 (by decide) ?_
        exact zr_i hY P0 hx hb hr hlocks h Z dX10_look_173
      · have h := zi_f q h
        refine lv_iconst (v := (nI 5)) hx hb dX10_look_167 (by decide) ?_
        refine lv_goto (tgt := 173) hx hb dX10_look_168 (by decide) ?_
        exact zr_i hY P0 hx hb hr hlocks h Z dX10_look_173
    · have h := zi_f q h
      refine lv_aload_n hx hb dX10_look_151 rfl (lv_at hl 2 rfl) ?_
      refine lv_iconst (v := (nI 1)) hx hb dX10_look_152 (by decide) ?_
      refine zpX10_62 hO hx hb hf hown P0 Z L321 dX10_look_153 (fun H locs Z => ?_)
      refine lv_bipush (v := (nI 7)) hx hb dX10_look_156 (by decide) ?_
      exact zr_i hY P0 hx hb hr hlocks h Z dX10_look_158
  by_cases q5 : v5 = (nI 5)
  · refine ztbl (off := 119) (tgt := 147) hx hb q5 dX10_look_28 (by decide) (by decide) (by decide) (by decide) ?_
    refine lv_iload_n hx hb dX10_look_147 rfl (lv_at hl 0 rfl) ?_
    refine lv_if_le (tgt := 159) hx hb dX10_look_148 (by decide) (fun q => ?_) (fun q => ?_)
    · have h := zi_t q h
      refine lv_aload_n hx hb dX10_look_159 rfl (lv_at hl 2 rfl) ?_
      refine zgX10_50 (v := (zI S4 19)) hx hb hf hown P0 Z L274 rfl dX10_look_160 ?_
      refine lv_iconst (v := (nI 1)) hx hb dX10_look_163 (by decide) ?_
      refine lv_icmp_le (tgt := 171) hx hb dX10_look_164 (by decide) (fun q => ?_) (fun q => ?_)
      · have h := zi_t q h
        refine lv_bipush (v := (nI 6)) hx hb dX10_look_171 (by decide) ?_
        exact zr_i hY P0 hx hb hr hlocks h Z dX10_look_173
      · have h := zi_f q h
        refine lv_iconst (v := (nI 5)) hx hb dX10_look_167 (by decide) ?_
        refine lv_goto (tgt := 173) hx hb dX10_look_168 (by decide) ?_
        exact zr_i hY P0 hx hb hr hlocks h Z dX10_look_173
    · have h := zi_f q h
      refine lv_aload_n hx hb dX10_look_151 rfl (lv_at hl 2 rfl) ?_
      refine lv_iconst (v := (nI 1)) hx hb dX10_look_152 (by decide) ?_
      refine zpX10_62 hO hx hb hf hown P0 Z L321 dX10_look_153 (fun H locs Z => ?_)
      refine lv_bipush (v := (nI 7)) hx hb dX10_look_156 (by decide) ?_
      exact zr_i hY P0 hx hb hr hlocks h Z dX10_look_158
  have u1 : ¬ v5.toInt = 1 := lv_neT q1 (by decide)
  have u2 : ¬ v5.toInt = 2 := lv_neT q2 (by decide)
  have u3 : ¬ v5.toInt = 3 := lv_neT q3 (by decide)
  have u4 : ¬ v5.toInt = 4 := lv_neT q4 (by decide)
  have u5 : ¬ v5.toInt = 5 := lv_neT q5 (by decide)
  have u6 : ¬ v5.toInt = 6 := lv_neT q6 (by decide)
  refine lv_tableOut (tgt := 147) hx hb dX10_look_28 (by omega) (by decide) ?_
  refine lv_iload_n hx hb dX10_look_147 rfl (lv_at hl 0 rfl) ?_
  refine lv_if_le (tgt := 159) hx hb dX10_look_148 (by decide) (fun q => ?_) (fun q => ?_)
  · have h := zi_t q h
    refine lv_aload_n hx hb dX10_look_159 rfl (lv_at hl 2 rfl) ?_
    refine zgX10_50 (v := (zI S4 19)) hx hb hf hown P0 Z L274 rfl dX10_look_160 ?_
    refine lv_iconst (v := (nI 1)) hx hb dX10_look_163 (by decide) ?_
    refine lv_icmp_le (tgt := 171) hx hb dX10_look_164 (by decide) (fun q => ?_) (fun q => ?_)
    · have h := zi_t q h
      refine lv_bipush (v := (nI 6)) hx hb dX10_look_171 (by decide) ?_
      exact zr_i hY P0 hx hb hr hlocks h Z dX10_look_173
    · have h := zi_f q h
      refine lv_iconst (v := (nI 5)) hx hb dX10_look_167 (by decide) ?_
      refine lv_goto (tgt := 173) hx hb dX10_look_168 (by decide) ?_
      exact zr_i hY P0 hx hb hr hlocks h Z dX10_look_173
  · have h := zi_f q h
    refine lv_aload_n hx hb dX10_look_151 rfl (lv_at hl 2 rfl) ?_
    refine lv_iconst (v := (nI 1)) hx hb dX10_look_152 (by decide) ?_
    refine zpX10_62 hO hx hb hf hown P0 Z L321 dX10_look_153 (fun H locs Z => ?_)
    refine lv_bipush (v := (nI 7)) hx hb dX10_look_156 (by decide) ?_
    exact zr_i hY P0 hx hb hr hlocks h Z dX10_look_158

set_option maxHeartbeats 4000000 in
set_option maxRecDepth 100000 in
theorem kX10_isFull {g : zG} (l : Launch) (hO : zinjM g) (a1 : Int32) (S : zSt) (r : Int32) (S' : zSt) (h : fX10_isFull a1 S = some (r, S')) : zMi (zYM g) l yX10_isFull vX10_isFull { frames := 1, cells := 0, slots := 0, locals := 20 } ([.ref (zad g 0), .int a1] : List Value) S r S' := by
  have hY := zOkM hO
  refine Met.ofW (cc := cX10_isFull) (maxL := 2) (ret := (some .boolean)) (by decide) rfl ?_
  intro p e s m args below meth c s₁ B hml hv
  obtain ⟨rfl, hP⟩ := hv
  have hx := B.exec
  have hb := B.bytes
  have hr := B.returns
  have hts := atoms_spec (ws := vX10_isFull) B.pre
  have hT : ∀ w ∈ zTB, w.before ([.ref (zad g 0), .int a1] : List Value).toArray s = true := fun w h => hts w (List.mem_cons_of_mem _ h)
  have hown : s.vm.findClass RX10 = some m.cls := findClass_of_methodNamed B.named
  have hlocks := B.notSynchronized
  have P0 := hP.2
  have Z : zZ (zYM g) S s s.heap [] := ⟨hP.1, va_S.rf⟩
  have hf : ∀ w ∈ u_ws RX10 TX10 67, w.before ([.ref (zad g 0), .int a1] : List Value).toArray s = true := fun w hw => hT w (mU_X10 w hw)
  have L277 := hT _ mF_X10_277
  have L256 := hT _ mF_X10_256
  have L62 := hT _ mF_X10_62
  have L113 := hT _ mF_X10_113
  have L271 := hT _ mF_X10_271
  have B22 : ∀ (S : zSt), fX10_isFull_22 S = some (r, S') → ∀ (H : Heap) (locs : List Loc), zZ (zYM g) S s H locs → ∀ ls : Array Slot, lv_has ls 2 [(0, .ref (zad g 0))] → W p l e (headSpec vX10_isFull { frames := 1, cells := 0, slots := 0, locals := 20 }).room s m ([.ref (zad g 0), .int a1] : List Value).toArray below meth c H locs 0 0 (MQ below (zQi (zYM g) r S') ([.ref (zad g 0), .int a1] : List Value).toArray s 0 0 (zYM g).2.2.1) (F0 m 22 ls []) := by
    intro S h H locs Z ls hl
    unfold fX10_isFull_22 at h
    refine lv_aload_n hx hb dX10_isFull_22 rfl (lv_at hl 0 rfl) ?_
    refine zgX10_48 (v := (zI S 18)) hx hb hf hown P0 Z L271 rfl dX10_isFull_23 ?_
    refine lv_sipush (v := (nI 600)) hx hb dX10_isFull_26 (by decide) ?_
    refine lv_icmp_ne (tgt := 36) hx hb dX10_isFull_29 (by decide) (fun q => ?_) (fun q => ?_)
    · have h := zi_f q h
      refine lv_iconst (v := (nI 0)) hx hb dX10_isFull_36 (by decide) ?_
      exact zr_z hY P0 hx hb hr hlocks (by decide) h Z dX10_isFull_37
    · have h := zi_t q h
      refine lv_iconst (v := (nI 1)) hx hb dX10_isFull_32 (by decide) ?_
      refine lv_goto (tgt := 37) hx hb dX10_isFull_33 (by decide) ?_
      exact zr_z hY P0 hx hb hr hlocks (by decide) h Z dX10_isFull_37
  have hl := lv_entry ([.ref (zad g 0), .int a1] : List Value) (n := 2) (Nat.le_of_ble_eq_true rfl)
  rw [lg_entry_eq]
  generalize (lg_sl ([.ref (zad g 0), .int a1] : List Value) ++ List.replicate (2 - (lg_sl ([.ref (zad g 0), .int a1] : List Value)).length) Slot.unset).toArray = ls at hl ⊢
  have hl : lv_has ls 2 [(0, .ref (zad g 0)), (1, .int a1)] := hl
  unfold fX10_isFull at h
  refine lv_aload_n hx hb dX10_isFull_0 rfl (lv_at hl 0 rfl) ?_
  refine zgX10_52 (v := (zI S 20)) hx hb hf hown P0 Z L277 rfl dX10_isFull_1 ?_
  refine lv_sipush (v := (nI 5000)) hx hb dX10_isFull_4 (by decide) ?_
  refine lv_icmp_ne (tgt := 12) hx hb dX10_isFull_7 (by decide) (fun q => ?_) (fun q => ?_)
  · have h := zi_f q h
    refine lv_iload_n hx hb dX10_isFull_12 rfl (lv_at hl 1 rfl) ?_
    refine lv_iconst (v := (nI 1)) hx hb dX10_isFull_13 (by decide) ?_
    refine lv_icmp_eq (tgt := 22) hx hb dX10_isFull_14 (by decide) (fun q => ?_) (fun q => ?_)
    · have h := zi_t q h
      exact B22 S h _ _ Z ls (lv_sub hl [0] rfl)
    · have h := zi_f q h
      refine lv_iload_n hx hb dX10_isFull_17 rfl (lv_at hl 1 rfl) ?_
      refine lv_iconst (v := (nI 3)) hx hb dX10_isFull_18 (by decide) ?_
      refine lv_icmp_ne (tgt := 38) hx hb dX10_isFull_19 (by decide) (fun q => ?_) (fun q => ?_)
      · have h := zi_f q h
        refine lv_iload_n hx hb dX10_isFull_38 rfl (lv_at hl 1 rfl) ?_
        refine lv_iconst (v := (nI 2)) hx hb dX10_isFull_39 (by decide) ?_
        refine lv_icmp_ne (tgt := 72) hx hb dX10_isFull_40 (by decide) (fun q => ?_) (fun q => ?_)
        · have h := zi_f q h
          refine lv_iconst (v := (nI 0)) hx hb dX10_isFull_72 (by decide) ?_
          exact zr_z hY P0 hx hb hr hlocks (by decide) h Z dX10_isFull_73
        · have h := zi_t q h
          refine lv_aload_n hx hb dX10_isFull_43 rfl (lv_at hl 0 rfl) ?_
          refine zgX10_43 (v := (zI S 15)) hx hb hf hown P0 Z L256 rfl dX10_isFull_44 ?_
          refine lv_aload_n hx hb dX10_isFull_47 rfl (lv_at hl 0 rfl) ?_
          refine zgX10_17 hx hb hf hown P0 Z L62 dX10_isFull_48 ?_
          refine lv_aload_n hx hb dX10_isFull_51 rfl (lv_at hl 0 rfl) ?_
          refine zgX10_40 hx hb hf hown P0 Z L113 dX10_isFull_52 ?_
          refine lv_aload_n hx hb dX10_isFull_55 rfl (lv_at hl 0 rfl) ?_
          obtain ⟨r1, S2, ec, h⟩ := zbd_s h
          refine zc_Vi hY P0 ⟨hx, hb, hml, hown, hT⟩ (As := []) (rest := [.ref (zad g 25), .ref (zad g 8), .int (zI S 15)]) (kX10_topNode l hO  S r1 S2 ec) (cwV 0 hT (zgV mL_X10_311 mI_X10_topNode mS_X10_topNode mN_X10 mC_X10_topNode) rfl rfl rfl hdnX10_topNode ⟨Nat.le_of_ble_eq_true rfl, Nat.le_of_ble_eq_true rfl⟩) (zrecM_0 P0 Z) Z rfl hl.1 rfl (Nat.le_of_ble_eq_true rfl) dX10_isFull_56 (fun H locs Z => ?_)
          obtain ⟨v3, ev, hin, h⟩ := zld_s h
          refine zlM_25 hx hb P0 Z ev hin dX10_isFull_59 ?_
          obtain ⟨v4, ev, hin, h⟩ := zld_s h
          refine zlM_8 hx hb P0 Z ev hin dX10_isFull_60 ?_
          refine lv_iadd hx hb dX10_isFull_61 ?_
          refine lv_sipush (v := (nI 400)) hx hb dX10_isFull_62 (by decide) ?_
          refine lv_icmp_le (tgt := 72) hx hb dX10_isFull_65 (by decide) (fun q => ?_) (fun q => ?_)
          · have h := zi_t q h
            refine lv_iconst (v := (nI 0)) hx hb dX10_isFull_72 (by decide) ?_
            exact zr_z hY P0 hx hb hr hlocks (by decide) h Z dX10_isFull_73
          · have h := zi_f q h
            refine lv_iconst (v := (nI 1)) hx hb dX10_isFull_68 (by decide) ?_
            refine lv_goto (tgt := 73) hx hb dX10_isFull_69 (by decide) ?_
            exact zr_z hY P0 hx hb hr hlocks (by decide) h Z dX10_isFull_73
      · have h := zi_t q h
        exact B22 S h _ _ Z ls (lv_sub hl [0] rfl)
  · have h := zi_t q h
    refine lv_iconst (v := (nI 1)) hx hb dX10_isFull_10 (by decide) ?_
    exact zr_z hY P0 hx hb hr hlocks (by decide) h Z dX10_isFull_11

set_option maxHeartbeats 4000000 in
set_option maxRecDepth 100000 in
theorem kX10_become {g : zG} (l : Launch) (hO : zinjM g) (a1 : Int32) (a2 : Int32) (a3 : Int32) (a4 : Int32) (S : zSt) (r : Unit) (S' : zSt) (h : fX10_become a1 a2 a3 a4 S = some (r, S')) : zMv (zYM g) l yX10_become vX10_become { frames := 0, cells := 0, slots := 0, locals := 0 } ([.ref (zad g 0), .int a1, .int a2, .int a3, .int a4] : List Value) S S' := by
  have hY := zOkM hO
  refine Met.ofW (cc := cX10_become) (maxL := 5) (ret := none) (by decide) rfl ?_
  intro p e s m args below meth c s₁ B hml hv
  obtain ⟨rfl, hP⟩ := hv
  have hx := B.exec
  have hb := B.bytes
  have hr := B.returns
  have hts := atoms_spec (ws := vX10_become) B.pre
  have hT : ∀ w ∈ zTB, w.before ([.ref (zad g 0), .int a1, .int a2, .int a3, .int a4] : List Value).toArray s = true := fun w h => hts w (List.mem_cons_of_mem _ h)
  have hown : s.vm.findClass RX10 = some m.cls := findClass_of_methodNamed B.named
  have hlocks := B.notSynchronized
  have P0 := hP.2
  have Z : zZ (zYM g) S s s.heap [] := ⟨hP.1, va_S.rf⟩
  have hf : ∀ w ∈ u_ws RX10 TX10 67, w.before ([.ref (zad g 0), .int a1, .int a2, .int a3, .int a4] : List Value).toArray s = true := fun w hw => hT w (mU_X10 w hw)
  have L110 := hT _ mF_X10_110
  have L113 := hT _ mF_X10_113
  have L116 := hT _ mF_X10_116
  have hl := lv_entry ([.ref (zad g 0), .int a1, .int a2, .int a3, .int a4] : List Value) (n := 5) (Nat.le_of_ble_eq_true rfl)
  rw [lg_entry_eq]
  generalize (lg_sl ([.ref (zad g 0), .int a1, .int a2, .int a3, .int a4] : List Value) ++ List.replicate (5 - (lg_sl ([.ref (zad g 0), .int a1, .int a2, .int a3, .int a4] : List Value)).length) Slot.unset).toArray = ls at hl ⊢
  have hl : lv_has ls 5 [(0, .ref (zad g 0)), (1, .int a1), (2, .int a2), (3, .int a3), (4, .int a4)] := hl
  unfold fX10_become at h
  refine lv_aload_n hx hb dX10_become_0 rfl (lv_at hl 0 rfl) ?_
  refine zgX10_39 hx hb hf hown P0 Z L110 dX10_become_1 ?_
  refine lv_iload_n hx hb dX10_become_4 rfl (lv_at hl 1 rfl) ?_
  refine lv_iload_n hx hb dX10_become_5 rfl (lv_at hl 2 rfl) ?_
  obtain ⟨hin, h⟩ := zck_s h
  refine zsM_24 hO hx hb P0 Z hin dX10_become_6 (fun H locs Z => ?_)
  refine lv_aload_n hx hb dX10_become_7 rfl (lv_at hl 0 rfl) ?_
  refine zgX10_40 hx hb hf hown P0 Z L113 dX10_become_8 ?_
  refine lv_iload_n hx hb dX10_become_11 rfl (lv_at hl 1 rfl) ?_
  refine lv_iload_n hx hb dX10_become_12 rfl (lv_at hl 3 rfl) ?_
  obtain ⟨hin, h⟩ := zck_s h
  refine zsM_25 hO hx hb P0 Z hin dX10_become_13 (fun H locs Z => ?_)
  refine lv_aload_n hx hb dX10_become_14 rfl (lv_at hl 0 rfl) ?_
  refine zgX10_41 hx hb hf hown P0 Z L116 dX10_become_15 ?_
  refine lv_iload_n hx hb dX10_become_18 rfl (lv_at hl 1 rfl) ?_
  refine lv_iload hx hb dX10_become_19 (lv_at hl 4 rfl) ?_
  obtain ⟨hin, h⟩ := zck_s h
  refine zsM_26 hO hx hb P0 Z hin dX10_become_21 (fun H locs Z => ?_)
  exact zr_v hY P0 hx hb hr hlocks h Z dX10_become_22

set_option maxHeartbeats 4000000 in
set_option maxRecDepth 100000 in
theorem kX10_build {g : zG} (l : Launch) (hO : zinjM g) (a1 : Int32) (S : zSt) (r : Unit) (S' : zSt) (h : fX10_build a1 S = some (r, S')) : zMv (zYM g) l yX10_build vX10_build { frames := 1, cells := 0, slots := 0, locals := 25 } ([.ref (zad g 0), .int a1] : List Value) S S' := by
  have hY := zOkM hO
  refine Met.ofW (cc := cX10_build) (maxL := 8) (ret := none) (by decide) rfl ?_
  intro p e s m args below meth c s₁ B hml hv
  obtain ⟨rfl, hP⟩ := hv
  have hx := B.exec
  have hb := B.bytes
  have hr := B.returns
  have hts := atoms_spec (ws := vX10_build) B.pre
  have hT : ∀ w ∈ zTB, w.before ([.ref (zad g 0), .int a1] : List Value).toArray s = true := fun w h => hts w (List.mem_cons_of_mem _ h)
  have hown : s.vm.findClass RX10 = some m.cls := findClass_of_methodNamed B.named
  have hlocks := B.notSynchronized
  have P0 := hP.2
  have Z : zZ (zYM g) S s s.heap [] := ⟨hP.1, va_S.rf⟩
  have hf : ∀ w ∈ u_ws RX10 TX10 67, w.before ([.ref (zad g 0), .int a1] : List Value).toArray s = true := fun w hw => hT w (mU_X10 w hw)
  have L50 := hT _ mF_X10_50
  have L122 := hT _ mF_X10_122
  have L56 := hT _ mF_X10_56
  have L59 := hT _ mF_X10_59
  have L128 := hT _ mF_X10_128
  have L271 := hT _ mF_X10_271
  have L137 := hT _ mF_X10_137
  have L68 := hT _ mF_X10_68
  have L65 := hT _ mF_X10_65
  have L113 := hT _ mF_X10_113
  have L140 := hT _ mF_X10_140
  have L243 := hT _ mF_X10_243
  have L104 := hT _ mF_X10_104
  have B236 : ∀ (k27 : Int32 × Int32 × Int32 × Int32 × zSt → Option (Unit × zSt)) (K27 : (∀ (x1 : Int32) (x2 : Int32) (x3 : Int32) (x4 : Int32) (S : zSt), k27 (x1, x2, x3, x4, S) = some (r, S') → ∀ (H : Heap) (locs : List Loc), zZ (zYM g) S s H locs → ∀ ls : Array Slot, lv_has ls 8 [(0, .ref (zad g 0)), (1, .int x1), (2, .int x2), (3, .int x3), (4, .int x4)] → W p l e (headSpec vX10_build { frames := 1, cells := 0, slots := 0, locals := 25 }).room s m ([.ref (zad g 0), .int a1] : List Value).toArray below meth c H locs 0 0 (MQ below (zQv (zYM g) S') ([.ref (zad g 0), .int a1] : List Value).toArray s 0 0 (zYM g).2.2.1) (F0 m 27 ls []))) (n : Nat) (x1 : Int32) (x2 : Int32) (x3 : Int32) (x4 : Int32) (x5 : Int32) (x6 : Int32) (x7 : Int32) (S : zSt), fX10_build_236L k27 n (x1, x2, x3, x4, x5, x6, x7, S) = some (r, S') → ∀ (H : Heap) (locs : List Loc), zZ (zYM g) S s H locs → ∀ ls : Array Slot, lv_has ls 8 [(0, .ref (zad g 0)), (1, .int x1), (2, .int x2), (3, .int x3), (4, .int x4), (5, .int x5), (6, .int x6), (7, .int x7)] → W p l e (headSpec vX10_build { frames := 1, cells := 0, slots := 0, locals := 25 }).room s m ([.ref (zad g 0), .int a1] : List Value).toArray below meth c H locs 0 0 (MQ below (zQv (zYM g) S') ([.ref (zad g 0), .int a1] : List Value).toArray s 0 0 (zYM g).2.2.1) (F0 m 236 ls []) := by
    intro k27 K27 n
    induction n with
    | zero => intro x1 x2 x3 x4 x5 x6 x7 S h; exact absurd h (fun h => nomatch h)
    | succ n K236 =>
      intro x1 x2 x3 x4 x5 x6 x7 S h H locs Z ls hl
      have h : fX10_build_236 k27 (fX10_build_236L k27 n) x1 x2 x3 x4 x5 x6 x7 S = some (r, S') := h
      unfold fX10_build_236 at h
      refine lv_iload hx hb dX10_build_236 (lv_at hl 7 rfl) ?_
      refine lv_iload hx hb dX10_build_238 (lv_at hl 5 rfl) ?_
      refine lv_icmp_ge (tgt := 268) hx hb dX10_build_240 (by decide) (fun q => ?_) (fun q => ?_)
      · have h := zi_t q h
        refine lv_aload_n hx hb dX10_build_268 rfl (lv_at hl 0 rfl) ?_
        refine zgX10_59 hx hb hf hown P0 Z L137 dX10_build_269 ?_
        refine lv_iload_n hx hb dX10_build_272 rfl (lv_at hl 2 rfl) ?_
        refine lv_iload hx hb dX10_build_273 (lv_at hl 6 rfl) ?_
        obtain ⟨hin, h⟩ := zck_s h
        refine zsM_33 hO hx hb P0 Z hin dX10_build_275 (fun H locs Z => ?_)
        refine lv_iinc (v := (x2 + (nI 1))) (lv' := [(2, .int (x2 + (nI 1))), (0, .ref (zad g 0)), (1, .int x1), (3, .int x3), (4, .int x4), (5, .int x5), (6, .int x6), (7, .int x7)]) hx hb dX10_build_276 hl (k := 2) rfl rfl (by decide) rfl (fun ls hl => ?_)
        refine lv_goto (tgt := 372) hx hb dX10_build_279 (by decide) ?_
        refine lv_iinc (v := (x4 + (nI 1))) (lv' := [(4, .int (x4 + (nI 1))), (2, .int (x2 + (nI 1))), (0, .ref (zad g 0)), (1, .int x1), (3, .int x3), (5, .int x5), (6, .int x6), (7, .int x7)]) hx hb dX10_build_372 hl (k := 4) rfl rfl (by decide) rfl (fun ls hl => ?_)
        refine lv_goto (tgt := 27) hx hb dX10_build_375 (by decide) ?_
        exact K27 x1 (x2 + (nI 1)) x3 (x4 + (nI 1)) (wA S 33 (x2.toNatClampNeg) x6) h _ _ Z ls (lv_sub hl [2, 3, 1, 4, 0] rfl)
      · have h := zi_f q h
        refine lv_aload_n hx hb dX10_build_243 rfl (lv_at hl 0 rfl) ?_
        refine lv_iconst (v := (nI 1)) hx hb dX10_build_244 (by decide) ?_
        refine lv_iload hx hb dX10_build_245 (lv_at hl 6 rfl) ?_
        refine lv_aload_n hx hb dX10_build_247 rfl (lv_at hl 0 rfl) ?_
        refine zgX10_59 hx hb hf hown P0 Z L137 dX10_build_248 ?_
        refine lv_iload_n hx hb dX10_build_251 rfl (lv_at hl 2 rfl) ?_
        refine lv_iload hx hb dX10_build_252 (lv_at hl 7 rfl) ?_
        refine lv_iadd hx hb dX10_build_254 ?_
        obtain ⟨v31, ev, hin, h⟩ := zld_s h
        refine zlM_33 hx hb P0 Z ev hin dX10_build_255 ?_
        refine lv_iload_n hx hb dX10_build_256 rfl (lv_at hl 1 rfl) ?_
        obtain ⟨r32, S33, ec, h⟩ := zbd_s h
        refine zc_Vi hY P0 ⟨hx, hb, hml, hown, hT⟩ (As := [.int (nI 1), .int x6, .int v31, .int x1]) (rest := []) (kX10_node l hO (nI 1) x6 v31 x1 S r32 S33 ec) (cwV 4 hT (zgV mL_X10_265 mI_X10_node mS_X10_node mN_X10 mC_X10_node) rfl rfl rfl hdnX10_node ⟨Nat.le_of_ble_eq_true rfl, Nat.le_of_ble_eq_true rfl⟩) (zrecM_0 P0 Z) Z rfl hl.1 rfl (Nat.le_of_ble_eq_true rfl) dX10_build_257 (fun H locs Z => ?_)
        refine lv_istore (lv' := [(6, .int r32), (0, .ref (zad g 0)), (1, .int x1), (2, .int x2), (3, .int x3), (4, .int x4), (5, .int x5), (7, .int x7)]) hx hb dX10_build_260 hl (by decide) rfl (fun ls hl => ?_)
        refine lv_iinc (v := (x7 + (nI 1))) (lv' := [(7, .int (x7 + (nI 1))), (6, .int r32), (0, .ref (zad g 0)), (1, .int x1), (2, .int x2), (3, .int x3), (4, .int x4), (5, .int x5)]) hx hb dX10_build_262 hl (k := 7) rfl rfl (by decide) rfl (fun ls hl => ?_)
        refine lv_goto (tgt := 236) hx hb dX10_build_265 (by decide) ?_
        exact K236 x1 x2 x3 x4 x5 r32 (x7 + (nI 1)) S33 h _ _ Z ls (lv_sub hl [2, 3, 4, 5, 6, 7, 1, 0] rfl)
  have B285 : ∀ (k27 : Int32 × Int32 × Int32 × Int32 × zSt → Option (Unit × zSt)) (K27 : (∀ (x1 : Int32) (x2 : Int32) (x3 : Int32) (x4 : Int32) (S : zSt), k27 (x1, x2, x3, x4, S) = some (r, S') → ∀ (H : Heap) (locs : List Loc), zZ (zYM g) S s H locs → ∀ ls : Array Slot, lv_has ls 8 [(0, .ref (zad g 0)), (1, .int x1), (2, .int x2), (3, .int x3), (4, .int x4)] → W p l e (headSpec vX10_build { frames := 1, cells := 0, slots := 0, locals := 25 }).room s m ([.ref (zad g 0), .int a1] : List Value).toArray below meth c H locs 0 0 (MQ below (zQv (zYM g) S') ([.ref (zad g 0), .int a1] : List Value).toArray s 0 0 (zYM g).2.2.1) (F0 m 27 ls []))) (n : Nat) (x1 : Int32) (x2 : Int32) (x3 : Int32) (x4 : Int32) (x5 : Int32) (x7 : Int32) (S : zSt), fX10_build_285L k27 n (x1, x2, x3, x4, x5, x7, S) = some (r, S') → ∀ (H : Heap) (locs : List Loc), zZ (zYM g) S s H locs → ∀ ls : Array Slot, lv_has ls 8 [(0, .ref (zad g 0)), (1, .int x1), (2, .int x2), (3, .int x3), (4, .int x4), (5, .int x5), (7, .int x7)] → W p l e (headSpec vX10_build { frames := 1, cells := 0, slots := 0, locals := 25 }).room s m ([.ref (zad g 0), .int a1] : List Value).toArray below meth c H locs 0 0 (MQ below (zQv (zYM g) S') ([.ref (zad g 0), .int a1] : List Value).toArray s 0 0 (zYM g).2.2.1) (F0 m 285 ls []) := by
    intro k27 K27 n
    induction n with
    | zero => intro x1 x2 x3 x4 x5 x7 S h; exact absurd h (fun h => nomatch h)
    | succ n K285 =>
      intro x1 x2 x3 x4 x5 x7 S h H locs Z ls hl
      have h : fX10_build_285 k27 (fX10_build_285L k27 n) x1 x2 x3 x4 x5 x7 S = some (r, S') := h
      unfold fX10_build_285 at h
      refine lv_iload hx hb dX10_build_285 (lv_at hl 6 rfl) ?_
      refine lv_aload_n hx hb dX10_build_287 rfl (lv_at hl 0 rfl) ?_
      refine zgX10_27 (v := (zI S 11)) hx hb hf hown P0 Z L243 rfl dX10_build_288 ?_
      refine lv_icmp_ge (tgt := 348) hx hb dX10_build_291 (by decide) (fun q => ?_) (fun q => ?_)
      · have h := zi_t q h
        refine lv_goto (tgt := 372) hx hb dX10_build_348 (by decide) ?_
        refine lv_iinc (v := (x4 + (nI 1))) (lv' := [(4, .int (x4 + (nI 1))), (0, .ref (zad g 0)), (1, .int x1), (2, .int x2), (3, .int x3), (5, .int x5), (7, .int x7)]) hx hb dX10_build_372 hl (k := 4) rfl rfl (by decide) rfl (fun ls hl => ?_)
        refine lv_goto (tgt := 27) hx hb dX10_build_375 (by decide) ?_
        exact K27 x1 x2 x3 (x4 + (nI 1)) S h _ _ Z ls (lv_sub hl [1, 2, 3, 4, 0] rfl)
      · have h := zi_f q h
        refine lv_aload_n hx hb dX10_build_294 rfl (lv_at hl 0 rfl) ?_
        refine zgX10_37 hx hb hf hown P0 Z L104 dX10_build_295 ?_
        refine lv_iload hx hb dX10_build_298 (lv_at hl 6 rfl) ?_
        obtain ⟨v26, ev, hin, h⟩ := zld_s h
        refine zlM_22 hx hb P0 Z ev hin dX10_build_300 ?_
        refine lv_iload hx hb dX10_build_301 (lv_at hl 5 rfl) ?_
        refine lv_icmp_ne (tgt := 342) hx hb dX10_build_303 (by decide) (fun q => ?_) (fun q => ?_)
        · have h := zi_f q h
          refine lv_iinc (v := (x7 + (nI 1))) (lv' := [(7, .int (x7 + (nI 1))), (0, .ref (zad g 0)), (1, .int x1), (2, .int x2), (3, .int x3), (4, .int x4), (5, .int x5)]) hx hb dX10_build_342 hl (k := 6) rfl rfl (by decide) rfl (fun ls hl => ?_)
          refine lv_goto (tgt := 285) hx hb dX10_build_345 (by decide) ?_
          exact K285 x1 x2 x3 x4 x5 (x7 + (nI 1)) S h _ _ Z ls (lv_sub hl [1, 2, 3, 4, 5, 6, 0] rfl)
        · have h := zi_t q h
          refine lv_aload_n hx hb dX10_build_306 rfl (lv_at hl 0 rfl) ?_
          refine zgX10_60 hx hb hf hown P0 Z L140 dX10_build_307 ?_
          refine lv_iload hx hb dX10_build_310 (lv_at hl 6 rfl) ?_
          refine lv_aload_n hx hb dX10_build_312 rfl (lv_at hl 0 rfl) ?_
          refine lv_bipush (v := (nI 6)) hx hb dX10_build_313 (by decide) ?_
          refine lv_iconst (v := (nI 0)) hx hb dX10_build_315 (by decide) ?_
          refine lv_bipush (v := (-3 : Int32)) hx hb dX10_build_316 (by decide) ?_
          refine lv_iload_n hx hb dX10_build_318 rfl (lv_at hl 1 rfl) ?_
          obtain ⟨r27, S28, ec, h⟩ := zbd_s h
          refine zc_Vi hY P0 ⟨hx, hb, hml, hown, hT⟩ (As := [.int (nI 6), .int (nI 0), .int (-3 : Int32), .int x1]) (rest := [.int x7, .ref (zad g 34)]) (kX10_node l hO (nI 6) (nI 0) (-3 : Int32) x1 S r27 S28 ec) (cwV 4 hT (zgV mL_X10_265 mI_X10_node mS_X10_node mN_X10 mC_X10_node) rfl rfl rfl hdnX10_node ⟨Nat.le_of_ble_eq_true rfl, Nat.le_of_ble_eq_true rfl⟩) (zrecM_0 P0 Z) Z rfl hl.1 rfl (Nat.le_of_ble_eq_true rfl) dX10_build_319 (fun H locs Z => ?_)
          obtain ⟨hin, h⟩ := zck_s h
          refine zsM_34 hO hx hb P0 Z hin dX10_build_322 (fun H locs Z => ?_)
          refine lv_aload_n hx hb dX10_build_323 rfl (lv_at hl 0 rfl) ?_
          refine zgX10_40 hx hb hf hown P0 Z L113 dX10_build_324 ?_
          refine lv_aload_n hx hb dX10_build_327 rfl (lv_at hl 0 rfl) ?_
          refine zgX10_60 hx hb hf hown P0 Z L140 dX10_build_328 ?_
          refine lv_iload hx hb dX10_build_331 (lv_at hl 6 rfl) ?_
          obtain ⟨v29, ev, hin, h⟩ := zld_s h
          refine zlM_34 hx hb P0 Z ev hin dX10_build_333 ?_
          refine lv_aload_n hx hb dX10_build_334 rfl (lv_at hl 0 rfl) ?_
          refine zgX10_60 hx hb hf hown P0 Z L140 dX10_build_335 ?_
          refine lv_iload hx hb dX10_build_338 (lv_at hl 6 rfl) ?_
          obtain ⟨v30, ev, hin, h⟩ := zld_s h
          refine zlM_34 hx hb P0 Z ev hin dX10_build_340 ?_
          obtain ⟨hin, h⟩ := zck_s h
          refine zsM_25 hO hx hb P0 Z hin dX10_build_341 (fun H locs Z => ?_)
          refine lv_iinc (v := (x7 + (nI 1))) (lv' := [(7, .int (x7 + (nI 1))), (0, .ref (zad g 0)), (1, .int x1), (2, .int x2), (3, .int x3), (4, .int x4), (5, .int x5)]) hx hb dX10_build_342 hl (k := 6) rfl rfl (by decide) rfl (fun ls hl => ?_)
          refine lv_goto (tgt := 285) hx hb dX10_build_345 (by decide) ?_
          exact K285 x1 x2 x3 x4 x5 (x7 + (nI 1)) (wA (wA S28 34 (x7.toNatClampNeg) r27) 25 (v29.toNatClampNeg) v30) h _ _ Z ls (lv_sub hl [1, 2, 3, 4, 5, 6, 0] rfl)
  have B27 : ∀ (n : Nat) (x1 : Int32) (x2 : Int32) (x3 : Int32) (x4 : Int32) (S : zSt), fX10_build_27L n (x1, x2, x3, x4, S) = some (r, S') → ∀ (H : Heap) (locs : List Loc), zZ (zYM g) S s H locs → ∀ ls : Array Slot, lv_has ls 8 [(0, .ref (zad g 0)), (1, .int x1), (2, .int x2), (3, .int x3), (4, .int x4)] → W p l e (headSpec vX10_build { frames := 1, cells := 0, slots := 0, locals := 25 }).room s m ([.ref (zad g 0), .int a1] : List Value).toArray below meth c H locs 0 0 (MQ below (zQv (zYM g) S') ([.ref (zad g 0), .int a1] : List Value).toArray s 0 0 (zYM g).2.2.1) (F0 m 27 ls []) := by
    intro n
    induction n with
    | zero => intro x1 x2 x3 x4 S h; exact absurd h (fun h => nomatch h)
    | succ n K27 =>
      intro x1 x2 x3 x4 S h H locs Z ls hl
      have h : fX10_build_27 (fX10_build_27L n) x1 x2 x3 x4 S = some (r, S') := h
      unfold fX10_build_27 at h
      refine lv_iload hx hb dX10_build_27 (lv_at hl 4 rfl) ?_
      refine lv_aload_n hx hb dX10_build_29 rfl (lv_at hl 0 rfl) ?_
      refine zgX10_16 hx hb hf hown P0 Z L59 dX10_build_30 ?_
      refine lv_iload_n hx hb dX10_build_33 rfl (lv_at hl 1 rfl) ?_
      obtain ⟨v4, ev, hin, h⟩ := zld_s h
      refine zlM_7 hx hb P0 Z ev hin dX10_build_34 ?_
      refine lv_icmp_ge (tgt := 378) hx hb dX10_build_35 (by decide) (fun q => ?_) (fun q => ?_)
      · have h := zi_t q h
        refine lv_aload_n hx hb dX10_build_378 rfl (lv_at hl 0 rfl) ?_
        refine zgX10_49 hx hb hf hown P0 Z L128 dX10_build_379 ?_
        refine lv_aload_n hx hb dX10_build_382 rfl (lv_at hl 0 rfl) ?_
        refine zgX10_48 (v := (zI S 18)) hx hb hf hown P0 Z L271 rfl dX10_build_383 ?_
        refine lv_iconst (v := (nI 1)) hx hb dX10_build_386 (by decide) ?_
        refine lv_isub hx hb dX10_build_387 ?_
        refine lv_iload_n hx hb dX10_build_388 rfl (lv_at hl 3 rfl) ?_
        refine lv_isub hx hb dX10_build_389 ?_
        obtain ⟨v5, ev, hin, h⟩ := zld_s h
        refine zlM_30 hx hb P0 Z ev hin dX10_build_390 ?_
        refine lv_istore (lv' := [(4, .int v5), (0, .ref (zad g 0)), (1, .int x1), (2, .int x2), (3, .int x3)]) hx hb dX10_build_391 hl (by decide) rfl (fun ls hl => ?_)
        refine lv_aload_n hx hb dX10_build_393 rfl (lv_at hl 1 rfl) ?_
        refine lv_iload hx hb dX10_build_394 (lv_at hl 0 rfl) ?_
        refine lv_bipush (v := (nI 6)) hx hb dX10_build_396 (by decide) ?_
        refine lv_aload_n hx hb dX10_build_398 rfl (lv_at hl 1 rfl) ?_
        refine zgX10_59 hx hb hf hown P0 Z L137 dX10_build_399 ?_
        refine lv_iconst (v := (nI 0)) hx hb dX10_build_402 (by decide) ?_
        obtain ⟨v6, ev, hin, h⟩ := zld_s h
        refine zlM_33 hx hb P0 Z ev hin dX10_build_403 ?_
        refine lv_bipush (v := (-3 : Int32)) hx hb dX10_build_404 (by decide) ?_
        obtain ⟨r7, S8, ec, h⟩ := zbd_s h
        refine zc_Vv hY P0 ⟨hx, hb, hml, hown, hT⟩ (As := [.int v5, .int (nI 6), .int v6, .int (-3 : Int32)]) (rest := []) (kX10_become l hO v5 (nI 6) v6 (-3 : Int32) S r7 S8 ec) (cwV 4 hT (zgV mL_X10_345 mI_X10_become mS_X10_become mN_X10 mC_X10_become) rfl rfl rfl hdnX10_become ⟨Nat.le_of_ble_eq_true rfl, Nat.le_of_ble_eq_true rfl⟩) (zrecM_0 P0 Z) Z rfl hl.1 rfl (Nat.le_of_ble_eq_true rfl) dX10_build_406 (fun H locs Z => ?_)
        refine lv_aload_n hx hb dX10_build_409 rfl (lv_at hl 1 rfl) ?_
        refine lv_dup hx hb dX10_build_410 rfl ?_
        refine zgX10_48 (v := (zI S8 18)) hx hb hf hown P0 Z L271 rfl dX10_build_411 ?_
        refine lv_iload_n hx hb dX10_build_414 rfl (lv_at hl 4 rfl) ?_
        refine lv_isub hx hb dX10_build_415 ?_
        refine zpX10_48 hO hx hb hf hown P0 Z L271 dX10_build_416 (fun H locs Z => ?_)
        refine lv_aload_n hx hb dX10_build_419 rfl (lv_at hl 1 rfl) ?_
        refine zgX10_49 hx hb hf hown P0 Z L128 dX10_build_420 ?_
        refine lv_aload_n hx hb dX10_build_423 rfl (lv_at hl 1 rfl) ?_
        refine zgX10_48 (v := ((zI S8 18) - x3)) hx hb hf hown P0 Z L271 rfl dX10_build_424 ?_
        refine lv_iconst (v := (nI 1)) hx hb dX10_build_427 (by decide) ?_
        refine lv_isub hx hb dX10_build_428 ?_
        refine lv_aload_n hx hb dX10_build_429 rfl (lv_at hl 1 rfl) ?_
        refine zgX10_59 hx hb hf hown P0 Z L137 dX10_build_430 ?_
        refine lv_iconst (v := (nI 0)) hx hb dX10_build_433 (by decide) ?_
        obtain ⟨v9, ev, hin, h⟩ := zld_s h
        refine zlM_33 hx hb P0 Z ev hin dX10_build_434 ?_
        obtain ⟨hin, h⟩ := zck_s h
        refine zsM_30 hO hx hb P0 Z hin dX10_build_435 (fun H locs Z => ?_)
        exact zr_v hY P0 hx hb hr hlocks h Z dX10_build_436
      · have h := zi_f q h
        refine lv_aload_n hx hb dX10_build_38 rfl (lv_at hl 0 rfl) ?_
        refine zgX10_20 hx hb hf hown P0 Z L68 dX10_build_39 ?_
        refine lv_iload hx hb dX10_build_42 (lv_at hl 4 rfl) ?_
        obtain ⟨v10, ev, hin, h⟩ := zld_s h
        refine zlM_10 hx hb P0 Z ev hin dX10_build_44 ?_
        refine lv_istore (lv' := [(5, .int v10), (0, .ref (zad g 0)), (1, .int x1), (2, .int x2), (3, .int x3), (4, .int x4)]) hx hb dX10_build_45 hl (by decide) rfl (fun ls hl => ?_)
        refine lv_aload_n hx hb dX10_build_47 rfl (lv_at hl 1 rfl) ?_
        refine zgX10_19 hx hb hf hown P0 Z L65 dX10_build_48 ?_
        refine lv_iload hx hb dX10_build_51 (lv_at hl 5 rfl) ?_
        obtain ⟨v11, ev, hin, h⟩ := zld_s h
        refine zlM_9 hx hb P0 Z ev hin dX10_build_53 ?_
        by_cases q1 : v11 = (nI 1)
        · have h := zi_t q1 h
          refine ztbl (off := 50) (tgt := 104) hx hb q1 dX10_build_54 (by decide) (by decide) (by decide) (by decide) ?_
          refine lv_aload_n hx hb dX10_build_104 rfl (lv_at hl 1 rfl) ?_
          refine zgX10_59 hx hb hf hown P0 Z L137 dX10_build_105 ?_
          refine lv_iload_n hx hb dX10_build_108 rfl (lv_at hl 3 rfl) ?_
          refine lv_aload_n hx hb dX10_build_109 rfl (lv_at hl 1 rfl) ?_
          refine lv_iconst (v := (nI 0)) hx hb dX10_build_110 (by decide) ?_
          refine lv_iload hx hb dX10_build_111 (lv_at hl 0 rfl) ?_
          refine lv_bipush (v := (-3 : Int32)) hx hb dX10_build_113 (by decide) ?_
          refine lv_iload_n hx hb dX10_build_115 rfl (lv_at hl 2 rfl) ?_
          obtain ⟨r12, S13, ec, h⟩ := zbd_s h
          refine zc_Vi hY P0 ⟨hx, hb, hml, hown, hT⟩ (As := [.int (nI 0), .int v10, .int (-3 : Int32), .int x1]) (rest := [.int x2, .ref (zad g 33)]) (kX10_node l hO (nI 0) v10 (-3 : Int32) x1 S r12 S13 ec) (cwV 4 hT (zgV mL_X10_265 mI_X10_node mS_X10_node mN_X10 mC_X10_node) rfl rfl rfl hdnX10_node ⟨Nat.le_of_ble_eq_true rfl, Nat.le_of_ble_eq_true rfl⟩) (zrecM_0 P0 Z) Z rfl hl.1 rfl (Nat.le_of_ble_eq_true rfl) dX10_build_116 (fun H locs Z => ?_)
          obtain ⟨hin, h⟩ := zck_s h
          refine zsM_33 hO hx hb P0 Z hin dX10_build_119 (fun H locs Z => ?_)
          refine lv_iinc (v := (x2 + (nI 1))) (lv' := [(2, .int (x2 + (nI 1))), (5, .int v10), (0, .ref (zad g 0)), (1, .int x1), (3, .int x3), (4, .int x4)]) hx hb dX10_build_120 hl (k := 3) rfl rfl (by decide) rfl (fun ls hl => ?_)
          refine lv_goto (tgt := 372) hx hb dX10_build_123 (by decide) ?_
          refine lv_iinc (v := (x4 + (nI 1))) (lv' := [(4, .int (x4 + (nI 1))), (2, .int (x2 + (nI 1))), (5, .int v10), (0, .ref (zad g 0)), (1, .int x1), (3, .int x3)]) hx hb dX10_build_372 hl (k := 5) rfl rfl (by decide) rfl (fun ls hl => ?_)
          refine lv_goto (tgt := 27) hx hb dX10_build_375 (by decide) ?_
          exact K27 x1 (x2 + (nI 1)) x3 (x4 + (nI 1)) (wA S13 33 (x2.toNatClampNeg) r12) h _ _ Z ls (lv_sub hl [3, 4, 1, 5, 0] rfl)
        have h := zi_f q1 h
        by_cases q2 : v11 = (nI 2)
        · have h := zi_t q2 h
          refine ztbl (off := 72) (tgt := 126) hx hb q2 dX10_build_54 (by decide) (by decide) (by decide) (by decide) ?_
          refine lv_aload_n hx hb dX10_build_126 rfl (lv_at hl 1 rfl) ?_
          refine zgX10_59 hx hb hf hown P0 Z L137 dX10_build_127 ?_
          refine lv_iload_n hx hb dX10_build_130 rfl (lv_at hl 3 rfl) ?_
          refine lv_aload_n hx hb dX10_build_131 rfl (lv_at hl 1 rfl) ?_
          refine lv_iconst (v := (nI 5)) hx hb dX10_build_132 (by decide) ?_
          refine lv_iconst (v := (nI 0)) hx hb dX10_build_133 (by decide) ?_
          refine lv_bipush (v := (-3 : Int32)) hx hb dX10_build_134 (by decide) ?_
          refine lv_iload_n hx hb dX10_build_136 rfl (lv_at hl 2 rfl) ?_
          obtain ⟨r14, S15, ec, h⟩ := zbd_s h
          refine zc_Vi hY P0 ⟨hx, hb, hml, hown, hT⟩ (As := [.int (nI 5), .int (nI 0), .int (-3 : Int32), .int x1]) (rest := [.int x2, .ref (zad g 33)]) (kX10_node l hO (nI 5) (nI 0) (-3 : Int32) x1 S r14 S15 ec) (cwV 4 hT (zgV mL_X10_265 mI_X10_node mS_X10_node mN_X10 mC_X10_node) rfl rfl rfl hdnX10_node ⟨Nat.le_of_ble_eq_true rfl, Nat.le_of_ble_eq_true rfl⟩) (zrecM_0 P0 Z) Z rfl hl.1 rfl (Nat.le_of_ble_eq_true rfl) dX10_build_137 (fun H locs Z => ?_)
          obtain ⟨hin, h⟩ := zck_s h
          refine zsM_33 hO hx hb P0 Z hin dX10_build_140 (fun H locs Z => ?_)
          refine lv_iinc (v := (x2 + (nI 1))) (lv' := [(2, .int (x2 + (nI 1))), (5, .int v10), (0, .ref (zad g 0)), (1, .int x1), (3, .int x3), (4, .int x4)]) hx hb dX10_build_141 hl (k := 3) rfl rfl (by decide) rfl (fun ls hl => ?_)
          refine lv_goto (tgt := 372) hx hb dX10_build_144 (by decide) ?_
          refine lv_iinc (v := (x4 + (nI 1))) (lv' := [(4, .int (x4 + (nI 1))), (2, .int (x2 + (nI 1))), (5, .int v10), (0, .ref (zad g 0)), (1, .int x1), (3, .int x3)]) hx hb dX10_build_372 hl (k := 5) rfl rfl (by decide) rfl (fun ls hl => ?_)
          refine lv_goto (tgt := 27) hx hb dX10_build_375 (by decide) ?_
          exact K27 x1 (x2 + (nI 1)) x3 (x4 + (nI 1)) (wA S15 33 (x2.toNatClampNeg) r14) h _ _ Z ls (lv_sub hl [3, 4, 1, 5, 0] rfl)
        have h := zi_f q2 h
        by_cases q3 : v11 = (nI 3)
        · have h := zi_t q3 h
          refine ztbl (off := 93) (tgt := 147) hx hb q3 dX10_build_54 (by decide) (by decide) (by decide) (by decide) ?_
          refine lv_aload_n hx hb dX10_build_147 rfl (lv_at hl 1 rfl) ?_
          refine zgX10_59 hx hb hf hown P0 Z L137 dX10_build_148 ?_
          refine lv_iload_n hx hb dX10_build_151 rfl (lv_at hl 3 rfl) ?_
          refine lv_aload_n hx hb dX10_build_152 rfl (lv_at hl 1 rfl) ?_
          refine lv_iconst (v := (nI 3)) hx hb dX10_build_153 (by decide) ?_
          refine lv_iload hx hb dX10_build_154 (lv_at hl 0 rfl) ?_
          refine lv_bipush (v := (-3 : Int32)) hx hb dX10_build_156 (by decide) ?_
          refine lv_iload_n hx hb dX10_build_158 rfl (lv_at hl 2 rfl) ?_
          obtain ⟨r16, S17, ec, h⟩ := zbd_s h
          refine zc_Vi hY P0 ⟨hx, hb, hml, hown, hT⟩ (As := [.int (nI 3), .int v10, .int (-3 : Int32), .int x1]) (rest := [.int x2, .ref (zad g 33)]) (kX10_node l hO (nI 3) v10 (-3 : Int32) x1 S r16 S17 ec) (cwV 4 hT (zgV mL_X10_265 mI_X10_node mS_X10_node mN_X10 mC_X10_node) rfl rfl rfl hdnX10_node ⟨Nat.le_of_ble_eq_true rfl, Nat.le_of_ble_eq_true rfl⟩) (zrecM_0 P0 Z) Z rfl hl.1 rfl (Nat.le_of_ble_eq_true rfl) dX10_build_159 (fun H locs Z => ?_)
          obtain ⟨hin, h⟩ := zck_s h
          refine zsM_33 hO hx hb P0 Z hin dX10_build_162 (fun H locs Z => ?_)
          refine lv_iinc (v := (x2 + (nI 1))) (lv' := [(2, .int (x2 + (nI 1))), (5, .int v10), (0, .ref (zad g 0)), (1, .int x1), (3, .int x3), (4, .int x4)]) hx hb dX10_build_163 hl (k := 3) rfl rfl (by decide) rfl (fun ls hl => ?_)
          refine lv_goto (tgt := 372) hx hb dX10_build_166 (by decide) ?_
          refine lv_iinc (v := (x4 + (nI 1))) (lv' := [(4, .int (x4 + (nI 1))), (2, .int (x2 + (nI 1))), (5, .int v10), (0, .ref (zad g 0)), (1, .int x1), (3, .int x3)]) hx hb dX10_build_372 hl (k := 5) rfl rfl (by decide) rfl (fun ls hl => ?_)
          refine lv_goto (tgt := 27) hx hb dX10_build_375 (by decide) ?_
          exact K27 x1 (x2 + (nI 1)) x3 (x4 + (nI 1)) (wA S17 33 (x2.toNatClampNeg) r16) h _ _ Z ls (lv_sub hl [3, 4, 1, 5, 0] rfl)
        have h := zi_f q3 h
        by_cases q5 : v11 = (nI 5)
        · have h := zi_t q5 h
          refine ztbl (off := 115) (tgt := 169) hx hb q5 dX10_build_54 (by decide) (by decide) (by decide) (by decide) ?_
          refine lv_aload_n hx hb dX10_build_169 rfl (lv_at hl 1 rfl) ?_
          refine zgX10_59 hx hb hf hown P0 Z L137 dX10_build_170 ?_
          refine lv_iload_n hx hb dX10_build_173 rfl (lv_at hl 3 rfl) ?_
          refine lv_iload hx hb dX10_build_174 (lv_at hl 0 rfl) ?_
          obtain ⟨hin, h⟩ := zck_s h
          refine zsM_33 hO hx hb P0 Z hin dX10_build_176 (fun H locs Z => ?_)
          refine lv_iinc (v := (x2 + (nI 1))) (lv' := [(2, .int (x2 + (nI 1))), (5, .int v10), (0, .ref (zad g 0)), (1, .int x1), (3, .int x3), (4, .int x4)]) hx hb dX10_build_177 hl (k := 3) rfl rfl (by decide) rfl (fun ls hl => ?_)
          refine lv_goto (tgt := 372) hx hb dX10_build_180 (by decide) ?_
          refine lv_iinc (v := (x4 + (nI 1))) (lv' := [(4, .int (x4 + (nI 1))), (2, .int (x2 + (nI 1))), (5, .int v10), (0, .ref (zad g 0)), (1, .int x1), (3, .int x3)]) hx hb dX10_build_372 hl (k := 5) rfl rfl (by decide) rfl (fun ls hl => ?_)
          refine lv_goto (tgt := 27) hx hb dX10_build_375 (by decide) ?_
          exact K27 x1 (x2 + (nI 1)) x3 (x4 + (nI 1)) (wA S 33 (x2.toNatClampNeg) v10) h _ _ Z ls (lv_sub hl [3, 4, 1, 5, 0] rfl)
        have h := zi_f q5 h
        by_cases q6 : v11 = (nI 6)
        · have h := zi_t q6 h
          refine ztbl (off := 129) (tgt := 183) hx hb q6 dX10_build_54 (by decide) (by decide) (by decide) (by decide) ?_
          refine lv_aload_n hx hb dX10_build_183 rfl (lv_at hl 1 rfl) ?_
          refine zgX10_59 hx hb hf hown P0 Z L137 dX10_build_184 ?_
          refine lv_iload_n hx hb dX10_build_187 rfl (lv_at hl 3 rfl) ?_
          refine lv_aload_n hx hb dX10_build_188 rfl (lv_at hl 1 rfl) ?_
          refine lv_iload hx hb dX10_build_189 (lv_at hl 0 rfl) ?_
          obtain ⟨r20, S21, ec, h⟩ := zbd_s h
          refine zc_Vi hY P0 ⟨hx, hb, hml, hown, hT⟩ (As := [.int v10]) (rest := [.int x2, .ref (zad g 33)]) (kX10_thing l hO v10 S r20 S21 ec) (cwV 1 hT (zgV mL_X10_327 mI_X10_thing mS_X10_thing mN_X10 mC_X10_thing) rfl rfl rfl hdnX10_thing ⟨Nat.le_of_ble_eq_true rfl, Nat.le_of_ble_eq_true rfl⟩) (zrecM_0 P0 Z) Z rfl hl.1 rfl (Nat.le_of_ble_eq_true rfl) dX10_build_191 (fun H locs Z => ?_)
          obtain ⟨hin, h⟩ := zck_s h
          refine zsM_33 hO hx hb P0 Z hin dX10_build_194 (fun H locs Z => ?_)
          refine lv_iinc (v := (x2 + (nI 1))) (lv' := [(2, .int (x2 + (nI 1))), (5, .int v10), (0, .ref (zad g 0)), (1, .int x1), (3, .int x3), (4, .int x4)]) hx hb dX10_build_195 hl (k := 3) rfl rfl (by decide) rfl (fun ls hl => ?_)
          refine lv_goto (tgt := 372) hx hb dX10_build_198 (by decide) ?_
          refine lv_iinc (v := (x4 + (nI 1))) (lv' := [(4, .int (x4 + (nI 1))), (2, .int (x2 + (nI 1))), (5, .int v10), (0, .ref (zad g 0)), (1, .int x1), (3, .int x3)]) hx hb dX10_build_372 hl (k := 5) rfl rfl (by decide) rfl (fun ls hl => ?_)
          refine lv_goto (tgt := 27) hx hb dX10_build_375 (by decide) ?_
          exact K27 x1 (x2 + (nI 1)) x3 (x4 + (nI 1)) (wA S21 33 (x2.toNatClampNeg) r20) h _ _ Z ls (lv_sub hl [3, 4, 1, 5, 0] rfl)
        have h := zi_f q6 h
        by_cases q7 : v11 = (nI 7)
        · have h := zi_t q7 h
          refine ztbl (off := 147) (tgt := 201) hx hb q7 dX10_build_54 (by decide) (by decide) (by decide) (by decide) ?_
          refine lv_aload_n hx hb dX10_build_201 rfl (lv_at hl 1 rfl) ?_
          refine zgX10_59 hx hb hf hown P0 Z L137 dX10_build_202 ?_
          refine lv_iload_n hx hb dX10_build_205 rfl (lv_at hl 3 rfl) ?_
          refine lv_aload_n hx hb dX10_build_206 rfl (lv_at hl 1 rfl) ?_
          refine zgX10_60 hx hb hf hown P0 Z L140 dX10_build_207 ?_
          refine lv_iload hx hb dX10_build_210 (lv_at hl 0 rfl) ?_
          obtain ⟨v22, ev, hin, h⟩ := zld_s h
          refine zlM_34 hx hb P0 Z ev hin dX10_build_212 ?_
          obtain ⟨hin, h⟩ := zck_s h
          refine zsM_33 hO hx hb P0 Z hin dX10_build_213 (fun H locs Z => ?_)
          refine lv_iinc (v := (x2 + (nI 1))) (lv' := [(2, .int (x2 + (nI 1))), (5, .int v10), (0, .ref (zad g 0)), (1, .int x1), (3, .int x3), (4, .int x4)]) hx hb dX10_build_214 hl (k := 3) rfl rfl (by decide) rfl (fun ls hl => ?_)
          refine lv_goto (tgt := 372) hx hb dX10_build_217 (by decide) ?_
          refine lv_iinc (v := (x4 + (nI 1))) (lv' := [(4, .int (x4 + (nI 1))), (2, .int (x2 + (nI 1))), (5, .int v10), (0, .ref (zad g 0)), (1, .int x1), (3, .int x3)]) hx hb dX10_build_372 hl (k := 5) rfl rfl (by decide) rfl (fun ls hl => ?_)
          refine lv_goto (tgt := 27) hx hb dX10_build_375 (by decide) ?_
          exact K27 x1 (x2 + (nI 1)) x3 (x4 + (nI 1)) (wA S 33 (x2.toNatClampNeg) v22) h _ _ Z ls (lv_sub hl [3, 4, 1, 5, 0] rfl)
        have h := zi_f q7 h
        by_cases q8 : v11 = (nI 8)
        · have h := zi_t q8 h
          refine ztbl (off := 166) (tgt := 220) hx hb q8 dX10_build_54 (by decide) (by decide) (by decide) (by decide) ?_
          refine lv_iload_n hx hb dX10_build_220 rfl (lv_at hl 3 rfl) ?_
          refine lv_iload hx hb dX10_build_221 (lv_at hl 0 rfl) ?_
          refine lv_isub hx hb dX10_build_223 ?_
          refine lv_istore_n (lv' := [(2, .int (x2 - v10)), (5, .int v10), (0, .ref (zad g 0)), (1, .int x1), (3, .int x3), (4, .int x4)]) hx hb dX10_build_224 rfl hl (by decide) rfl (fun ls hl => ?_)
          refine lv_aload_n hx hb dX10_build_225 rfl (lv_at hl 2 rfl) ?_
          refine zgX10_59 hx hb hf hown P0 Z L137 dX10_build_226 ?_
          refine lv_iload_n hx hb dX10_build_229 rfl (lv_at hl 0 rfl) ?_
          obtain ⟨v23, ev, hin, h⟩ := zld_s h
          refine zlM_33 hx hb P0 Z ev hin dX10_build_230 ?_
          refine lv_istore (lv' := [(6, .int v23), (2, .int (x2 - v10)), (5, .int v10), (0, .ref (zad g 0)), (1, .int x1), (3, .int x3), (4, .int x4)]) hx hb dX10_build_231 hl (by decide) rfl (fun ls hl => ?_)
          refine lv_iconst (v := (nI 1)) hx hb dX10_build_233 (by decide) ?_
          refine lv_istore (lv' := [(7, .int (nI 1)), (6, .int v23), (2, .int (x2 - v10)), (5, .int v10), (0, .ref (zad g 0)), (1, .int x1), (3, .int x3), (4, .int x4)]) hx hb dX10_build_234 hl (by decide) rfl (fun ls hl => ?_)
          exact B236 (fX10_build_27L n) K27 zFU x1 (x2 - v10) x3 x4 v10 v23 (nI 1) S h _ _ Z ls (lv_sub hl [4, 5, 2, 6, 7, 3, 1, 0] rfl)
        have h := zi_f q8 h
        by_cases q9 : v11 = (nI 9)
        · have h := zi_t q9 h
          refine ztbl (off := 228) (tgt := 282) hx hb q9 dX10_build_54 (by decide) (by decide) (by decide) (by decide) ?_
          refine lv_iconst (v := (nI 0)) hx hb dX10_build_282 (by decide) ?_
          refine lv_istore (lv' := [(7, .int (nI 0)), (5, .int v10), (0, .ref (zad g 0)), (1, .int x1), (2, .int x2), (3, .int x3), (4, .int x4)]) hx hb dX10_build_283 hl (by decide) rfl (fun ls hl => ?_)
          exact B285 (fX10_build_27L n) K27 zFU x1 x2 x3 x4 v10 (nI 0) S h _ _ Z ls (lv_sub hl [2, 3, 4, 5, 6, 1, 0] rfl)
        have h := zi_f q9 h
        by_cases q4 : v11 = (nI 4)
        · refine ztbl (off := 297) (tgt := 351) hx hb q4 dX10_build_54 (by decide) (by decide) (by decide) (by decide) ?_
          refine lv_iinc (v := (x2 + (-1 : Int32))) (lv' := [(2, .int (x2 + (-1 : Int32))), (5, .int v10), (0, .ref (zad g 0)), (1, .int x1), (3, .int x3), (4, .int x4)]) hx hb dX10_build_351 hl (k := 3) rfl rfl (by decide) rfl (fun ls hl => ?_)
          refine lv_aload_n hx hb dX10_build_354 rfl (lv_at hl 2 rfl) ?_
          refine zgX10_40 hx hb hf hown P0 Z L113 dX10_build_355 ?_
          refine lv_aload_n hx hb dX10_build_358 rfl (lv_at hl 2 rfl) ?_
          refine zgX10_60 hx hb hf hown P0 Z L140 dX10_build_359 ?_
          refine lv_iload hx hb dX10_build_362 (lv_at hl 1 rfl) ?_
          obtain ⟨v18, ev, hin, h⟩ := zld_s h
          refine zlM_34 hx hb P0 Z ev hin dX10_build_364 ?_
          refine lv_aload_n hx hb dX10_build_365 rfl (lv_at hl 2 rfl) ?_
          refine zgX10_59 hx hb hf hown P0 Z L137 dX10_build_366 ?_
          refine lv_iload_n hx hb dX10_build_369 rfl (lv_at hl 0 rfl) ?_
          obtain ⟨v19, ev, hin, h⟩ := zld_s h
          refine zlM_33 hx hb P0 Z ev hin dX10_build_370 ?_
          obtain ⟨hin, h⟩ := zck_s h
          refine zsM_25 hO hx hb P0 Z hin dX10_build_371 (fun H locs Z => ?_)
          refine lv_iinc (v := (x4 + (nI 1))) (lv' := [(4, .int (x4 + (nI 1))), (2, .int (x2 + (-1 : Int32))), (5, .int v10), (0, .ref (zad g 0)), (1, .int x1), (3, .int x3)]) hx hb dX10_build_372 hl (k := 5) rfl rfl (by decide) rfl (fun ls hl => ?_)
          refine lv_goto (tgt := 27) hx hb dX10_build_375 (by decide) ?_
          exact K27 x1 (x2 + (-1 : Int32)) x3 (x4 + (nI 1)) (wA S 25 (v18.toNatClampNeg) v19) h _ _ Z ls (lv_sub hl [3, 4, 1, 5, 0] rfl)
        have u1 : ¬ v11.toInt = 1 := lv_neT q1 (by decide)
        have u2 : ¬ v11.toInt = 2 := lv_neT q2 (by decide)
        have u3 : ¬ v11.toInt = 3 := lv_neT q3 (by decide)
        have u4 : ¬ v11.toInt = 4 := lv_neT q4 (by decide)
        have u5 : ¬ v11.toInt = 5 := lv_neT q5 (by decide)
        have u6 : ¬ v11.toInt = 6 := lv_neT q6 (by decide)
        have u7 : ¬ v11.toInt = 7 := lv_neT q7 (by decide)
        have u8 : ¬ v11.toInt = 8 := lv_neT q8 (by decide)
        have u9 : ¬ v11.toInt = 9 := lv_neT q9 (by decide)
        refine lv_tableOut (tgt := 351) hx hb dX10_build_54 (by omega) (by decide) ?_
        refine lv_iinc (v := (x2 + (-1 : Int32))) (lv' := [(2, .int (x2 + (-1 : Int32))), (5, .int v10), (0, .ref (zad g 0)), (1, .int x1), (3, .int x3), (4, .int x4)]) hx hb dX10_build_351 hl (k := 3) rfl rfl (by decide) rfl (fun ls hl => ?_)
        refine lv_aload_n hx hb dX10_build_354 rfl (lv_at hl 2 rfl) ?_
        refine zgX10_40 hx hb hf hown P0 Z L113 dX10_build_355 ?_
        refine lv_aload_n hx hb dX10_build_358 rfl (lv_at hl 2 rfl) ?_
        refine zgX10_60 hx hb hf hown P0 Z L140 dX10_build_359 ?_
        refine lv_iload hx hb dX10_build_362 (lv_at hl 1 rfl) ?_
        obtain ⟨v24, ev, hin, h⟩ := zld_s h
        refine zlM_34 hx hb P0 Z ev hin dX10_build_364 ?_
        refine lv_aload_n hx hb dX10_build_365 rfl (lv_at hl 2 rfl) ?_
        refine zgX10_59 hx hb hf hown P0 Z L137 dX10_build_366 ?_
        refine lv_iload_n hx hb dX10_build_369 rfl (lv_at hl 0 rfl) ?_
        obtain ⟨v25, ev, hin, h⟩ := zld_s h
        refine zlM_33 hx hb P0 Z ev hin dX10_build_370 ?_
        obtain ⟨hin, h⟩ := zck_s h
        refine zsM_25 hO hx hb P0 Z hin dX10_build_371 (fun H locs Z => ?_)
        refine lv_iinc (v := (x4 + (nI 1))) (lv' := [(4, .int (x4 + (nI 1))), (2, .int (x2 + (-1 : Int32))), (5, .int v10), (0, .ref (zad g 0)), (1, .int x1), (3, .int x3)]) hx hb dX10_build_372 hl (k := 5) rfl rfl (by decide) rfl (fun ls hl => ?_)
        refine lv_goto (tgt := 27) hx hb dX10_build_375 (by decide) ?_
        exact K27 x1 (x2 + (-1 : Int32)) x3 (x4 + (nI 1)) (wA S 25 (v24.toNatClampNeg) v25) h _ _ Z ls (lv_sub hl [3, 4, 1, 5, 0] rfl)
  have hl := lv_entry ([.ref (zad g 0), .int a1] : List Value) (n := 8) (Nat.le_of_ble_eq_true rfl)
  rw [lg_entry_eq]
  generalize (lg_sl ([.ref (zad g 0), .int a1] : List Value) ++ List.replicate (8 - (lg_sl ([.ref (zad g 0), .int a1] : List Value)).length) Slot.unset).toArray = ls at hl ⊢
  have hl : lv_has ls 8 [(0, .ref (zad g 0)), (1, .int a1)] := hl
  unfold fX10_build at h
  refine lv_iconst (v := (nI 0)) hx hb dX10_build_0 (by decide) ?_
  refine lv_istore_n (lv' := [(2, .int (nI 0)), (0, .ref (zad g 0)), (1, .int a1)]) hx hb dX10_build_1 rfl hl (by decide) rfl (fun ls hl => ?_)
  refine lv_aload_n hx hb dX10_build_2 rfl (lv_at hl 1 rfl) ?_
  refine zgX10_13 hx hb hf hown P0 Z L50 dX10_build_3 ?_
  refine lv_iload_n hx hb dX10_build_6 rfl (lv_at hl 2 rfl) ?_
  obtain ⟨v1, ev, hin, h⟩ := zld_s h
  refine zlM_4 hx hb P0 Z ev hin dX10_build_7 ?_
  refine lv_istore_n (lv' := [(3, .int v1), (2, .int (nI 0)), (0, .ref (zad g 0)), (1, .int a1)]) hx hb dX10_build_8 rfl hl (by decide) rfl (fun ls hl => ?_)
  refine lv_aload_n hx hb dX10_build_9 rfl (lv_at hl 2 rfl) ?_
  refine zgX10_46 hx hb hf hown P0 Z L122 dX10_build_10 ?_
  refine lv_iload_n hx hb dX10_build_13 rfl (lv_at hl 3 rfl) ?_
  refine lv_dup2_11 hx hb dX10_build_14 rfl rfl ?_
  obtain ⟨v2, ev, hin, h⟩ := zld_s h
  refine zlM_28 hx hb P0 Z ev hin dX10_build_15 ?_
  refine lv_iconst (v := (nI 1)) hx hb dX10_build_16 (by decide) ?_
  refine lv_iadd hx hb dX10_build_17 ?_
  obtain ⟨hin, h⟩ := zck_s h
  refine zsM_28 hO hx hb P0 Z hin dX10_build_18 (fun H locs Z => ?_)
  refine lv_aload_n hx hb dX10_build_19 rfl (lv_at hl 2 rfl) ?_
  refine zgX10_15 hx hb hf hown P0 Z L56 dX10_build_20 ?_
  refine lv_iload_n hx hb dX10_build_23 rfl (lv_at hl 3 rfl) ?_
  obtain ⟨v3, ev, hin, h⟩ := zld_s h
  refine zlM_6 hx hb P0 Z ev hin dX10_build_24 ?_
  refine lv_istore (lv' := [(4, .int v3), (3, .int v1), (2, .int (nI 0)), (0, .ref (zad g 0)), (1, .int a1)]) hx hb dX10_build_25 hl (by decide) rfl (fun ls hl => ?_)
  exact B27 zFU a1 (nI 0) v1 v3 (wA S 28 (a1.toNatClampNeg) (v2 + (nI 1))) h _ _ Z ls (lv_sub hl [3, 4, 2, 1, 0] rfl)

set_option maxHeartbeats 4000000 in
set_option maxRecDepth 100000 in
theorem kX10_compute {g : zG} (l : Launch) (hO : zinjM g) (a1 : Int32) (S : zSt) (r : Unit) (S' : zSt) (h : fX10_compute a1 S = some (r, S')) : zMv (zYM g) l yX10_compute vX10_compute { frames := 1, cells := 0, slots := 0, locals := 24 } ([.ref (zad g 0), .int a1] : List Value) S S' := by
  have hY := zOkM hO
  refine Met.ofW (cc := cX10_compute) (maxL := 9) (ret := none) (by decide) rfl ?_
  intro p e s m args below meth c s₁ B hml hv
  obtain ⟨rfl, hP⟩ := hv
  have hx := B.exec
  have hb := B.bytes
  have hr := B.returns
  have hts := atoms_spec (ws := vX10_compute) B.pre
  have hT : ∀ w ∈ zTB, w.before ([.ref (zad g 0), .int a1] : List Value).toArray s = true := fun w h => hts w (List.mem_cons_of_mem _ h)
  have hown : s.vm.findClass RX10 = some m.cls := findClass_of_methodNamed B.named
  have hlocks := B.notSynchronized
  have P0 := hP.2
  have Z : zZ (zYM g) S s s.heap [] := ⟨hP.1, va_S.rf⟩
  have hf : ∀ w ∈ u_ws RX10 TX10 67, w.before ([.ref (zad g 0), .int a1] : List Value).toArray s = true := fun w hw => hT w (mU_X10 w hw)
  have L128 := hT _ mF_X10_128
  have L271 := hT _ mF_X10_271
  have L113 := hT _ mF_X10_113
  have L116 := hT _ mF_X10_116
  have L110 := hT _ mF_X10_110
  have B415 : ∀ (x2 : Int32) (x6 : Int32) (S : zSt), fX10_compute_415 x2 x6 S = some (r, S') → ∀ (H : Heap) (locs : List Loc), zZ (zYM g) S s H locs → ∀ ls : Array Slot, lv_has ls 9 [(0, .ref (zad g 0)), (2, .int x2), (6, .int x6)] → W p l e (headSpec vX10_compute { frames := 1, cells := 0, slots := 0, locals := 24 }).room s m ([.ref (zad g 0), .int a1] : List Value).toArray below meth c H locs 0 0 (MQ below (zQv (zYM g) S') ([.ref (zad g 0), .int a1] : List Value).toArray s 0 0 (zYM g).2.2.1) (F0 m 415 ls []) := by
    intro x2 x6 S h H locs Z ls hl
    unfold fX10_compute_415 at h
    refine lv_aload_n hx hb dX10_compute_415 rfl (lv_at hl 0 rfl) ?_
    refine lv_dup hx hb dX10_compute_416 rfl ?_
    refine zgX10_48 (v := (zI S 18)) hx hb hf hown P0 Z L271 rfl dX10_compute_417 ?_
    refine lv_iload_n hx hb dX10_compute_420 rfl (lv_at hl 1 rfl) ?_
    refine lv_isub hx hb dX10_compute_421 ?_
    refine zpX10_48 hO hx hb hf hown P0 Z L271 dX10_compute_422 (fun H locs Z => ?_)
    refine lv_aload_n hx hb dX10_compute_425 rfl (lv_at hl 0 rfl) ?_
    refine zgX10_49 hx hb hf hown P0 Z L128 dX10_compute_426 ?_
    refine lv_aload_n hx hb dX10_compute_429 rfl (lv_at hl 0 rfl) ?_
    refine zgX10_48 (v := ((zI S 18) - x2)) hx hb hf hown P0 Z L271 rfl dX10_compute_430 ?_
    refine lv_iconst (v := (nI 1)) hx hb dX10_compute_433 (by decide) ?_
    refine lv_isub hx hb dX10_compute_434 ?_
    refine lv_iload hx hb dX10_compute_435 (lv_at hl 2 rfl) ?_
    obtain ⟨hin, h⟩ := zck_s h
    refine zsM_30 hO hx hb P0 Z hin dX10_compute_437 (fun H locs Z => ?_)
    exact zr_v hY P0 hx hb hr hlocks h Z dX10_compute_438
  have B272 : ∀ (x2 : Int32) (x6 : Int32) (y0 : Int32) (y1 : Int32) (y2 : Int32) (S : zSt), fX10_compute_272 x2 x6 y0 y1 y2 S = some (r, S') → ∀ (H : Heap) (locs : List Loc), zZ (zYM g) S s H locs → ∀ ls : Array Slot, lv_has ls 9 [(0, .ref (zad g 0)), (2, .int x2), (6, .int x6)] → W p l e (headSpec vX10_compute { frames := 1, cells := 0, slots := 0, locals := 24 }).room s m ([.ref (zad g 0), .int a1] : List Value).toArray below meth c H locs 0 0 (MQ below (zQv (zYM g) S') ([.ref (zad g 0), .int a1] : List Value).toArray s 0 0 (zYM g).2.2.1) (F0 m 272 ls [.int y0, .int y1, .int y2, .ref (zad g 0)]) := by
    intro x2 x6 y0 y1 y2 S h H locs Z ls hl
    unfold fX10_compute_272 at h
    refine lv_bipush (v := (-3 : Int32)) hx hb dX10_compute_272 (by decide) ?_
    obtain ⟨r46, S47, ec, h⟩ := zbd_s h
    refine zc_Vv hY P0 ⟨hx, hb, hml, hown, hT⟩ (As := [.int y2, .int y1, .int y0, .int (-3 : Int32)]) (rest := []) (kX10_become l hO y2 y1 y0 (-3 : Int32) S r46 S47 ec) (cwV 4 hT (zgV mL_X10_345 mI_X10_become mS_X10_become mN_X10 mC_X10_become) rfl rfl rfl hdnX10_become ⟨Nat.le_of_ble_eq_true rfl, Nat.le_of_ble_eq_true rfl⟩) (zrecM_0 P0 Z) Z rfl hl.1 rfl (Nat.le_of_ble_eq_true rfl) dX10_compute_274 (fun H locs Z => ?_)
    refine lv_goto (tgt := 415) hx hb dX10_compute_277 (by decide) ?_
    exact B415 x2 x6 S47 h _ _ Z ls (lv_sub hl [0, 1, 2] rfl)
  have B296 : ∀ (x2 : Int32) (x6 : Int32) (y0 : Int32) (y1 : Int32) (y2 : Int32) (S : zSt), fX10_compute_296 x2 x6 y0 y1 y2 S = some (r, S') → ∀ (H : Heap) (locs : List Loc), zZ (zYM g) S s H locs → ∀ ls : Array Slot, lv_has ls 9 [(0, .ref (zad g 0)), (2, .int x2), (6, .int x6)] → W p l e (headSpec vX10_compute { frames := 1, cells := 0, slots := 0, locals := 24 }).room s m ([.ref (zad g 0), .int a1] : List Value).toArray below meth c H locs 0 0 (MQ below (zQv (zYM g) S') ([.ref (zad g 0), .int a1] : List Value).toArray s 0 0 (zYM g).2.2.1) (F0 m 296 ls [.int y0, .int y1, .int y2, .ref (zad g 0)]) := by
    intro x2 x6 y0 y1 y2 S h H locs Z ls hl
    unfold fX10_compute_296 at h
    refine lv_bipush (v := (-3 : Int32)) hx hb dX10_compute_296 (by decide) ?_
    obtain ⟨r44, S45, ec, h⟩ := zbd_s h
    refine zc_Vv hY P0 ⟨hx, hb, hml, hown, hT⟩ (As := [.int y2, .int y1, .int y0, .int (-3 : Int32)]) (rest := []) (kX10_become l hO y2 y1 y0 (-3 : Int32) S r44 S45 ec) (cwV 4 hT (zgV mL_X10_345 mI_X10_become mS_X10_become mN_X10 mC_X10_become) rfl rfl rfl hdnX10_become ⟨Nat.le_of_ble_eq_true rfl, Nat.le_of_ble_eq_true rfl⟩) (zrecM_0 P0 Z) Z rfl hl.1 rfl (Nat.le_of_ble_eq_true rfl) dX10_compute_298 (fun H locs Z => ?_)
    refine lv_goto (tgt := 415) hx hb dX10_compute_301 (by decide) ?_
    exact B415 x2 x6 S45 h _ _ Z ls (lv_sub hl [0, 1, 2] rfl)
  have B321 : ∀ (x2 : Int32) (x6 : Int32) (y0 : Int32) (y1 : Int32) (y2 : Int32) (S : zSt), fX10_compute_321 x2 x6 y0 y1 y2 S = some (r, S') → ∀ (H : Heap) (locs : List Loc), zZ (zYM g) S s H locs → ∀ ls : Array Slot, lv_has ls 9 [(0, .ref (zad g 0)), (2, .int x2), (6, .int x6)] → W p l e (headSpec vX10_compute { frames := 1, cells := 0, slots := 0, locals := 24 }).room s m ([.ref (zad g 0), .int a1] : List Value).toArray below meth c H locs 0 0 (MQ below (zQv (zYM g) S') ([.ref (zad g 0), .int a1] : List Value).toArray s 0 0 (zYM g).2.2.1) (F0 m 321 ls [.int y0, .int y1, .int y2, .ref (zad g 0)]) := by
    intro x2 x6 y0 y1 y2 S h H locs Z ls hl
    unfold fX10_compute_321 at h
    refine lv_bipush (v := (-3 : Int32)) hx hb dX10_compute_321 (by decide) ?_
    obtain ⟨r42, S43, ec, h⟩ := zbd_s h
    refine zc_Vv hY P0 ⟨hx, hb, hml, hown, hT⟩ (As := [.int y2, .int y1, .int y0, .int (-3 : Int32)]) (rest := []) (kX10_become l hO y2 y1 y0 (-3 : Int32) S r42 S43 ec) (cwV 4 hT (zgV mL_X10_345 mI_X10_become mS_X10_become mN_X10 mC_X10_become) rfl rfl rfl hdnX10_become ⟨Nat.le_of_ble_eq_true rfl, Nat.le_of_ble_eq_true rfl⟩) (zrecM_0 P0 Z) Z rfl hl.1 rfl (Nat.le_of_ble_eq_true rfl) dX10_compute_323 (fun H locs Z => ?_)
    refine lv_goto (tgt := 415) hx hb dX10_compute_326 (by decide) ?_
    exact B415 x2 x6 S43 h _ _ Z ls (lv_sub hl [0, 1, 2] rfl)
  have B395 : ∀ (x2 : Int32) (x6 : Int32) (y0 : Int32) (y1 : Int32) (y2 : Int32) (S : zSt), fX10_compute_395 x2 x6 y0 y1 y2 S = some (r, S') → ∀ (H : Heap) (locs : List Loc), zZ (zYM g) S s H locs → ∀ ls : Array Slot, lv_has ls 9 [(0, .ref (zad g 0)), (2, .int x2), (6, .int x6)] → W p l e (headSpec vX10_compute { frames := 1, cells := 0, slots := 0, locals := 24 }).room s m ([.ref (zad g 0), .int a1] : List Value).toArray below meth c H locs 0 0 (MQ below (zQv (zYM g) S') ([.ref (zad g 0), .int a1] : List Value).toArray s 0 0 (zYM g).2.2.1) (F0 m 395 ls [.int y0, .int y1, .int y2, .ref (zad g 0)]) := by
    intro x2 x6 y0 y1 y2 S h H locs Z ls hl
    unfold fX10_compute_395 at h
    refine lv_bipush (v := (-3 : Int32)) hx hb dX10_compute_395 (by decide) ?_
    obtain ⟨r40, S41, ec, h⟩ := zbd_s h
    refine zc_Vv hY P0 ⟨hx, hb, hml, hown, hT⟩ (As := [.int y2, .int y1, .int y0, .int (-3 : Int32)]) (rest := []) (kX10_become l hO y2 y1 y0 (-3 : Int32) S r40 S41 ec) (cwV 4 hT (zgV mL_X10_345 mI_X10_become mS_X10_become mN_X10 mC_X10_become) rfl rfl rfl hdnX10_become ⟨Nat.le_of_ble_eq_true rfl, Nat.le_of_ble_eq_true rfl⟩) (zrecM_0 P0 Z) Z rfl hl.1 rfl (Nat.le_of_ble_eq_true rfl) dX10_compute_397 (fun H locs Z => ?_)
    refine lv_goto (tgt := 415) hx hb dX10_compute_400 (by decide) ?_
    exact B415 x2 x6 S41 h _ _ Z ls (lv_sub hl [0, 1, 2] rfl)
  have B123 : ∀ (x1 : Int32) (x2 : Int32) (x3 : Int32) (x4 : Int32) (x5 : Int32) (x6 : Int32) (x7 : Int32) (y0 : Int32) (S : zSt), fX10_compute_123 x1 x2 x3 x4 x5 x6 x7 y0 S = some (r, S') → ∀ (H : Heap) (locs : List Loc), zZ (zYM g) S s H locs → ∀ ls : Array Slot, lv_has ls 9 [(0, .ref (zad g 0)), (1, .int x1), (2, .int x2), (3, .int x3), (4, .int x4), (5, .int x5), (6, .int x6), (7, .int x7)] → W p l e (headSpec vX10_compute { frames := 1, cells := 0, slots := 0, locals := 24 }).room s m ([.ref (zad g 0), .int a1] : List Value).toArray below meth c H locs 0 0 (MQ below (zQv (zYM g) S') ([.ref (zad g 0), .int a1] : List Value).toArray s 0 0 (zYM g).2.2.1) (F0 m 123 ls [.int y0]) := by
    intro x1 x2 x3 x4 x5 x6 x7 y0 S h H locs Z ls hl
    unfold fX10_compute_123 at h
    refine lv_istore (lv' := [(8, .int y0), (0, .ref (zad g 0)), (1, .int x1), (2, .int x2), (3, .int x3), (4, .int x4), (5, .int x5), (6, .int x6), (7, .int x7)]) hx hb dX10_compute_123 hl (by decide) rfl (fun ls hl => ?_)
    refine lv_iload_n hx hb dX10_compute_125 rfl (lv_at hl 2 rfl) ?_
    by_cases q0 : x1 = (nI 0)
    · have h := zi_t q0 h
      refine ztbl (off := 62) (tgt := 188) hx hb q0 dX10_compute_126 (by decide) (by decide) (by decide) (by decide) ?_
      refine lv_aload_n hx hb dX10_compute_188 rfl (lv_at hl 1 rfl) ?_
      refine lv_iload hx hb dX10_compute_189 (lv_at hl 7 rfl) ?_
      refine lv_iconst (v := (nI 0)) hx hb dX10_compute_191 (by decide) ?_
      refine lv_iload hx hb dX10_compute_192 (lv_at hl 8 rfl) ?_
      refine lv_iload hx hb dX10_compute_194 (lv_at hl 0 rfl) ?_
      refine lv_iadd hx hb dX10_compute_196 ?_
      refine lv_bipush (v := (-3 : Int32)) hx hb dX10_compute_197 (by decide) ?_
      obtain ⟨r20, S21, ec, h⟩ := zbd_s h
      refine zc_Vv hY P0 ⟨hx, hb, hml, hown, hT⟩ (As := [.int x6, .int (nI 0), .int (x7 + y0), .int (-3 : Int32)]) (rest := []) (kX10_become l hO x6 (nI 0) (x7 + y0) (-3 : Int32) S r20 S21 ec) (cwV 4 hT (zgV mL_X10_345 mI_X10_become mS_X10_become mN_X10 mC_X10_become) rfl rfl rfl hdnX10_become ⟨Nat.le_of_ble_eq_true rfl, Nat.le_of_ble_eq_true rfl⟩) (zrecM_0 P0 Z) Z rfl hl.1 rfl (Nat.le_of_ble_eq_true rfl) dX10_compute_199 (fun H locs Z => ?_)
      refine lv_goto (tgt := 415) hx hb dX10_compute_202 (by decide) ?_
      exact B415 x2 x6 S21 h _ _ Z ls (lv_sub hl [1, 3, 7] rfl)
    have h := zi_f q0 h
    by_cases q1 : x1 = (nI 1)
    · have h := zi_t q1 h
      refine ztbl (off := 79) (tgt := 205) hx hb q1 dX10_compute_126 (by decide) (by decide) (by decide) (by decide) ?_
      refine lv_aload_n hx hb dX10_compute_205 rfl (lv_at hl 1 rfl) ?_
      refine lv_iload hx hb dX10_compute_206 (lv_at hl 7 rfl) ?_
      refine lv_iconst (v := (nI 0)) hx hb dX10_compute_208 (by decide) ?_
      refine lv_iload hx hb dX10_compute_209 (lv_at hl 8 rfl) ?_
      refine lv_iload hx hb dX10_compute_211 (lv_at hl 0 rfl) ?_
      refine lv_isub hx hb dX10_compute_213 ?_
      refine lv_bipush (v := (-3 : Int32)) hx hb dX10_compute_214 (by decide) ?_
      obtain ⟨r22, S23, ec, h⟩ := zbd_s h
      refine zc_Vv hY P0 ⟨hx, hb, hml, hown, hT⟩ (As := [.int x6, .int (nI 0), .int (x7 - y0), .int (-3 : Int32)]) (rest := []) (kX10_become l hO x6 (nI 0) (x7 - y0) (-3 : Int32) S r22 S23 ec) (cwV 4 hT (zgV mL_X10_345 mI_X10_become mS_X10_become mN_X10 mC_X10_become) rfl rfl rfl hdnX10_become ⟨Nat.le_of_ble_eq_true rfl, Nat.le_of_ble_eq_true rfl⟩) (zrecM_0 P0 Z) Z rfl hl.1 rfl (Nat.le_of_ble_eq_true rfl) dX10_compute_216 (fun H locs Z => ?_)
      refine lv_goto (tgt := 415) hx hb dX10_compute_219 (by decide) ?_
      exact B415 x2 x6 S23 h _ _ Z ls (lv_sub hl [1, 3, 7] rfl)
    have h := zi_f q1 h
    by_cases q2 : x1 = (nI 2)
    · have h := zi_t q2 h
      refine ztbl (off := 96) (tgt := 222) hx hb q2 dX10_compute_126 (by decide) (by decide) (by decide) (by decide) ?_
      refine lv_aload_n hx hb dX10_compute_222 rfl (lv_at hl 1 rfl) ?_
      refine lv_iload hx hb dX10_compute_223 (lv_at hl 7 rfl) ?_
      refine lv_iconst (v := (nI 0)) hx hb dX10_compute_225 (by decide) ?_
      refine lv_iload hx hb dX10_compute_226 (lv_at hl 8 rfl) ?_
      refine lv_iload hx hb dX10_compute_228 (lv_at hl 0 rfl) ?_
      refine lv_imul hx hb dX10_compute_230 ?_
      refine lv_bipush (v := (-3 : Int32)) hx hb dX10_compute_231 (by decide) ?_
      obtain ⟨r24, S25, ec, h⟩ := zbd_s h
      refine zc_Vv hY P0 ⟨hx, hb, hml, hown, hT⟩ (As := [.int x6, .int (nI 0), .int (x7 * y0), .int (-3 : Int32)]) (rest := []) (kX10_become l hO x6 (nI 0) (x7 * y0) (-3 : Int32) S r24 S25 ec) (cwV 4 hT (zgV mL_X10_345 mI_X10_become mS_X10_become mN_X10 mC_X10_become) rfl rfl rfl hdnX10_become ⟨Nat.le_of_ble_eq_true rfl, Nat.le_of_ble_eq_true rfl⟩) (zrecM_0 P0 Z) Z rfl hl.1 rfl (Nat.le_of_ble_eq_true rfl) dX10_compute_233 (fun H locs Z => ?_)
      refine lv_goto (tgt := 415) hx hb dX10_compute_236 (by decide) ?_
      exact B415 x2 x6 S25 h _ _ Z ls (lv_sub hl [1, 3, 7] rfl)
    have h := zi_f q2 h
    by_cases q3 : x1 = (nI 3)
    · have h := zi_t q3 h
      refine ztbl (off := 113) (tgt := 239) hx hb q3 dX10_compute_126 (by decide) (by decide) (by decide) (by decide) ?_
      refine lv_aload_n hx hb dX10_compute_239 rfl (lv_at hl 1 rfl) ?_
      refine lv_iload hx hb dX10_compute_240 (lv_at hl 7 rfl) ?_
      refine lv_iconst (v := (nI 0)) hx hb dX10_compute_242 (by decide) ?_
      refine lv_iload hx hb dX10_compute_243 (lv_at hl 8 rfl) ?_
      refine lv_iload hx hb dX10_compute_245 (lv_at hl 0 rfl) ?_
      obtain ⟨hn, h⟩ := zdv_s h
      refine lv_idiv hx hb dX10_compute_247 hn ?_
      refine lv_bipush (v := (-3 : Int32)) hx hb dX10_compute_248 (by decide) ?_
      obtain ⟨r26, S27, ec, h⟩ := zbd_s h
      refine zc_Vv hY P0 ⟨hx, hb, hml, hown, hT⟩ (As := [.int x6, .int (nI 0), .int (x7 / y0), .int (-3 : Int32)]) (rest := []) (kX10_become l hO x6 (nI 0) (x7 / y0) (-3 : Int32) S r26 S27 ec) (cwV 4 hT (zgV mL_X10_345 mI_X10_become mS_X10_become mN_X10 mC_X10_become) rfl rfl rfl hdnX10_become ⟨Nat.le_of_ble_eq_true rfl, Nat.le_of_ble_eq_true rfl⟩) (zrecM_0 P0 Z) Z rfl hl.1 rfl (Nat.le_of_ble_eq_true rfl) dX10_compute_250 (fun H locs Z => ?_)
      refine lv_goto (tgt := 415) hx hb dX10_compute_253 (by decide) ?_
      exact B415 x2 x6 S27 h _ _ Z ls (lv_sub hl [1, 3, 7] rfl)
    have h := zi_f q3 h
    by_cases q4 : x1 = (nI 4)
    · have h := zi_t q4 h
      refine ztbl (off := 130) (tgt := 256) hx hb q4 dX10_compute_126 (by decide) (by decide) (by decide) (by decide) ?_
      refine lv_aload_n hx hb dX10_compute_256 rfl (lv_at hl 1 rfl) ?_
      refine lv_iload hx hb dX10_compute_257 (lv_at hl 7 rfl) ?_
      refine lv_iconst (v := (nI 0)) hx hb dX10_compute_259 (by decide) ?_
      refine lv_iload hx hb dX10_compute_260 (lv_at hl 8 rfl) ?_
      refine lv_iload hx hb dX10_compute_262 (lv_at hl 0 rfl) ?_
      refine lv_icmp_ge (tgt := 271) hx hb dX10_compute_264 (by decide) (fun q => ?_) (fun q => ?_)
      · have h := zi_t q h
        refine lv_iconst (v := (nI 0)) hx hb dX10_compute_271 (by decide) ?_
        exact B272 x2 x6 (nI 0) (nI 0) x6 S h _ _ Z ls (lv_sub hl [1, 3, 7] rfl)
      · have h := zi_f q h
        refine lv_iconst (v := (nI 1)) hx hb dX10_compute_267 (by decide) ?_
        refine lv_goto (tgt := 272) hx hb dX10_compute_268 (by decide) ?_
        exact B272 x2 x6 (nI 1) (nI 0) x6 S h _ _ Z ls (lv_sub hl [1, 3, 7] rfl)
    have h := zi_f q4 h
    by_cases q5 : x1 = (nI 5)
    · have h := zi_t q5 h
      refine ztbl (off := 154) (tgt := 280) hx hb q5 dX10_compute_126 (by decide) (by decide) (by decide) (by decide) ?_
      refine lv_aload_n hx hb dX10_compute_280 rfl (lv_at hl 1 rfl) ?_
      refine lv_iload hx hb dX10_compute_281 (lv_at hl 7 rfl) ?_
      refine lv_iconst (v := (nI 0)) hx hb dX10_compute_283 (by decide) ?_
      refine lv_iload hx hb dX10_compute_284 (lv_at hl 8 rfl) ?_
      refine lv_iload hx hb dX10_compute_286 (lv_at hl 0 rfl) ?_
      refine lv_icmp_ne (tgt := 295) hx hb dX10_compute_288 (by decide) (fun q => ?_) (fun q => ?_)
      · have h := zi_f q h
        refine lv_iconst (v := (nI 0)) hx hb dX10_compute_295 (by decide) ?_
        exact B296 x2 x6 (nI 0) (nI 0) x6 S h _ _ Z ls (lv_sub hl [1, 3, 7] rfl)
      · have h := zi_t q h
        refine lv_iconst (v := (nI 1)) hx hb dX10_compute_291 (by decide) ?_
        refine lv_goto (tgt := 296) hx hb dX10_compute_292 (by decide) ?_
        exact B296 x2 x6 (nI 1) (nI 0) x6 S h _ _ Z ls (lv_sub hl [1, 3, 7] rfl)
    have h := zi_f q5 h
    by_cases q6 : x1 = (nI 6)
    · have h := zi_t q6 h
      refine ztbl (off := 178) (tgt := 304) hx hb q6 dX10_compute_126 (by decide) (by decide) (by decide) (by decide) ?_
      refine lv_aload_n hx hb dX10_compute_304 rfl (lv_at hl 1 rfl) ?_
      refine lv_iload hx hb dX10_compute_305 (lv_at hl 7 rfl) ?_
      refine lv_bipush (v := (nI 6)) hx hb dX10_compute_307 (by decide) ?_
      refine lv_iload hx hb dX10_compute_309 (lv_at hl 8 rfl) ?_
      refine lv_if_eq (tgt := 319) hx hb dX10_compute_311 (by decide) (fun q => ?_) (fun q => ?_)
      · have h := zi_t q h
        refine lv_iload hx hb dX10_compute_319 (lv_at hl 6 rfl) ?_
        exact B321 x2 x6 x5 (nI 6) x6 S h _ _ Z ls (lv_sub hl [1, 3, 7] rfl)
      · have h := zi_f q h
        refine lv_iload hx hb dX10_compute_314 (lv_at hl 5 rfl) ?_
        refine lv_goto (tgt := 321) hx hb dX10_compute_316 (by decide) ?_
        exact B321 x2 x6 x4 (nI 6) x6 S h _ _ Z ls (lv_sub hl [1, 3, 7] rfl)
    have h := zi_f q6 h
    by_cases q7 : x1 = (nI 7)
    · have h := zi_t q7 h
      refine ztbl (off := 203) (tgt := 329) hx hb q7 dX10_compute_126 (by decide) (by decide) (by decide) (by decide) ?_
      refine lv_aload_n hx hb dX10_compute_329 rfl (lv_at hl 1 rfl) ?_
      refine lv_iload hx hb dX10_compute_330 (lv_at hl 7 rfl) ?_
      refine lv_iconst (v := (nI 4)) hx hb dX10_compute_332 (by decide) ?_
      refine lv_iload_n hx hb dX10_compute_333 rfl (lv_at hl 4 rfl) ?_
      refine lv_iload hx hb dX10_compute_334 (lv_at hl 5 rfl) ?_
      obtain ⟨r28, S29, ec, h⟩ := zbd_s h
      refine zc_Vv hY P0 ⟨hx, hb, hml, hown, hT⟩ (As := [.int x6, .int (nI 4), .int x3, .int x4]) (rest := []) (kX10_become l hO x6 (nI 4) x3 x4 S r28 S29 ec) (cwV 4 hT (zgV mL_X10_345 mI_X10_become mS_X10_become mN_X10 mC_X10_become) rfl rfl rfl hdnX10_become ⟨Nat.le_of_ble_eq_true rfl, Nat.le_of_ble_eq_true rfl⟩) (zrecM_0 P0 Z) Z rfl hl.1 rfl (Nat.le_of_ble_eq_true rfl) dX10_compute_336 (fun H locs Z => ?_)
      refine lv_goto (tgt := 415) hx hb dX10_compute_339 (by decide) ?_
      exact B415 x2 x6 S29 h _ _ Z ls (lv_sub hl [1, 3, 7] rfl)
    have h := zi_f q7 h
    by_cases q9 : x1 = (nI 9)
    · have h := zi_t q9 h
      refine ztbl (off := 216) (tgt := 342) hx hb q9 dX10_compute_126 (by decide) (by decide) (by decide) (by decide) ?_
      refine lv_aload_n hx hb dX10_compute_342 rfl (lv_at hl 1 rfl) ?_
      refine lv_iload hx hb dX10_compute_343 (lv_at hl 7 rfl) ?_
      refine lv_bipush (v := (nI 6)) hx hb dX10_compute_345 (by decide) ?_
      refine lv_iload hx hb dX10_compute_347 (lv_at hl 8 rfl) ?_
      refine lv_bipush (v := (-3 : Int32)) hx hb dX10_compute_349 (by decide) ?_
      obtain ⟨r32, S33, ec, h⟩ := zbd_s h
      refine zc_Vv hY P0 ⟨hx, hb, hml, hown, hT⟩ (As := [.int x6, .int (nI 6), .int x7, .int (-3 : Int32)]) (rest := []) (kX10_become l hO x6 (nI 6) x7 (-3 : Int32) S r32 S33 ec) (cwV 4 hT (zgV mL_X10_345 mI_X10_become mS_X10_become mN_X10 mC_X10_become) rfl rfl rfl hdnX10_become ⟨Nat.le_of_ble_eq_true rfl, Nat.le_of_ble_eq_true rfl⟩) (zrecM_0 P0 Z) Z rfl hl.1 rfl (Nat.le_of_ble_eq_true rfl) dX10_compute_351 (fun H locs Z => ?_)
      refine lv_goto (tgt := 415) hx hb dX10_compute_354 (by decide) ?_
      exact B415 x2 x6 S33 h _ _ Z ls (lv_sub hl [1, 3, 7] rfl)
    have h := zi_f q9 h
    by_cases q10 : x1 = (nI 10)
    · have h := zi_t q10 h
      refine ztbl (off := 231) (tgt := 357) hx hb q10 dX10_compute_126 (by decide) (by decide) (by decide) (by decide) ?_
      refine lv_aload_n hx hb dX10_compute_357 rfl (lv_at hl 1 rfl) ?_
      refine lv_iload hx hb dX10_compute_358 (lv_at hl 7 rfl) ?_
      refine lv_bipush (v := (nI 6)) hx hb dX10_compute_360 (by decide) ?_
      refine lv_aload_n hx hb dX10_compute_362 rfl (lv_at hl 1 rfl) ?_
      refine zgX10_41 hx hb hf hown P0 Z L116 dX10_compute_363 ?_
      refine lv_iload_n hx hb dX10_compute_366 rfl (lv_at hl 4 rfl) ?_
      obtain ⟨v34, ev, hin, h⟩ := zld_s h
      refine zlM_26 hx hb P0 Z ev hin dX10_compute_367 ?_
      refine lv_bipush (v := (-3 : Int32)) hx hb dX10_compute_368 (by decide) ?_
      obtain ⟨r35, S36, ec, h⟩ := zbd_s h
      refine zc_Vv hY P0 ⟨hx, hb, hml, hown, hT⟩ (As := [.int x6, .int (nI 6), .int v34, .int (-3 : Int32)]) (rest := []) (kX10_become l hO x6 (nI 6) v34 (-3 : Int32) S r35 S36 ec) (cwV 4 hT (zgV mL_X10_345 mI_X10_become mS_X10_become mN_X10 mC_X10_become) rfl rfl rfl hdnX10_become ⟨Nat.le_of_ble_eq_true rfl, Nat.le_of_ble_eq_true rfl⟩) (zrecM_0 P0 Z) Z rfl hl.1 rfl (Nat.le_of_ble_eq_true rfl) dX10_compute_370 (fun H locs Z => ?_)
      refine lv_goto (tgt := 415) hx hb dX10_compute_373 (by decide) ?_
      exact B415 x2 x6 S36 h _ _ Z ls (lv_sub hl [1, 3, 7] rfl)
    have h := zi_f q10 h
    by_cases q11 : x1 = (nI 11)
    · have h := zi_t q11 h
      refine ztbl (off := 250) (tgt := 376) hx hb q11 dX10_compute_126 (by decide) (by decide) (by decide) (by decide) ?_
      refine lv_aload_n hx hb dX10_compute_376 rfl (lv_at hl 1 rfl) ?_
      refine lv_iload hx hb dX10_compute_377 (lv_at hl 7 rfl) ?_
      refine lv_iconst (v := (nI 0)) hx hb dX10_compute_379 (by decide) ?_
      refine lv_aload_n hx hb dX10_compute_380 rfl (lv_at hl 1 rfl) ?_
      refine zgX10_39 hx hb hf hown P0 Z L110 dX10_compute_381 ?_
      refine lv_iload_n hx hb dX10_compute_384 rfl (lv_at hl 4 rfl) ?_
      obtain ⟨v37, ev, hin, h⟩ := zld_s h
      refine zlM_24 hx hb P0 Z ev hin dX10_compute_385 ?_
      refine lv_iconst (v := (nI 5)) hx hb dX10_compute_386 (by decide) ?_
      refine lv_icmp_ne (tgt := 394) hx hb dX10_compute_387 (by decide) (fun q => ?_) (fun q => ?_)
      · have h := zi_f q h
        refine lv_iconst (v := (nI 0)) hx hb dX10_compute_394 (by decide) ?_
        exact B395 x2 x6 (nI 0) (nI 0) x6 S h _ _ Z ls (lv_sub hl [1, 3, 7] rfl)
      · have h := zi_t q h
        refine lv_iconst (v := (nI 1)) hx hb dX10_compute_390 (by decide) ?_
        refine lv_goto (tgt := 395) hx hb dX10_compute_391 (by decide) ?_
        exact B395 x2 x6 (nI 1) (nI 0) x6 S h _ _ Z ls (lv_sub hl [1, 3, 7] rfl)
    have h := zi_f q11 h
    by_cases q8 : x1 = (nI 8)
    · refine ztbl (off := 277) (tgt := 403) hx hb q8 dX10_compute_126 (by decide) (by decide) (by decide) (by decide) ?_
      refine lv_aload_n hx hb dX10_compute_403 rfl (lv_at hl 1 rfl) ?_
      refine lv_iload hx hb dX10_compute_404 (lv_at hl 7 rfl) ?_
      refine lv_bipush (v := (nI 6)) hx hb dX10_compute_406 (by decide) ?_
      refine lv_iload hx hb dX10_compute_408 (lv_at hl 5 rfl) ?_
      refine lv_bipush (v := (-3 : Int32)) hx hb dX10_compute_410 (by decide) ?_
      obtain ⟨r30, S31, ec, h⟩ := zbd_s h
      refine zc_Vv hY P0 ⟨hx, hb, hml, hown, hT⟩ (As := [.int x6, .int (nI 6), .int x4, .int (-3 : Int32)]) (rest := []) (kX10_become l hO x6 (nI 6) x4 (-3 : Int32) S r30 S31 ec) (cwV 4 hT (zgV mL_X10_345 mI_X10_become mS_X10_become mN_X10 mC_X10_become) rfl rfl rfl hdnX10_become ⟨Nat.le_of_ble_eq_true rfl, Nat.le_of_ble_eq_true rfl⟩) (zrecM_0 P0 Z) Z rfl hl.1 rfl (Nat.le_of_ble_eq_true rfl) dX10_compute_412 (fun H locs Z => ?_)
      exact B415 x2 x6 S31 h _ _ Z ls (lv_sub hl [1, 3, 7] rfl)
    have u0 : ¬ x1.toInt = 0 := lv_neT q0 (by decide)
    have u1 : ¬ x1.toInt = 1 := lv_neT q1 (by decide)
    have u2 : ¬ x1.toInt = 2 := lv_neT q2 (by decide)
    have u3 : ¬ x1.toInt = 3 := lv_neT q3 (by decide)
    have u4 : ¬ x1.toInt = 4 := lv_neT q4 (by decide)
    have u5 : ¬ x1.toInt = 5 := lv_neT q5 (by decide)
    have u6 : ¬ x1.toInt = 6 := lv_neT q6 (by decide)
    have u7 : ¬ x1.toInt = 7 := lv_neT q7 (by decide)
    have u8 : ¬ x1.toInt = 8 := lv_neT q8 (by decide)
    have u9 : ¬ x1.toInt = 9 := lv_neT q9 (by decide)
    have u10 : ¬ x1.toInt = 10 := lv_neT q10 (by decide)
    have u11 : ¬ x1.toInt = 11 := lv_neT q11 (by decide)
    refine lv_tableOut (tgt := 403) hx hb dX10_compute_126 (by omega) (by decide) ?_
    refine lv_aload_n hx hb dX10_compute_403 rfl (lv_at hl 1 rfl) ?_
    refine lv_iload hx hb dX10_compute_404 (lv_at hl 7 rfl) ?_
    refine lv_bipush (v := (nI 6)) hx hb dX10_compute_406 (by decide) ?_
    refine lv_iload hx hb dX10_compute_408 (lv_at hl 5 rfl) ?_
    refine lv_bipush (v := (-3 : Int32)) hx hb dX10_compute_410 (by decide) ?_
    obtain ⟨r38, S39, ec, h⟩ := zbd_s h
    refine zc_Vv hY P0 ⟨hx, hb, hml, hown, hT⟩ (As := [.int x6, .int (nI 6), .int x4, .int (-3 : Int32)]) (rest := []) (kX10_become l hO x6 (nI 6) x4 (-3 : Int32) S r38 S39 ec) (cwV 4 hT (zgV mL_X10_345 mI_X10_become mS_X10_become mN_X10 mC_X10_become) rfl rfl rfl hdnX10_become ⟨Nat.le_of_ble_eq_true rfl, Nat.le_of_ble_eq_true rfl⟩) (zrecM_0 P0 Z) Z rfl hl.1 rfl (Nat.le_of_ble_eq_true rfl) dX10_compute_412 (fun H locs Z => ?_)
    exact B415 x2 x6 S39 h _ _ Z ls (lv_sub hl [1, 3, 7] rfl)
  have B82 : ∀ (x1 : Int32) (x2 : Int32) (x3 : Int32) (x4 : Int32) (y0 : Int32) (S : zSt), fX10_compute_82 x1 x2 x3 x4 y0 S = some (r, S') → ∀ (H : Heap) (locs : List Loc), zZ (zYM g) S s H locs → ∀ ls : Array Slot, lv_has ls 9 [(0, .ref (zad g 0)), (1, .int x1), (2, .int x2), (3, .int x3), (4, .int x4)] → W p l e (headSpec vX10_compute { frames := 1, cells := 0, slots := 0, locals := 24 }).room s m ([.ref (zad g 0), .int a1] : List Value).toArray below meth c H locs 0 0 (MQ below (zQv (zYM g) S') ([.ref (zad g 0), .int a1] : List Value).toArray s 0 0 (zYM g).2.2.1) (F0 m 82 ls [.int y0]) := by
    intro x1 x2 x3 x4 y0 S h H locs Z ls hl
    unfold fX10_compute_82 at h
    refine lv_istore (lv' := [(5, .int y0), (0, .ref (zad g 0)), (1, .int x1), (2, .int x2), (3, .int x3), (4, .int x4)]) hx hb dX10_compute_82 hl (by decide) rfl (fun ls hl => ?_)
    refine lv_aload_n hx hb dX10_compute_84 rfl (lv_at hl 1 rfl) ?_
    refine zgX10_49 hx hb hf hown P0 Z L128 dX10_compute_85 ?_
    refine lv_aload_n hx hb dX10_compute_88 rfl (lv_at hl 1 rfl) ?_
    refine zgX10_48 (v := (zI S 18)) hx hb hf hown P0 Z L271 rfl dX10_compute_89 ?_
    refine lv_iconst (v := (nI 1)) hx hb dX10_compute_92 (by decide) ?_
    refine lv_isub hx hb dX10_compute_93 ?_
    refine lv_iload_n hx hb dX10_compute_94 rfl (lv_at hl 3 rfl) ?_
    refine lv_isub hx hb dX10_compute_95 ?_
    obtain ⟨v17, ev, hin, h⟩ := zld_s h
    refine zlM_30 hx hb P0 Z ev hin dX10_compute_96 ?_
    refine lv_istore (lv' := [(6, .int v17), (5, .int y0), (0, .ref (zad g 0)), (1, .int x1), (2, .int x2), (3, .int x3), (4, .int x4)]) hx hb dX10_compute_97 hl (by decide) rfl (fun ls hl => ?_)
    refine lv_aload_n hx hb dX10_compute_99 rfl (lv_at hl 2 rfl) ?_
    refine zgX10_40 hx hb hf hown P0 Z L113 dX10_compute_100 ?_
    refine lv_iload_n hx hb dX10_compute_103 rfl (lv_at hl 5 rfl) ?_
    obtain ⟨v18, ev, hin, h⟩ := zld_s h
    refine zlM_25 hx hb P0 Z ev hin dX10_compute_104 ?_
    refine lv_istore (lv' := [(7, .int v18), (6, .int v17), (5, .int y0), (0, .ref (zad g 0)), (1, .int x1), (2, .int x2), (3, .int x3), (4, .int x4)]) hx hb dX10_compute_105 hl (by decide) rfl (fun ls hl => ?_)
    refine lv_iload_n hx hb dX10_compute_107 rfl (lv_at hl 5 rfl) ?_
    refine lv_iconst (v := (nI 1)) hx hb dX10_compute_108 (by decide) ?_
    refine lv_icmp_le (tgt := 122) hx hb dX10_compute_109 (by decide) (fun q => ?_) (fun q => ?_)
    · have h := zi_t q h
      refine lv_iconst (v := (nI 0)) hx hb dX10_compute_122 (by decide) ?_
      exact B123 x1 x2 x3 x4 y0 v17 v18 (nI 0) S h _ _ Z ls (lv_sub hl [3, 4, 5, 6, 7, 2, 1, 0] rfl)
    · have h := zi_f q h
      refine lv_aload_n hx hb dX10_compute_112 rfl (lv_at hl 3 rfl) ?_
      refine zgX10_40 hx hb hf hown P0 Z L113 dX10_compute_113 ?_
      refine lv_iload hx hb dX10_compute_116 (lv_at hl 7 rfl) ?_
      obtain ⟨v19, ev, hin, h⟩ := zld_s h
      refine zlM_25 hx hb P0 Z ev hin dX10_compute_118 ?_
      refine lv_goto (tgt := 123) hx hb dX10_compute_119 (by decide) ?_
      exact B123 x1 x2 x3 x4 y0 v17 v18 v19 S h _ _ Z ls (lv_sub hl [3, 4, 5, 6, 7, 2, 1, 0] rfl)
  have B66 : ∀ (x1 : Int32) (x2 : Int32) (x3 : Int32) (y0 : Int32) (S : zSt), fX10_compute_66 x1 x2 x3 y0 S = some (r, S') → ∀ (H : Heap) (locs : List Loc), zZ (zYM g) S s H locs → ∀ ls : Array Slot, lv_has ls 9 [(0, .ref (zad g 0)), (1, .int x1), (2, .int x2), (3, .int x3)] → W p l e (headSpec vX10_compute { frames := 1, cells := 0, slots := 0, locals := 24 }).room s m ([.ref (zad g 0), .int a1] : List Value).toArray below meth c H locs 0 0 (MQ below (zQv (zYM g) S') ([.ref (zad g 0), .int a1] : List Value).toArray s 0 0 (zYM g).2.2.1) (F0 m 66 ls [.int y0]) := by
    intro x1 x2 x3 y0 S h H locs Z ls hl
    unfold fX10_compute_66 at h
    refine lv_istore (lv' := [(4, .int y0), (0, .ref (zad g 0)), (1, .int x1), (2, .int x2), (3, .int x3)]) hx hb dX10_compute_66 hl (by decide) rfl (fun ls hl => ?_)
    refine lv_iload_n hx hb dX10_compute_68 rfl (lv_at hl 3 rfl) ?_
    refine lv_iconst (v := (nI 2)) hx hb dX10_compute_69 (by decide) ?_
    refine lv_icmp_le (tgt := 81) hx hb dX10_compute_70 (by decide) (fun q => ?_) (fun q => ?_)
    · have h := zi_t q h
      refine lv_iconst (v := (nI 0)) hx hb dX10_compute_81 (by decide) ?_
      exact B82 x1 x2 x3 y0 (nI 0) S h _ _ Z ls (lv_sub hl [1, 2, 3, 4, 0] rfl)
    · have h := zi_f q h
      refine lv_aload_n hx hb dX10_compute_73 rfl (lv_at hl 1 rfl) ?_
      refine lv_iconst (v := (nI 3)) hx hb dX10_compute_74 (by decide) ?_
      obtain ⟨r15, S16, ec, h⟩ := zbd_s h
      refine zc_Vi hY P0 ⟨hx, hb, hml, hown, hT⟩ (As := [.int (nI 3)]) (rest := []) (kX10_thing l hO (nI 3) S r15 S16 ec) (cwV 1 hT (zgV mL_X10_327 mI_X10_thing mS_X10_thing mN_X10 mC_X10_thing) rfl rfl rfl hdnX10_thing ⟨Nat.le_of_ble_eq_true rfl, Nat.le_of_ble_eq_true rfl⟩) (zrecM_0 P0 Z) Z rfl hl.1 rfl (Nat.le_of_ble_eq_true rfl) dX10_compute_75 (fun H locs Z => ?_)
      refine lv_goto (tgt := 82) hx hb dX10_compute_78 (by decide) ?_
      exact B82 x1 x2 x3 y0 r15 S16 h _ _ Z ls (lv_sub hl [1, 2, 3, 4, 0] rfl)
  have B45 : ∀ (x1 : Int32) (x2 : Int32) (x3 : Int32) (S : zSt), fX10_compute_45 x1 x2 x3 S = some (r, S') → ∀ (H : Heap) (locs : List Loc), zZ (zYM g) S s H locs → ∀ ls : Array Slot, lv_has ls 9 [(0, .ref (zad g 0)), (1, .int x1), (2, .int x2), (3, .int x3)] → W p l e (headSpec vX10_compute { frames := 1, cells := 0, slots := 0, locals := 24 }).room s m ([.ref (zad g 0), .int a1] : List Value).toArray below meth c H locs 0 0 (MQ below (zQv (zYM g) S') ([.ref (zad g 0), .int a1] : List Value).toArray s 0 0 (zYM g).2.2.1) (F0 m 45 ls []) := by
    intro x1 x2 x3 S h H locs Z ls hl
    unfold fX10_compute_45 at h
    refine lv_aload_n hx hb dX10_compute_45 rfl (lv_at hl 0 rfl) ?_
    refine lv_iconst (v := (nI 2)) hx hb dX10_compute_46 (by decide) ?_
    obtain ⟨r13, S14, ec, h⟩ := zbd_s h
    refine zc_Vi hY P0 ⟨hx, hb, hml, hown, hT⟩ (As := [.int (nI 2)]) (rest := []) (kX10_thing l hO (nI 2) S r13 S14 ec) (cwV 1 hT (zgV mL_X10_327 mI_X10_thing mS_X10_thing mN_X10 mC_X10_thing) rfl rfl rfl hdnX10_thing ⟨Nat.le_of_ble_eq_true rfl, Nat.le_of_ble_eq_true rfl⟩) (zrecM_0 P0 Z) Z rfl hl.1 rfl (Nat.le_of_ble_eq_true rfl) dX10_compute_47 (fun H locs Z => ?_)
    refine lv_goto (tgt := 66) hx hb dX10_compute_50 (by decide) ?_
    exact B66 x1 x2 x3 r13 S14 h _ _ Z ls (lv_sub hl [0, 1, 2, 3] rfl)
  have B28 : ∀ (x1 : Int32) (x2 : Int32) (y0 : Int32) (S : zSt), fX10_compute_28 x1 x2 y0 S = some (r, S') → ∀ (H : Heap) (locs : List Loc), zZ (zYM g) S s H locs → ∀ ls : Array Slot, lv_has ls 9 [(0, .ref (zad g 0)), (1, .int x1), (2, .int x2)] → W p l e (headSpec vX10_compute { frames := 1, cells := 0, slots := 0, locals := 24 }).room s m ([.ref (zad g 0), .int a1] : List Value).toArray below meth c H locs 0 0 (MQ below (zQv (zYM g) S') ([.ref (zad g 0), .int a1] : List Value).toArray s 0 0 (zYM g).2.2.1) (F0 m 28 ls [.int y0]) := by
    intro x1 x2 y0 S h H locs Z ls hl
    unfold fX10_compute_28 at h
    refine lv_istore_n (lv' := [(3, .int y0), (0, .ref (zad g 0)), (1, .int x1), (2, .int x2)]) hx hb dX10_compute_28 rfl hl (by decide) rfl (fun ls hl => ?_)
    refine lv_iload_n hx hb dX10_compute_29 rfl (lv_at hl 3 rfl) ?_
    refine lv_iconst (v := (nI 1)) hx hb dX10_compute_30 (by decide) ?_
    refine lv_icmp_le (tgt := 65) hx hb dX10_compute_31 (by decide) (fun q => ?_) (fun q => ?_)
    · have h := zi_t q h
      refine lv_iconst (v := (nI 0)) hx hb dX10_compute_65 (by decide) ?_
      exact B66 x1 x2 y0 (nI 0) S h _ _ Z ls (lv_sub hl [1, 2, 3, 0] rfl)
    · have h := zi_f q h
      refine lv_iload_n hx hb dX10_compute_34 rfl (lv_at hl 2 rfl) ?_
      refine lv_bipush (v := (nI 7)) hx hb dX10_compute_35 (by decide) ?_
      refine lv_icmp_eq (tgt := 45) hx hb dX10_compute_37 (by decide) (fun q => ?_) (fun q => ?_)
      · have h := zi_t q h
        exact B45 x1 x2 y0 S h _ _ Z ls (lv_sub hl [1, 2, 3, 0] rfl)
      · have h := zi_f q h
        refine lv_iload_n hx hb dX10_compute_40 rfl (lv_at hl 2 rfl) ?_
        refine lv_iconst (v := (nI 5)) hx hb dX10_compute_41 (by decide) ?_
        refine lv_icmp_le (tgt := 53) hx hb dX10_compute_42 (by decide) (fun q => ?_) (fun q => ?_)
        · have h := zi_t q h
          refine lv_aload_n hx hb dX10_compute_53 rfl (lv_at hl 1 rfl) ?_
          refine lv_aload_n hx hb dX10_compute_54 rfl (lv_at hl 1 rfl) ?_
          refine lv_iconst (v := (nI 2)) hx hb dX10_compute_55 (by decide) ?_
          obtain ⟨r9, S10, ec, h⟩ := zbd_s h
          refine zc_Vi hY P0 ⟨hx, hb, hml, hown, hT⟩ (As := [.int (nI 2)]) (rest := [.ref (zad g 0)]) (kX10_thing l hO (nI 2) S r9 S10 ec) (cwV 1 hT (zgV mL_X10_327 mI_X10_thing mS_X10_thing mN_X10 mC_X10_thing) rfl rfl rfl hdnX10_thing ⟨Nat.le_of_ble_eq_true rfl, Nat.le_of_ble_eq_true rfl⟩) (zrecM_0 P0 Z) Z rfl hl.1 rfl (Nat.le_of_ble_eq_true rfl) dX10_compute_56 (fun H locs Z => ?_)
          obtain ⟨r11, S12, ec, h⟩ := zbd_s h
          refine zc_Vi hY P0 ⟨hx, hb, hml, hown, hT⟩ (As := [.int r9]) (rest := []) (kX10_followed l hO r9 S10 r11 S12 ec) (cwV 1 hT (zgV mL_X10_305 mI_X10_followed mS_X10_followed mN_X10 mC_X10_followed) rfl rfl rfl hdnX10_followed ⟨Nat.le_of_ble_eq_true rfl, Nat.le_of_ble_eq_true rfl⟩) (zrecM_0 P0 Z) Z rfl hl.1 rfl (Nat.le_of_ble_eq_true rfl) dX10_compute_59 (fun H locs Z => ?_)
          refine lv_goto (tgt := 66) hx hb dX10_compute_62 (by decide) ?_
          exact B66 x1 x2 y0 r11 S12 h _ _ Z ls (lv_sub hl [1, 2, 3, 0] rfl)
        · have h := zi_f q h
          exact B45 x1 x2 y0 S h _ _ Z ls (lv_sub hl [1, 2, 3, 0] rfl)
  have hl := lv_entry ([.ref (zad g 0), .int a1] : List Value) (n := 9) (Nat.le_of_ble_eq_true rfl)
  rw [lg_entry_eq]
  generalize (lg_sl ([.ref (zad g 0), .int a1] : List Value) ++ List.replicate (9 - (lg_sl ([.ref (zad g 0), .int a1] : List Value)).length) Slot.unset).toArray = ls at hl ⊢
  have hl : lv_has ls 9 [(0, .ref (zad g 0)), (1, .int a1)] := hl
  unfold fX10_compute at h
  refine lv_iload_n hx hb dX10_compute_0 rfl (lv_at hl 1 rfl) ?_
  obtain ⟨r1, S2, ec, h⟩ := zbd_s h
  refine zc_Si hY P0 ⟨hx, hb, hml, hown, hT⟩ (As := [.int a1]) (rest := []) (kX10_wants l hO a1 S r1 S2 ec) (va_cwS 1 hT (zgS mL_X10_308 mT_X10_wants mN_X10 mC_X10_wants) rfl rfl rfl hdnX10_wants ⟨Nat.le_of_ble_eq_true rfl, Nat.le_of_ble_eq_true rfl⟩) Z rfl hl.1 rfl (Nat.le_of_ble_eq_true rfl) dX10_compute_1 (fun H locs Z => ?_)
  refine lv_istore_n (lv' := [(2, .int r1), (0, .ref (zad g 0)), (1, .int a1)]) hx hb dX10_compute_4 rfl hl (by decide) rfl (fun ls hl => ?_)
  refine lv_iload_n hx hb dX10_compute_5 rfl (lv_at hl 2 rfl) ?_
  refine lv_bipush (v := (nI 7)) hx hb dX10_compute_6 (by decide) ?_
  refine lv_icmp_ne (tgt := 19) hx hb dX10_compute_8 (by decide) (fun q => ?_) (fun q => ?_)
  · have h := zi_f q h
    refine lv_aload_n hx hb dX10_compute_19 rfl (lv_at hl 1 rfl) ?_
    refine lv_aload_n hx hb dX10_compute_20 rfl (lv_at hl 1 rfl) ?_
    refine lv_iconst (v := (nI 1)) hx hb dX10_compute_21 (by decide) ?_
    obtain ⟨r3, S4, ec, h⟩ := zbd_s h
    refine zc_Vi hY P0 ⟨hx, hb, hml, hown, hT⟩ (As := [.int (nI 1)]) (rest := [.ref (zad g 0)]) (kX10_thing l hO (nI 1) S2 r3 S4 ec) (cwV 1 hT (zgV mL_X10_327 mI_X10_thing mS_X10_thing mN_X10 mC_X10_thing) rfl rfl rfl hdnX10_thing ⟨Nat.le_of_ble_eq_true rfl, Nat.le_of_ble_eq_true rfl⟩) (zrecM_0 P0 Z) Z rfl hl.1 rfl (Nat.le_of_ble_eq_true rfl) dX10_compute_22 (fun H locs Z => ?_)
    obtain ⟨r5, S6, ec, h⟩ := zbd_s h
    refine zc_Vi hY P0 ⟨hx, hb, hml, hown, hT⟩ (As := [.int r3]) (rest := []) (kX10_followed l hO r3 S4 r5 S6 ec) (cwV 1 hT (zgV mL_X10_305 mI_X10_followed mS_X10_followed mN_X10 mC_X10_followed) rfl rfl rfl hdnX10_followed ⟨Nat.le_of_ble_eq_true rfl, Nat.le_of_ble_eq_true rfl⟩) (zrecM_0 P0 Z) Z rfl hl.1 rfl (Nat.le_of_ble_eq_true rfl) dX10_compute_25 (fun H locs Z => ?_)
    exact B28 a1 r1 r5 S6 h _ _ Z ls (lv_sub hl [1, 2, 0] rfl)
  · have h := zi_t q h
    refine lv_aload_n hx hb dX10_compute_11 rfl (lv_at hl 1 rfl) ?_
    refine lv_iconst (v := (nI 1)) hx hb dX10_compute_12 (by decide) ?_
    obtain ⟨r7, S8, ec, h⟩ := zbd_s h
    refine zc_Vi hY P0 ⟨hx, hb, hml, hown, hT⟩ (As := [.int (nI 1)]) (rest := []) (kX10_thing l hO (nI 1) S2 r7 S8 ec) (cwV 1 hT (zgV mL_X10_327 mI_X10_thing mS_X10_thing mN_X10 mC_X10_thing) rfl rfl rfl hdnX10_thing ⟨Nat.le_of_ble_eq_true rfl, Nat.le_of_ble_eq_true rfl⟩) (zrecM_0 P0 Z) Z rfl hl.1 rfl (Nat.le_of_ble_eq_true rfl) dX10_compute_13 (fun H locs Z => ?_)
    refine lv_goto (tgt := 28) hx hb dX10_compute_16 (by decide) ?_
    exact B28 a1 r1 r7 S8 h _ _ Z ls (lv_sub hl [1, 2, 0] rfl)
