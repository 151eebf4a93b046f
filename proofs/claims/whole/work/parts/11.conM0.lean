set_option maxHeartbeats 4000000 in
set_option maxRecDepth 100000 in
theorem kX10_thrown {g : zG} (l : Launch) (hO : zinjM g) (S : zSt) (r : Int32) (S' : zSt) (h : fX10_thrown S = some (r, S')) : zMi (zYM g) l yX10_thrown vX10_thrown { frames := 0, cells := 0, slots := 0, locals := 0 } ([.ref (zad g 0)] : List Value) S r S' := by
  have hY := zOkM hO
  refine Met.ofW (cc := cX10_thrown) (maxL := 1) (ret := (some .int)) (by decide) rfl ?_
  intro p e s m args below meth c s₁ B hml hv
  obtain ⟨rfl, hP⟩ := hv
  have hx := B.exec
  have hb := B.bytes
  have hr := B.returns
  have hts := atoms_spec (ws := vX10_thrown) B.pre
  have hT : ∀ w ∈ zTB, w.before ([.ref (zad g 0)] : List Value).toArray s = true := fun w h => hts w (List.mem_cons_of_mem _ h)
  have hown : s.vm.findClass RX10 = some m.cls := findClass_of_methodNamed B.named
  have hlocks := B.notSynchronized
  have P0 := hP.2
  have Z : zZ (zYM g) S s s.heap [] := ⟨hP.1, va_S.rf⟩
  have hf : ∀ w ∈ u_ws RX10 TX10 67, w.before ([.ref (zad g 0)] : List Value).toArray s = true := fun w hw => hT w (mU_X10 w hw)
  have L153 := hT _ mF_X10_153
  have hl := lv_entry ([.ref (zad g 0)] : List Value) (n := 1) (Nat.le_of_ble_eq_true rfl)
  rw [lg_entry_eq]
  generalize (lg_sl ([.ref (zad g 0)] : List Value) ++ List.replicate (1 - (lg_sl ([.ref (zad g 0)] : List Value)).length) Slot.unset).toArray = ls at hl ⊢
  have hl : lv_has ls 1 [(0, .ref (zad g 0))] := hl
  unfold fX10_thrown at h
  refine lv_aload_n hx hb dX10_thrown_0 rfl (lv_at hl 0 rfl) ?_
  refine zgX10_0 (v := (zI S 0)) hx hb hf hown P0 Z L153 rfl dX10_thrown_1 ?_
  exact zr_i hY P0 hx hb hr hlocks h Z dX10_thrown_4

set_option maxHeartbeats 4000000 in
set_option maxRecDepth 100000 in
theorem kX10_in {g : zG} (l : Launch) (hO : zinjM g) (a0 : Int32) (a1 : Int32) (a2 : Int32) (S : zSt) (r : Int32) (S' : zSt) (h : fX10_in a0 a1 a2 S = some (r, S')) : zMi (zYM g) l yX10_in vX10_in { frames := 0, cells := 0, slots := 0, locals := 0 } ([.int a0, .int a1, .int a2] : List Value) S r S' := by
  have hY := zOkM hO
  refine Met.ofW (cc := cX10_in) (maxL := 3) (ret := (some .boolean)) (by decide) rfl ?_
  intro p e s m args below meth c s₁ B hml hv
  obtain ⟨rfl, hP⟩ := hv
  have hx := B.exec
  have hb := B.bytes
  have hr := B.returns
  have hts := atoms_spec (ws := vX10_in) B.pre
  have hT : ∀ w ∈ zTB, w.before ([.int a0, .int a1, .int a2] : List Value).toArray s = true := fun w h => hts w (List.mem_cons_of_mem _ h)
  have hown : s.vm.findClass RX10 = some m.cls := findClass_of_methodNamed B.named
  have hlocks := B.notSynchronized
  have P0 := hP.2
  have Z : zZ (zYM g) S s s.heap [] := ⟨hP.1, va_S.rf⟩
  have hl := lv_entry ([.int a0, .int a1, .int a2] : List Value) (n := 3) (Nat.le_of_ble_eq_true rfl)
  rw [lg_entry_eq]
  generalize (lg_sl ([.int a0, .int a1, .int a2] : List Value) ++ List.replicate (3 - (lg_sl ([.int a0, .int a1, .int a2] : List Value)).length) Slot.unset).toArray = ls at hl ⊢
  have hl : lv_has ls 3 [(0, .int a0), (1, .int a1), (2, .int a2)] := hl
  unfold fX10_in at h
  refine lv_iload_n hx hb dX10_in_0 rfl (lv_at hl 0 rfl) ?_
  refine lv_iload_n hx hb dX10_in_1 rfl (lv_at hl 1 rfl) ?_
  refine lv_icmp_lt (tgt := 14) hx hb dX10_in_2 (by decide) (fun q => ?_) (fun q => ?_)
  · have h := zi_t q h
    refine lv_iconst (v := (nI 0)) hx hb dX10_in_14 (by decide) ?_
    exact zr_z hY P0 hx hb hr hlocks (by decide) h Z dX10_in_15
  · have h := zi_f q h
    refine lv_iload_n hx hb dX10_in_5 rfl (lv_at hl 0 rfl) ?_
    refine lv_iload_n hx hb dX10_in_6 rfl (lv_at hl 2 rfl) ?_
    refine lv_icmp_gt (tgt := 14) hx hb dX10_in_7 (by decide) (fun q => ?_) (fun q => ?_)
    · have h := zi_t q h
      refine lv_iconst (v := (nI 0)) hx hb dX10_in_14 (by decide) ?_
      exact zr_z hY P0 hx hb hr hlocks (by decide) h Z dX10_in_15
    · have h := zi_f q h
      refine lv_iconst (v := (nI 1)) hx hb dX10_in_10 (by decide) ?_
      refine lv_goto (tgt := 15) hx hb dX10_in_11 (by decide) ?_
      exact zr_z hY P0 hx hb hr hlocks (by decide) h Z dX10_in_15

set_option maxHeartbeats 4000000 in
set_option maxRecDepth 100000 in
theorem kX10_feed {g : zG} (l : Launch) (hO : zinjM g) (a1 : Int32) (a2 : Int32) (a3 : Int32) (a4 : Int32) (a5 : Int32) (S : zSt) (r : Int32) (S' : zSt) (h : fX10_feed a1 a2 a3 a4 a5 S = some (r, S')) : zMi (zYM g) l yX10_feed vX10_feed { frames := 0, cells := 0, slots := 0, locals := 0 } ([.ref (zad g 0), .int a1, .int a2, .int a3, .int a4, .int a5] : List Value) S r S' := by
  have hY := zOkM hO
  refine Met.ofW (cc := cX10_feed) (maxL := 8) (ret := (some .int)) (by decide) rfl ?_
  intro p e s m args below meth c s₁ B hml hv
  obtain ⟨rfl, hP⟩ := hv
  have hx := B.exec
  have hb := B.bytes
  have hr := B.returns
  have hts := atoms_spec (ws := vX10_feed) B.pre
  have hT : ∀ w ∈ zTB, w.before ([.ref (zad g 0), .int a1, .int a2, .int a3, .int a4, .int a5] : List Value).toArray s = true := fun w h => hts w (List.mem_cons_of_mem _ h)
  have hown : s.vm.findClass RX10 = some m.cls := findClass_of_methodNamed B.named
  have hlocks := B.notSynchronized
  have P0 := hP.2
  have Z : zZ (zYM g) S s s.heap [] := ⟨hP.1, va_S.rf⟩
  have hf : ∀ w ∈ u_ws RX10 TX10 67, w.before ([.ref (zad g 0), .int a1, .int a2, .int a3, .int a4, .int a5] : List Value).toArray s = true := fun w hw => hT w (mU_X10 w hw)
  have L153 := hT _ mF_X10_153
  have L157 := hT _ mF_X10_157
  have L7 := hT _ mF_X10_7
  have B77 : ∀ (k24 : Int32 × Int32 × Int32 × Int32 × Int32 × Int32 × zSt → Option (Int32 × zSt)) (K24 : (∀ (x1 : Int32) (x2 : Int32) (x3 : Int32) (x4 : Int32) (x5 : Int32) (x6 : Int32) (S : zSt), k24 (x1, x2, x3, x4, x5, x6, S) = some (r, S') → ∀ (H : Heap) (locs : List Loc), zZ (zYM g) S s H locs → ∀ ls : Array Slot, lv_has ls 8 [(0, .ref (zad g 0)), (1, .int x1), (2, .int x2), (3, .int x3), (4, .int x4), (5, .int x5), (6, .int x6)] → W p l e (headSpec vX10_feed { frames := 0, cells := 0, slots := 0, locals := 0 }).room s m ([.ref (zad g 0), .int a1, .int a2, .int a3, .int a4, .int a5] : List Value).toArray below meth c H locs 0 0 (MQ below (zQi (zYM g) r S') ([.ref (zad g 0), .int a1, .int a2, .int a3, .int a4, .int a5] : List Value).toArray s 0 0 (zYM g).2.2.1) (F0 m 24 ls []))) (x1 : Int32) (x2 : Int32) (x3 : Int32) (x4 : Int32) (x5 : Int32) (x6 : Int32) (y0 : Int32) (S : zSt), fX10_feed_77 k24 x1 x2 x3 x4 x5 x6 y0 S = some (r, S') → ∀ (H : Heap) (locs : List Loc), zZ (zYM g) S s H locs → ∀ ls : Array Slot, lv_has ls 8 [(0, .ref (zad g 0)), (1, .int x1), (2, .int x2), (3, .int x3), (4, .int x4), (5, .int x5), (6, .int x6)] → W p l e (headSpec vX10_feed { frames := 0, cells := 0, slots := 0, locals := 0 }).room s m ([.ref (zad g 0), .int a1, .int a2, .int a3, .int a4, .int a5] : List Value).toArray below meth c H locs 0 0 (MQ below (zQi (zYM g) r S') ([.ref (zad g 0), .int a1, .int a2, .int a3, .int a4, .int a5] : List Value).toArray s 0 0 (zYM g).2.2.1) (F0 m 77 ls [.int y0]) := by
    intro k24 K24 x1 x2 x3 x4 x5 x6 y0 S h H locs Z ls hl
    unfold fX10_feed_77 at h
    refine lv_istore (lv' := [(7, .int y0), (0, .ref (zad g 0)), (1, .int x1), (2, .int x2), (3, .int x3), (4, .int x4), (5, .int x5), (6, .int x6)]) hx hb dX10_feed_77 hl (by decide) rfl (fun ls hl => ?_)
    refine lv_aload_n hx hb dX10_feed_79 rfl (lv_at hl 1 rfl) ?_
    refine zgX10_1 hx hb hf hown P0 Z L7 dX10_feed_80 ?_
    refine lv_aload_n hx hb dX10_feed_83 rfl (lv_at hl 1 rfl) ?_
    refine zgX10_2 (v := (zI S 1)) hx hb hf hown P0 Z L157 rfl dX10_feed_84 ?_
    refine lv_iload hx hb dX10_feed_87 (lv_at hl 7 rfl) ?_
    refine lv_iadd hx hb dX10_feed_89 ?_
    refine lv_iload hx hb dX10_feed_90 (lv_at hl 0 rfl) ?_
    refine lv_bipush (v := (nI 24)) hx hb dX10_feed_92 (by decide) ?_
    refine lv_bipush (v := (nI 8)) hx hb dX10_feed_94 (by decide) ?_
    refine lv_iload hx hb dX10_feed_96 (lv_at hl 7 rfl) ?_
    refine lv_iconst (v := (nI 4)) hx hb dX10_feed_98 (by decide) ?_
    refine lv_irem hx hb dX10_feed_99 (by decide) ?_
    refine lv_imul hx hb dX10_feed_100 ?_
    refine lv_isub hx hb dX10_feed_101 ?_
    refine lv_ishr hx hb dX10_feed_102 ?_
    refine lv_sipush (v := (nI 255)) hx hb dX10_feed_103 (by decide) ?_
    refine lv_iand hx hb dX10_feed_106 ?_
    obtain ⟨hin, h⟩ := zck_s h
    refine zsM_1 hO hx hb P0 Z hin dX10_feed_107 (fun H locs Z => ?_)
    refine lv_iinc (v := (x6 + (nI 1))) (lv' := [(6, .int (x6 + (nI 1))), (7, .int y0), (0, .ref (zad g 0)), (1, .int x1), (2, .int x2), (3, .int x3), (4, .int x4), (5, .int x5)]) hx hb dX10_feed_108 hl (k := 7) rfl rfl (by decide) rfl (fun ls hl => ?_)
    refine lv_goto (tgt := 24) hx hb dX10_feed_111 (by decide) ?_
    exact K24 x1 x2 x3 x4 x5 (x6 + (nI 1)) (wA S 1 (((zI S 1) + x6).toNatClampNeg) ((y0 >>> (((nI 24) - ((nI 8) * (x6 - x6 / (nI 4) * (nI 4)))) &&& 31)) &&& (nI 255))) h _ _ Z ls (lv_sub hl [2, 3, 4, 5, 6, 7, 0] rfl)
  have B24 : ∀ (n : Nat) (x1 : Int32) (x2 : Int32) (x3 : Int32) (x4 : Int32) (x5 : Int32) (x6 : Int32) (S : zSt), fX10_feed_24L n (x1, x2, x3, x4, x5, x6, S) = some (r, S') → ∀ (H : Heap) (locs : List Loc), zZ (zYM g) S s H locs → ∀ ls : Array Slot, lv_has ls 8 [(0, .ref (zad g 0)), (1, .int x1), (2, .int x2), (3, .int x3), (4, .int x4), (5, .int x5), (6, .int x6)] → W p l e (headSpec vX10_feed { frames := 0, cells := 0, slots := 0, locals := 0 }).room s m ([.ref (zad g 0), .int a1, .int a2, .int a3, .int a4, .int a5] : List Value).toArray below meth c H locs 0 0 (MQ below (zQi (zYM g) r S') ([.ref (zad g 0), .int a1, .int a2, .int a3, .int a4, .int a5] : List Value).toArray s 0 0 (zYM g).2.2.1) (F0 m 24 ls []) := by
    intro n
    induction n with
    | zero => intro x1 x2 x3 x4 x5 x6 S h; exact absurd h (fun h => nomatch h)
    | succ n K24 =>
      intro x1 x2 x3 x4 x5 x6 S h H locs Z ls hl
      have h : fX10_feed_24 (fX10_feed_24L n) x1 x2 x3 x4 x5 x6 S = some (r, S') := h
      unfold fX10_feed_24 at h
      refine lv_iload hx hb dX10_feed_24 (lv_at hl 6 rfl) ?_
      refine lv_bipush (v := (nI 20)) hx hb dX10_feed_26 (by decide) ?_
      refine lv_icmp_ge (tgt := 114) hx hb dX10_feed_28 (by decide) (fun q => ?_) (fun q => ?_)
      · have h := zi_t q h
        refine lv_aload_n hx hb dX10_feed_114 rfl (lv_at hl 0 rfl) ?_
        refine lv_dup hx hb dX10_feed_115 rfl ?_
        refine zgX10_2 (v := (zI S 1)) hx hb hf hown P0 Z L157 rfl dX10_feed_116 ?_
        refine lv_bipush (v := (nI 20)) hx hb dX10_feed_119 (by decide) ?_
        refine lv_iadd hx hb dX10_feed_121 ?_
        refine zpX10_2 hO hx hb hf hown P0 Z L157 dX10_feed_122 (fun H locs Z => ?_)
        refine lv_aload_n hx hb dX10_feed_125 rfl (lv_at hl 0 rfl) ?_
        refine zgX10_2 (v := ((zI S 1) + (nI 20))) hx hb hf hown P0 Z L157 rfl dX10_feed_126 ?_
        exact zr_i hY P0 hx hb hr hlocks h Z dX10_feed_129
      · have h := zi_f q h
        refine lv_iload hx hb dX10_feed_31 (lv_at hl 6 rfl) ?_
        refine lv_iconst (v := (nI 4)) hx hb dX10_feed_33 (by decide) ?_
        refine lv_icmp_ge (tgt := 41) hx hb dX10_feed_34 (by decide) (fun q => ?_) (fun q => ?_)
        · have h := zi_t q h
          refine lv_iload hx hb dX10_feed_41 (lv_at hl 6 rfl) ?_
          refine lv_bipush (v := (nI 8)) hx hb dX10_feed_43 (by decide) ?_
          refine lv_icmp_ge (tgt := 52) hx hb dX10_feed_45 (by decide) (fun q => ?_) (fun q => ?_)
          · have h := zi_t q h
            refine lv_iload hx hb dX10_feed_52 (lv_at hl 6 rfl) ?_
            refine lv_bipush (v := (nI 12)) hx hb dX10_feed_54 (by decide) ?_
            refine lv_icmp_ge (tgt := 63) hx hb dX10_feed_56 (by decide) (fun q => ?_) (fun q => ?_)
            · have h := zi_t q h
              refine lv_iload hx hb dX10_feed_63 (lv_at hl 6 rfl) ?_
              refine lv_bipush (v := (nI 16)) hx hb dX10_feed_65 (by decide) ?_
              refine lv_icmp_ge (tgt := 75) hx hb dX10_feed_67 (by decide) (fun q => ?_) (fun q => ?_)
              · have h := zi_t q h
                refine lv_iload hx hb dX10_feed_75 (lv_at hl 5 rfl) ?_
                exact B77 (fX10_feed_24L n) K24 x1 x2 x3 x4 x5 x6 x5 S h _ _ Z ls (lv_sub hl [0, 1, 2, 3, 4, 5, 6] rfl)
              · have h := zi_f q h
                refine lv_iload hx hb dX10_feed_70 (lv_at hl 4 rfl) ?_
                refine lv_goto (tgt := 77) hx hb dX10_feed_72 (by decide) ?_
                exact B77 (fX10_feed_24L n) K24 x1 x2 x3 x4 x5 x6 x4 S h _ _ Z ls (lv_sub hl [0, 1, 2, 3, 4, 5, 6] rfl)
            · have h := zi_f q h
              refine lv_iload_n hx hb dX10_feed_59 rfl (lv_at hl 3 rfl) ?_
              refine lv_goto (tgt := 77) hx hb dX10_feed_60 (by decide) ?_
              exact B77 (fX10_feed_24L n) K24 x1 x2 x3 x4 x5 x6 x3 S h _ _ Z ls (lv_sub hl [0, 1, 2, 3, 4, 5, 6] rfl)
          · have h := zi_f q h
            refine lv_iload_n hx hb dX10_feed_48 rfl (lv_at hl 2 rfl) ?_
            refine lv_goto (tgt := 77) hx hb dX10_feed_49 (by decide) ?_
            exact B77 (fX10_feed_24L n) K24 x1 x2 x3 x4 x5 x6 x2 S h _ _ Z ls (lv_sub hl [0, 1, 2, 3, 4, 5, 6] rfl)
        · have h := zi_f q h
          refine lv_iload_n hx hb dX10_feed_37 rfl (lv_at hl 1 rfl) ?_
          refine lv_goto (tgt := 77) hx hb dX10_feed_38 (by decide) ?_
          exact B77 (fX10_feed_24L n) K24 x1 x2 x3 x4 x5 x6 x1 S h _ _ Z ls (lv_sub hl [0, 1, 2, 3, 4, 5, 6] rfl)
  have hl := lv_entry ([.ref (zad g 0), .int a1, .int a2, .int a3, .int a4, .int a5] : List Value) (n := 8) (Nat.le_of_ble_eq_true rfl)
  rw [lg_entry_eq]
  generalize (lg_sl ([.ref (zad g 0), .int a1, .int a2, .int a3, .int a4, .int a5] : List Value) ++ List.replicate (8 - (lg_sl ([.ref (zad g 0), .int a1, .int a2, .int a3, .int a4, .int a5] : List Value)).length) Slot.unset).toArray = ls at hl ⊢
  have hl : lv_has ls 8 [(0, .ref (zad g 0)), (1, .int a1), (2, .int a2), (3, .int a3), (4, .int a4), (5, .int a5)] := hl
  unfold fX10_feed at h
  refine lv_aload_n hx hb dX10_feed_0 rfl (lv_at hl 0 rfl) ?_
  refine lv_iconst (v := (nI 0)) hx hb dX10_feed_1 (by decide) ?_
  refine zpX10_0 hO hx hb hf hown P0 Z L153 dX10_feed_2 (fun H locs Z => ?_)
  refine lv_aload_n hx hb dX10_feed_5 rfl (lv_at hl 0 rfl) ?_
  refine zgX10_2 (v := (zI S 1)) hx hb hf hown P0 Z L157 rfl dX10_feed_6 ?_
  refine lv_bipush (v := (nI 20)) hx hb dX10_feed_9 (by decide) ?_
  refine lv_iadd hx hb dX10_feed_11 ?_
  refine lv_sipush (v := (nI 800)) hx hb dX10_feed_12 (by decide) ?_
  refine lv_icmp_le (tgt := 21) hx hb dX10_feed_15 (by decide) (fun q => ?_) (fun q => ?_)
  · have h := zi_t q h
    refine lv_iconst (v := (nI 0)) hx hb dX10_feed_21 (by decide) ?_
    refine lv_istore (lv' := [(6, .int (nI 0)), (0, .ref (zad g 0)), (1, .int a1), (2, .int a2), (3, .int a3), (4, .int a4), (5, .int a5)]) hx hb dX10_feed_22 hl (by decide) rfl (fun ls hl => ?_)
    exact B24 zFU a1 a2 a3 a4 a5 (nI 0) (wI S 0 (nI 0)) h _ _ Z ls (lv_sub hl [1, 2, 3, 4, 5, 6, 0] rfl)
  · have h := zi_f q h
    refine lv_bipush (v := (-2 : Int32)) hx hb dX10_feed_18 (by decide) ?_
    exact zr_i hY P0 hx hb hr hlocks h Z dX10_feed_20

set_option maxHeartbeats 4000000 in
set_option maxRecDepth 100000 in
theorem kX10_cut {g : zG} (l : Launch) (hO : zinjM g) (a1 : Int32) (S : zSt) (r : Int32) (S' : zSt) (h : fX10_cut a1 S = some (r, S')) : zMi (zYM g) l yX10_cut vX10_cut { frames := 1, cells := 0, slots := 0, locals := 22 } ([.ref (zad g 0), .int a1] : List Value) S r S' := by
  have hY := zOkM hO
  refine Met.ofW (cc := cX10_cut) (maxL := 3) (ret := (some .int)) (by decide) rfl ?_
  intro p e s m args below meth c s₁ B hml hv
  obtain ⟨rfl, hP⟩ := hv
  have hx := B.exec
  have hb := B.bytes
  have hr := B.returns
  have hts := atoms_spec (ws := vX10_cut) B.pre
  have hT : ∀ w ∈ zTB, w.before ([.ref (zad g 0), .int a1] : List Value).toArray s = true := fun w h => hts w (List.mem_cons_of_mem _ h)
  have hown : s.vm.findClass RX10 = some m.cls := findClass_of_methodNamed B.named
  have hlocks := B.notSynchronized
  have P0 := hP.2
  have Z : zZ (zYM g) S s s.heap [] := ⟨hP.1, va_S.rf⟩
  have hf : ∀ w ∈ u_ws RX10 TX10 67, w.before ([.ref (zad g 0), .int a1] : List Value).toArray s = true := fun w hw => hT w (mU_X10 w hw)
  have L153 := hT _ mF_X10_153
  have L157 := hT _ mF_X10_157
  have hl := lv_entry ([.ref (zad g 0), .int a1] : List Value) (n := 3) (Nat.le_of_ble_eq_true rfl)
  rw [lg_entry_eq]
  generalize (lg_sl ([.ref (zad g 0), .int a1] : List Value) ++ List.replicate (3 - (lg_sl ([.ref (zad g 0), .int a1] : List Value)).length) Slot.unset).toArray = ls at hl ⊢
  have hl : lv_has ls 3 [(0, .ref (zad g 0)), (1, .int a1)] := hl
  unfold fX10_cut at h
  refine lv_aload_n hx hb dX10_cut_0 rfl (lv_at hl 0 rfl) ?_
  refine lv_iconst (v := (nI 0)) hx hb dX10_cut_1 (by decide) ?_
  refine zpX10_0 hO hx hb hf hown P0 Z L153 dX10_cut_2 (fun H locs Z => ?_)
  refine lv_iload_n hx hb dX10_cut_5 rfl (lv_at hl 1 rfl) ?_
  refine lv_iconst (v := (nI 0)) hx hb dX10_cut_6 (by decide) ?_
  refine lv_aload_n hx hb dX10_cut_7 rfl (lv_at hl 0 rfl) ?_
  refine zgX10_2 (v := (zI S 1)) hx hb hf hown P0 Z L157 rfl dX10_cut_8 ?_
  obtain ⟨r1, S2, ec, h⟩ := zbd_s h
  refine zc_Si hY P0 ⟨hx, hb, hml, hown, hT⟩ (As := [.int a1, .int (nI 0), .int (zI S 1)]) (rest := []) (kX10_in l hO a1 (nI 0) (zI S 1) (wI S 0 (nI 0)) r1 S2 ec) (va_cwS 3 hT (zgS mL_X10_160 mT_X10_in mN_X10 mC_X10_in) rfl rfl rfl hdnX10_in ⟨Nat.le_of_ble_eq_true rfl, Nat.le_of_ble_eq_true rfl⟩) Z rfl hl.1 rfl (Nat.le_of_ble_eq_true rfl) dX10_cut_11 (fun H locs Z => ?_)
  refine lv_if_ne (tgt := 19) hx hb dX10_cut_14 (by decide) (fun q => ?_) (fun q => ?_)
  · have h := zi_f q h
    refine lv_aload_n hx hb dX10_cut_19 rfl (lv_at hl 0 rfl) ?_
    refine zgX10_2 (v := (zI S2 1)) hx hb hf hown P0 Z L157 rfl dX10_cut_20 ?_
    refine lv_iload_n hx hb dX10_cut_23 rfl (lv_at hl 1 rfl) ?_
    refine lv_isub hx hb dX10_cut_24 ?_
    refine lv_istore_n (lv' := [(2, .int ((zI S2 1) - a1)), (0, .ref (zad g 0)), (1, .int a1)]) hx hb dX10_cut_25 rfl hl (by decide) rfl (fun ls hl => ?_)
    refine lv_aload_n hx hb dX10_cut_26 rfl (lv_at hl 1 rfl) ?_
    refine lv_iload_n hx hb dX10_cut_27 rfl (lv_at hl 2 rfl) ?_
    refine zpX10_2 hO hx hb hf hown P0 Z L157 dX10_cut_28 (fun H locs Z => ?_)
    refine lv_iload_n hx hb dX10_cut_31 rfl (lv_at hl 0 rfl) ?_
    exact zr_i hY P0 hx hb hr hlocks h Z dX10_cut_32
  · have h := zi_t q h
    refine lv_iconst (v := (-1 : Int32)) hx hb dX10_cut_17 (by decide) ?_
    exact zr_i hY P0 hx hb hr hlocks h Z dX10_cut_18

set_option maxHeartbeats 4000000 in
set_option maxRecDepth 100000 in
theorem kX10_at {g : zG} (l : Launch) (hO : zinjM g) (a1 : Int32) (S : zSt) (r : Int32) (S' : zSt) (h : fX10_at a1 S = some (r, S')) : zMi (zYM g) l yX10_at vX10_at { frames := 0, cells := 0, slots := 0, locals := 0 } ([.ref (zad g 0), .int a1] : List Value) S r S' := by
  have hY := zOkM hO
  refine Met.ofW (cc := cX10_at) (maxL := 2) (ret := (some .int)) (by decide) rfl ?_
  intro p e s m args below meth c s₁ B hml hv
  obtain ⟨rfl, hP⟩ := hv
  have hx := B.exec
  have hb := B.bytes
  have hr := B.returns
  have hts := atoms_spec (ws := vX10_at) B.pre
  have hT : ∀ w ∈ zTB, w.before ([.ref (zad g 0), .int a1] : List Value).toArray s = true := fun w h => hts w (List.mem_cons_of_mem _ h)
  have hown : s.vm.findClass RX10 = some m.cls := findClass_of_methodNamed B.named
  have hlocks := B.notSynchronized
  have P0 := hP.2
  have Z : zZ (zYM g) S s s.heap [] := ⟨hP.1, va_S.rf⟩
  have hf : ∀ w ∈ u_ws RX10 TX10 67, w.before ([.ref (zad g 0), .int a1] : List Value).toArray s = true := fun w hw => hT w (mU_X10 w hw)
  have L157 := hT _ mF_X10_157
  have L7 := hT _ mF_X10_7
  have hl := lv_entry ([.ref (zad g 0), .int a1] : List Value) (n := 2) (Nat.le_of_ble_eq_true rfl)
  rw [lg_entry_eq]
  generalize (lg_sl ([.ref (zad g 0), .int a1] : List Value) ++ List.replicate (2 - (lg_sl ([.ref (zad g 0), .int a1] : List Value)).length) Slot.unset).toArray = ls at hl ⊢
  have hl : lv_has ls 2 [(0, .ref (zad g 0)), (1, .int a1)] := hl
  unfold fX10_at at h
  refine lv_iload_n hx hb dX10_at_0 rfl (lv_at hl 1 rfl) ?_
  refine lv_aload_n hx hb dX10_at_1 rfl (lv_at hl 0 rfl) ?_
  refine zgX10_2 (v := (zI S 1)) hx hb hf hown P0 Z L157 rfl dX10_at_2 ?_
  refine lv_icmp_ge (tgt := 17) hx hb dX10_at_5 (by decide) (fun q => ?_) (fun q => ?_)
  · have h := zi_t q h
    refine lv_iconst (v := (nI 0)) hx hb dX10_at_17 (by decide) ?_
    exact zr_i hY P0 hx hb hr hlocks h Z dX10_at_18
  · have h := zi_f q h
    refine lv_aload_n hx hb dX10_at_8 rfl (lv_at hl 0 rfl) ?_
    refine zgX10_1 hx hb hf hown P0 Z L7 dX10_at_9 ?_
    refine lv_iload_n hx hb dX10_at_12 rfl (lv_at hl 1 rfl) ?_
    obtain ⟨v1, ev, hin, h⟩ := zld_s h
    refine zlM_1 hx hb P0 Z ev hin dX10_at_13 ?_
    refine lv_goto (tgt := 18) hx hb dX10_at_14 (by decide) ?_
    exact zr_i hY P0 hx hb hr hlocks h Z dX10_at_18

set_option maxHeartbeats 4000000 in
set_option maxRecDepth 100000 in
theorem kX10_isLetter {g : zG} (l : Launch) (hO : zinjM g) (a0 : Int32) (S : zSt) (r : Int32) (S' : zSt) (h : fX10_isLetter a0 S = some (r, S')) : zMi (zYM g) l yX10_isLetter vX10_isLetter { frames := 0, cells := 0, slots := 0, locals := 0 } ([.int a0] : List Value) S r S' := by
  have hY := zOkM hO
  refine Met.ofW (cc := cX10_isLetter) (maxL := 1) (ret := (some .boolean)) (by decide) rfl ?_
  intro p e s m args below meth c s₁ B hml hv
  obtain ⟨rfl, hP⟩ := hv
  have hx := B.exec
  have hb := B.bytes
  have hr := B.returns
  have hts := atoms_spec (ws := vX10_isLetter) B.pre
  have hT : ∀ w ∈ zTB, w.before ([.int a0] : List Value).toArray s = true := fun w h => hts w (List.mem_cons_of_mem _ h)
  have hown : s.vm.findClass RX10 = some m.cls := findClass_of_methodNamed B.named
  have hlocks := B.notSynchronized
  have P0 := hP.2
  have Z : zZ (zYM g) S s s.heap [] := ⟨hP.1, va_S.rf⟩
  have hl := lv_entry ([.int a0] : List Value) (n := 1) (Nat.le_of_ble_eq_true rfl)
  rw [lg_entry_eq]
  generalize (lg_sl ([.int a0] : List Value) ++ List.replicate (1 - (lg_sl ([.int a0] : List Value)).length) Slot.unset).toArray = ls at hl ⊢
  have hl : lv_has ls 1 [(0, .int a0)] := hl
  unfold fX10_isLetter at h
  refine lv_iload_n hx hb dX10_isLetter_0 rfl (lv_at hl 0 rfl) ?_
  refine lv_bipush (v := (nI 97)) hx hb dX10_isLetter_1 (by decide) ?_
  refine lv_icmp_lt (tgt := 16) hx hb dX10_isLetter_3 (by decide) (fun q => ?_) (fun q => ?_)
  · have h := zi_t q h
    refine lv_iconst (v := (nI 0)) hx hb dX10_isLetter_16 (by decide) ?_
    exact zr_z hY P0 hx hb hr hlocks (by decide) h Z dX10_isLetter_17
  · have h := zi_f q h
    refine lv_iload_n hx hb dX10_isLetter_6 rfl (lv_at hl 0 rfl) ?_
    refine lv_bipush (v := (nI 122)) hx hb dX10_isLetter_7 (by decide) ?_
    refine lv_icmp_gt (tgt := 16) hx hb dX10_isLetter_9 (by decide) (fun q => ?_) (fun q => ?_)
    · have h := zi_t q h
      refine lv_iconst (v := (nI 0)) hx hb dX10_isLetter_16 (by decide) ?_
      exact zr_z hY P0 hx hb hr hlocks (by decide) h Z dX10_isLetter_17
    · have h := zi_f q h
      refine lv_iconst (v := (nI 1)) hx hb dX10_isLetter_12 (by decide) ?_
      refine lv_goto (tgt := 17) hx hb dX10_isLetter_13 (by decide) ?_
      exact zr_z hY P0 hx hb hr hlocks (by decide) h Z dX10_isLetter_17

set_option maxHeartbeats 4000000 in
set_option maxRecDepth 100000 in
theorem kX10_isDigit {g : zG} (l : Launch) (hO : zinjM g) (a0 : Int32) (S : zSt) (r : Int32) (S' : zSt) (h : fX10_isDigit a0 S = some (r, S')) : zMi (zYM g) l yX10_isDigit vX10_isDigit { frames := 0, cells := 0, slots := 0, locals := 0 } ([.int a0] : List Value) S r S' := by
  have hY := zOkM hO
  refine Met.ofW (cc := cX10_isDigit) (maxL := 1) (ret := (some .boolean)) (by decide) rfl ?_
  intro p e s m args below meth c s₁ B hml hv
  obtain ⟨rfl, hP⟩ := hv
  have hx := B.exec
  have hb := B.bytes
  have hr := B.returns
  have hts := atoms_spec (ws := vX10_isDigit) B.pre
  have hT : ∀ w ∈ zTB, w.before ([.int a0] : List Value).toArray s = true := fun w h => hts w (List.mem_cons_of_mem _ h)
  have hown : s.vm.findClass RX10 = some m.cls := findClass_of_methodNamed B.named
  have hlocks := B.notSynchronized
  have P0 := hP.2
  have Z : zZ (zYM g) S s s.heap [] := ⟨hP.1, va_S.rf⟩
  have hl := lv_entry ([.int a0] : List Value) (n := 1) (Nat.le_of_ble_eq_true rfl)
  rw [lg_entry_eq]
  generalize (lg_sl ([.int a0] : List Value) ++ List.replicate (1 - (lg_sl ([.int a0] : List Value)).length) Slot.unset).toArray = ls at hl ⊢
  have hl : lv_has ls 1 [(0, .int a0)] := hl
  unfold fX10_isDigit at h
  refine lv_iload_n hx hb dX10_isDigit_0 rfl (lv_at hl 0 rfl) ?_
  refine lv_bipush (v := (nI 48)) hx hb dX10_isDigit_1 (by decide) ?_
  refine lv_icmp_lt (tgt := 16) hx hb dX10_isDigit_3 (by decide) (fun q => ?_) (fun q => ?_)
  · have h := zi_t q h
    refine lv_iconst (v := (nI 0)) hx hb dX10_isDigit_16 (by decide) ?_
    exact zr_z hY P0 hx hb hr hlocks (by decide) h Z dX10_isDigit_17
  · have h := zi_f q h
    refine lv_iload_n hx hb dX10_isDigit_6 rfl (lv_at hl 0 rfl) ?_
    refine lv_bipush (v := (nI 57)) hx hb dX10_isDigit_7 (by decide) ?_
    refine lv_icmp_gt (tgt := 16) hx hb dX10_isDigit_9 (by decide) (fun q => ?_) (fun q => ?_)
    · have h := zi_t q h
      refine lv_iconst (v := (nI 0)) hx hb dX10_isDigit_16 (by decide) ?_
      exact zr_z hY P0 hx hb hr hlocks (by decide) h Z dX10_isDigit_17
    · have h := zi_f q h
      refine lv_iconst (v := (nI 1)) hx hb dX10_isDigit_12 (by decide) ?_
      refine lv_goto (tgt := 17) hx hb dX10_isDigit_13 (by decide) ?_
      exact zr_z hY P0 hx hb hr hlocks (by decide) h Z dX10_isDigit_17

set_option maxHeartbeats 4000000 in
set_option maxRecDepth 100000 in
theorem kX10_token {g : zG} (l : Launch) (hO : zinjM g) (S : zSt) (r : Unit) (S' : zSt) (h : fX10_token S = some (r, S')) : zMv (zYM g) l yX10_token vX10_token { frames := 1, cells := 0, slots := 0, locals := 21 } ([.ref (zad g 0)] : List Value) S S' := by
  have hY := zOkM hO
  refine Met.ofW (cc := cX10_token) (maxL := 3) (ret := none) (by decide) rfl ?_
  intro p e s m args below meth c s₁ B hml hv
  obtain ⟨rfl, hP⟩ := hv
  have hx := B.exec
  have hb := B.bytes
  have hr := B.returns
  have hts := atoms_spec (ws := vX10_token) B.pre
  have hT : ∀ w ∈ zTB, w.before ([.ref (zad g 0)] : List Value).toArray s = true := fun w h => hts w (List.mem_cons_of_mem _ h)
  have hown : s.vm.findClass RX10 = some m.cls := findClass_of_methodNamed B.named
  have hlocks := B.notSynchronized
  have P0 := hP.2
  have Z : zZ (zYM g) S s s.heap [] := ⟨hP.1, va_S.rf⟩
  have hf : ∀ w ∈ u_ws RX10 TX10 67, w.before ([.ref (zad g 0)] : List Value).toArray s = true := fun w hw => hT w (mU_X10 w hw)
  have L164 := hT _ mF_X10_164
  have L167 := hT _ mF_X10_167
  have L157 := hT _ mF_X10_157
  have L174 := hT _ mF_X10_174
  have L177 := hT _ mF_X10_177
  have L190 := hT _ mF_X10_190
  have L184 := hT _ mF_X10_184
  have L43 := hT _ mF_X10_43
  have B45 : ∀ (k8 : zSt → Option (Unit × zSt)) (K8 : (∀ (S : zSt), k8 S = some (r, S') → ∀ (H : Heap) (locs : List Loc), zZ (zYM g) S s H locs → ∀ ls : Array Slot, lv_has ls 3 [(0, .ref (zad g 0))] → W p l e (headSpec vX10_token { frames := 1, cells := 0, slots := 0, locals := 21 }).room s m ([.ref (zad g 0)] : List Value).toArray below meth c H locs 0 0 (MQ below (zQv (zYM g) S') ([.ref (zad g 0)] : List Value).toArray s 0 0 (zYM g).2.2.1) (F0 m 8 ls []))) (S : zSt), fX10_token_45 k8 S = some (r, S') → ∀ (H : Heap) (locs : List Loc), zZ (zYM g) S s H locs → ∀ ls : Array Slot, lv_has ls 3 [(0, .ref (zad g 0))] → W p l e (headSpec vX10_token { frames := 1, cells := 0, slots := 0, locals := 21 }).room s m ([.ref (zad g 0)] : List Value).toArray below meth c H locs 0 0 (MQ below (zQv (zYM g) S') ([.ref (zad g 0)] : List Value).toArray s 0 0 (zYM g).2.2.1) (F0 m 45 ls []) := by
    intro k8 K8 S h H locs Z ls hl
    unfold fX10_token_45 at h
    refine lv_aload_n hx hb dX10_token_45 rfl (lv_at hl 0 rfl) ?_
    refine lv_dup hx hb dX10_token_46 rfl ?_
    refine zgX10_6 (v := (zI S 4)) hx hb hf hown P0 Z L167 rfl dX10_token_47 ?_
    refine lv_iconst (v := (nI 1)) hx hb dX10_token_50 (by decide) ?_
    refine lv_iadd hx hb dX10_token_51 ?_
    refine zpX10_6 hO hx hb hf hown P0 Z L167 dX10_token_52 (fun H locs Z => ?_)
    refine lv_goto (tgt := 8) hx hb dX10_token_55 (by decide) ?_
    exact K8 (wI S 4 ((zI S 4) + (nI 1))) h _ _ Z ls (lv_sub hl [0] rfl)
  have B161 : ∀ (k106 : zSt → Option (Unit × zSt)) (K106 : (∀ (S : zSt), k106 S = some (r, S') → ∀ (H : Heap) (locs : List Loc), zZ (zYM g) S s H locs → ∀ ls : Array Slot, lv_has ls 3 [(0, .ref (zad g 0))] → W p l e (headSpec vX10_token { frames := 1, cells := 0, slots := 0, locals := 21 }).room s m ([.ref (zad g 0)] : List Value).toArray below meth c H locs 0 0 (MQ below (zQv (zYM g) S') ([.ref (zad g 0)] : List Value).toArray s 0 0 (zYM g).2.2.1) (F0 m 106 ls []))) (y0 : Int32) (S : zSt), fX10_token_161 k106 y0 S = some (r, S') → ∀ (H : Heap) (locs : List Loc), zZ (zYM g) S s H locs → ∀ ls : Array Slot, lv_has ls 3 [(0, .ref (zad g 0))] → W p l e (headSpec vX10_token { frames := 1, cells := 0, slots := 0, locals := 21 }).room s m ([.ref (zad g 0)] : List Value).toArray below meth c H locs 0 0 (MQ below (zQv (zYM g) S') ([.ref (zad g 0)] : List Value).toArray s 0 0 (zYM g).2.2.1) (F0 m 161 ls [.int y0, .ref (zad g 0)]) := by
    intro k106 K106 y0 S h H locs Z ls hl
    unfold fX10_token_161 at h
    refine zpX10_8 hO hx hb hf hown P0 Z L184 dX10_token_161 (fun H locs Z => ?_)
    refine lv_aload_n hx hb dX10_token_164 rfl (lv_at hl 0 rfl) ?_
    refine lv_dup hx hb dX10_token_165 rfl ?_
    refine zgX10_6 (v := (zI S 4)) hx hb hf hown P0 Z L167 rfl dX10_token_166 ?_
    refine lv_iconst (v := (nI 1)) hx hb dX10_token_169 (by decide) ?_
    refine lv_iadd hx hb dX10_token_170 ?_
    refine zpX10_6 hO hx hb hf hown P0 Z L167 dX10_token_171 (fun H locs Z => ?_)
    refine lv_goto (tgt := 106) hx hb dX10_token_174 (by decide) ?_
    exact K106 (wI (wI S 5 y0) 4 ((zI S 4) + (nI 1))) h _ _ Z ls (lv_sub hl [0] rfl)
  have B106 : ∀ (n : Nat) (S : zSt), fX10_token_106L n S = some (r, S') → ∀ (H : Heap) (locs : List Loc), zZ (zYM g) S s H locs → ∀ ls : Array Slot, lv_has ls 3 [(0, .ref (zad g 0))] → W p l e (headSpec vX10_token { frames := 1, cells := 0, slots := 0, locals := 21 }).room s m ([.ref (zad g 0)] : List Value).toArray below meth c H locs 0 0 (MQ below (zQv (zYM g) S') ([.ref (zad g 0)] : List Value).toArray s 0 0 (zYM g).2.2.1) (F0 m 106 ls []) := by
    intro n
    induction n with
    | zero => intro S h; exact absurd h (fun h => nomatch h)
    | succ n K106 =>
      intro S h H locs Z ls hl
      have h : fX10_token_106 (fX10_token_106L n) S = some (r, S') := h
      unfold fX10_token_106 at h
      refine lv_aload_n hx hb dX10_token_106 rfl (lv_at hl 0 rfl) ?_
      refine lv_aload_n hx hb dX10_token_107 rfl (lv_at hl 0 rfl) ?_
      refine zgX10_6 (v := (zI S 4)) hx hb hf hown P0 Z L167 rfl dX10_token_108 ?_
      obtain ⟨r11, S12, ec, h⟩ := zbd_s h
      refine zc_Vi hY P0 ⟨hx, hb, hml, hown, hT⟩ (As := [.int (zI S 4)]) (rest := []) (kX10_at l hO (zI S 4) S r11 S12 ec) (cwV 1 hT (zgV mL_X10_170 mI_X10_at mS_X10_at mN_X10 mC_X10_at) rfl rfl rfl hdnX10_at ⟨Nat.le_of_ble_eq_true rfl, Nat.le_of_ble_eq_true rfl⟩) (zrecM_0 P0 Z) Z rfl hl.1 rfl (Nat.le_of_ble_eq_true rfl) dX10_token_111 (fun H locs Z => ?_)
      obtain ⟨r13, S14, ec, h⟩ := zbd_s h
      refine zc_Si hY P0 ⟨hx, hb, hml, hown, hT⟩ (As := [.int r11]) (rest := []) (kX10_isDigit l hO r11 S12 r13 S14 ec) (va_cwS 1 hT (zgS mL_X10_180 mT_X10_isDigit mN_X10 mC_X10_isDigit) rfl rfl rfl hdnX10_isDigit ⟨Nat.le_of_ble_eq_true rfl, Nat.le_of_ble_eq_true rfl⟩) Z rfl hl.1 rfl (Nat.le_of_ble_eq_true rfl) dX10_token_114 (fun H locs Z => ?_)
      refine lv_if_eq (tgt := 177) hx hb dX10_token_117 (by decide) (fun q => ?_) (fun q => ?_)
      · have h := zi_t q h
        refine lv_aload_n hx hb dX10_token_177 rfl (lv_at hl 0 rfl) ?_
        refine lv_aload_n hx hb dX10_token_178 rfl (lv_at hl 0 rfl) ?_
        refine zgX10_6 (v := (zI S14 4)) hx hb hf hown P0 Z L167 rfl dX10_token_179 ?_
        refine lv_aload_n hx hb dX10_token_182 rfl (lv_at hl 0 rfl) ?_
        refine zgX10_5 (v := (zI S14 3)) hx hb hf hown P0 Z L174 rfl dX10_token_183 ?_
        refine lv_isub hx hb dX10_token_186 ?_
        refine lv_bipush (v := (nI 9)) hx hb dX10_token_187 (by decide) ?_
        refine lv_icmp_le (tgt := 196) hx hb dX10_token_189 (by decide) (fun q => ?_) (fun q => ?_)
        · have h := zi_t q h
          refine lv_iconst (v := (nI 1)) hx hb dX10_token_196 (by decide) ?_
          refine zpX10_4 hO hx hb hf hown P0 Z L177 dX10_token_197 (fun H locs Z => ?_)
          refine lv_goto (tgt := 410) hx hb dX10_token_200 (by decide) ?_
          exact zr_v hY P0 hx hb hr hlocks h Z dX10_token_410
        · have h := zi_f q h
          refine lv_iconst (v := (nI 5)) hx hb dX10_token_192 (by decide) ?_
          refine lv_goto (tgt := 197) hx hb dX10_token_193 (by decide) ?_
          refine zpX10_4 hO hx hb hf hown P0 Z L177 dX10_token_197 (fun H locs Z => ?_)
          refine lv_goto (tgt := 410) hx hb dX10_token_200 (by decide) ?_
          exact zr_v hY P0 hx hb hr hlocks h Z dX10_token_410
      · have h := zi_f q h
        refine lv_aload_n hx hb dX10_token_120 rfl (lv_at hl 0 rfl) ?_
        refine lv_aload_n hx hb dX10_token_121 rfl (lv_at hl 0 rfl) ?_
        refine zgX10_6 (v := (zI S14 4)) hx hb hf hown P0 Z L167 rfl dX10_token_122 ?_
        refine lv_aload_n hx hb dX10_token_125 rfl (lv_at hl 0 rfl) ?_
        refine zgX10_5 (v := (zI S14 3)) hx hb hf hown P0 Z L174 rfl dX10_token_126 ?_
        refine lv_isub hx hb dX10_token_129 ?_
        refine lv_bipush (v := (nI 9)) hx hb dX10_token_130 (by decide) ?_
        refine lv_icmp_ge (tgt := 157) hx hb dX10_token_132 (by decide) (fun q => ?_) (fun q => ?_)
        · have h := zi_t q h
          refine lv_aload_n hx hb dX10_token_157 rfl (lv_at hl 0 rfl) ?_
          refine zgX10_8 (v := (zI S14 5)) hx hb hf hown P0 Z L184 rfl dX10_token_158 ?_
          exact B161 (fX10_token_106L n) K106 (zI S14 5) S14 h _ _ Z ls (lv_sub hl [0] rfl)
        · have h := zi_f q h
          refine lv_bipush (v := (nI 10)) hx hb dX10_token_135 (by decide) ?_
          refine lv_aload_n hx hb dX10_token_137 rfl (lv_at hl 0 rfl) ?_
          refine zgX10_8 (v := (zI S14 5)) hx hb hf hown P0 Z L184 rfl dX10_token_138 ?_
          refine lv_imul hx hb dX10_token_141 ?_
          refine lv_aload_n hx hb dX10_token_142 rfl (lv_at hl 0 rfl) ?_
          refine lv_aload_n hx hb dX10_token_143 rfl (lv_at hl 0 rfl) ?_
          refine zgX10_6 (v := (zI S14 4)) hx hb hf hown P0 Z L167 rfl dX10_token_144 ?_
          obtain ⟨r15, S16, ec, h⟩ := zbd_s h
          refine zc_Vi hY P0 ⟨hx, hb, hml, hown, hT⟩ (As := [.int (zI S14 4)]) (rest := [.int ((nI 10) * (zI S14 5)), .ref (zad g 0)]) (kX10_at l hO (zI S14 4) S14 r15 S16 ec) (cwV 1 hT (zgV mL_X10_170 mI_X10_at mS_X10_at mN_X10 mC_X10_at) rfl rfl rfl hdnX10_at ⟨Nat.le_of_ble_eq_true rfl, Nat.le_of_ble_eq_true rfl⟩) (zrecM_0 P0 Z) Z rfl hl.1 rfl (Nat.le_of_ble_eq_true rfl) dX10_token_147 (fun H locs Z => ?_)
          refine lv_iadd hx hb dX10_token_150 ?_
          refine lv_bipush (v := (nI 48)) hx hb dX10_token_151 (by decide) ?_
          refine lv_isub hx hb dX10_token_153 ?_
          refine lv_goto (tgt := 161) hx hb dX10_token_154 (by decide) ?_
          exact B161 (fX10_token_106L n) K106 ((((nI 10) * (zI S14 5)) + r15) - (nI 48)) S16 h _ _ Z ls (lv_sub hl [0] rfl)
  have B243 : ∀ (k215 : zSt → Option (Unit × zSt)) (K215 : (∀ (S : zSt), k215 S = some (r, S') → ∀ (H : Heap) (locs : List Loc), zZ (zYM g) S s H locs → ∀ ls : Array Slot, lv_has ls 3 [(0, .ref (zad g 0))] → W p l e (headSpec vX10_token { frames := 1, cells := 0, slots := 0, locals := 21 }).room s m ([.ref (zad g 0)] : List Value).toArray below meth c H locs 0 0 (MQ below (zQv (zYM g) S') ([.ref (zad g 0)] : List Value).toArray s 0 0 (zYM g).2.2.1) (F0 m 215 ls []))) (S : zSt), fX10_token_243 k215 S = some (r, S') → ∀ (H : Heap) (locs : List Loc), zZ (zYM g) S s H locs → ∀ ls : Array Slot, lv_has ls 3 [(0, .ref (zad g 0))] → W p l e (headSpec vX10_token { frames := 1, cells := 0, slots := 0, locals := 21 }).room s m ([.ref (zad g 0)] : List Value).toArray below meth c H locs 0 0 (MQ below (zQv (zYM g) S') ([.ref (zad g 0)] : List Value).toArray s 0 0 (zYM g).2.2.1) (F0 m 243 ls []) := by
    intro k215 K215 S h H locs Z ls hl
    unfold fX10_token_243 at h
    refine lv_aload_n hx hb dX10_token_243 rfl (lv_at hl 0 rfl) ?_
    refine lv_aload_n hx hb dX10_token_244 rfl (lv_at hl 0 rfl) ?_
    refine zgX10_7 (v := (zL S 0)) hx hb hf hown P0 Z L190 rfl dX10_token_245 ?_
    refine lv_bipush (v := (nI 8)) hx hb dX10_token_248 (by decide) ?_
    refine lv_lshl (v := ((zL S 0) <<< ((nI 8).toInt64 &&& 63))) hx hb dX10_token_250 rfl ?_
    refine lv_aload_n hx hb dX10_token_251 rfl (lv_at hl 0 rfl) ?_
    refine lv_aload_n hx hb dX10_token_252 rfl (lv_at hl 0 rfl) ?_
    refine zgX10_6 (v := (zI S 4)) hx hb hf hown P0 Z L167 rfl dX10_token_253 ?_
    obtain ⟨r26, S27, ec, h⟩ := zbd_s h
    refine zc_Vi hY P0 ⟨hx, hb, hml, hown, hT⟩ (As := [.int (zI S 4)]) (rest := [.long ((zL S 0) <<< ((nI 8).toInt64 &&& 63)), .ref (zad g 0)]) (kX10_at l hO (zI S 4) S r26 S27 ec) (cwV 1 hT (zgV mL_X10_170 mI_X10_at mS_X10_at mN_X10 mC_X10_at) rfl rfl rfl hdnX10_at ⟨Nat.le_of_ble_eq_true rfl, Nat.le_of_ble_eq_true rfl⟩) (zrecM_0 P0 Z) Z rfl hl.1 rfl (Nat.le_of_ble_eq_true rfl) dX10_token_256 (fun H locs Z => ?_)
    refine lv_i2l hx hb dX10_token_259 rfl ?_
    refine lv_lor hx hb dX10_token_260 ?_
    refine zpX10_7 hO hx hb hf hown P0 Z L190 dX10_token_261 (fun H locs Z => ?_)
    refine lv_aload_n hx hb dX10_token_264 rfl (lv_at hl 0 rfl) ?_
    refine lv_dup hx hb dX10_token_265 rfl ?_
    refine zgX10_6 (v := (zI S27 4)) hx hb hf hown P0 Z L167 rfl dX10_token_266 ?_
    refine lv_iconst (v := (nI 1)) hx hb dX10_token_269 (by decide) ?_
    refine lv_iadd hx hb dX10_token_270 ?_
    refine zpX10_6 hO hx hb hf hown P0 Z L167 dX10_token_271 (fun H locs Z => ?_)
    refine lv_goto (tgt := 215) hx hb dX10_token_274 (by decide) ?_
    exact K215 (wI (wL S27 0 (((zL S 0) <<< ((nI 8).toInt64 &&& 63)) ||| r26.toInt64)) 4 ((zI S27 4) + (nI 1))) h _ _ Z ls (lv_sub hl [0] rfl)
  have B302 : ∀ (n : Nat) (x2 : Int32) (S : zSt), fX10_token_302L n (x2, S) = some (r, S') → ∀ (H : Heap) (locs : List Loc), zZ (zYM g) S s H locs → ∀ ls : Array Slot, lv_has ls 3 [(0, .ref (zad g 0)), (2, .int x2)] → W p l e (headSpec vX10_token { frames := 1, cells := 0, slots := 0, locals := 21 }).room s m ([.ref (zad g 0)] : List Value).toArray below meth c H locs 0 0 (MQ below (zQv (zYM g) S') ([.ref (zad g 0)] : List Value).toArray s 0 0 (zYM g).2.2.1) (F0 m 302 ls []) := by
    intro n
    induction n with
    | zero => intro x2 S h; exact absurd h (fun h => nomatch h)
    | succ n K302 =>
      intro x2 S h H locs Z ls hl
      have h : fX10_token_302 (fX10_token_302L n) x2 S = some (r, S') := h
      unfold fX10_token_302 at h
      refine lv_iload_n hx hb dX10_token_302 rfl (lv_at hl 1 rfl) ?_
      refine lv_bipush (v := (nI 15)) hx hb dX10_token_303 (by decide) ?_
      refine lv_icmp_ge (tgt := 364) hx hb dX10_token_305 (by decide) (fun q => ?_) (fun q => ?_)
      · have h := zi_t q h
        refine lv_goto (tgt := 410) hx hb dX10_token_364 (by decide) ?_
        exact zr_v hY P0 hx hb hr hlocks h Z dX10_token_410
      · have h := zi_f q h
        refine lv_aload_n hx hb dX10_token_308 rfl (lv_at hl 0 rfl) ?_
        refine zgX10_4 (v := (zI S 2)) hx hb hf hown P0 Z L177 rfl dX10_token_309 ?_
        refine lv_iconst (v := (nI 2)) hx hb dX10_token_312 (by decide) ?_
        refine lv_icmp_ne (tgt := 364) hx hb dX10_token_313 (by decide) (fun q => ?_) (fun q => ?_)
        · have h := zi_f q h
          refine lv_goto (tgt := 410) hx hb dX10_token_364 (by decide) ?_
          exact zr_v hY P0 hx hb hr hlocks h Z dX10_token_410
        · have h := zi_t q h
          refine lv_aload_n hx hb dX10_token_316 rfl (lv_at hl 0 rfl) ?_
          refine lv_aload_n hx hb dX10_token_317 rfl (lv_at hl 0 rfl) ?_
          refine zgX10_3 hx hb hf hown P0 Z L43 dX10_token_318 ?_
          refine lv_iload_n hx hb dX10_token_321 rfl (lv_at hl 1 rfl) ?_
          obtain ⟨v25, ev, hin, h⟩ := zld_s h
          refine zlM_2 hx hb P0 Z ev hin dX10_token_322 ?_
          refine lv_aload_n hx hb dX10_token_323 rfl (lv_at hl 0 rfl) ?_
          refine zgX10_7 (v := (zL S 0)) hx hb hf hown P0 Z L190 rfl dX10_token_324 ?_
          refine W.lcmp hx hb dX10_token_327 ?_
          refine lv_if_ne (tgt := 351) hx hb dX10_token_328 (by decide) (fun q => ?_) (fun q => ?_)
          · have h := zi_f q h
            refine lv_aload_n hx hb dX10_token_351 rfl (lv_at hl 0 rfl) ?_
            refine zgX10_4 (v := (zI S 2)) hx hb hf hown P0 Z L177 rfl dX10_token_352 ?_
            refine zpX10_4 hO hx hb hf hown P0 Z L177 dX10_token_355 (fun H locs Z => ?_)
            refine lv_iinc (v := (x2 + (nI 1))) (lv' := [(2, .int (x2 + (nI 1))), (0, .ref (zad g 0))]) hx hb dX10_token_358 hl (k := 1) rfl rfl (by decide) rfl (fun ls hl => ?_)
            refine lv_goto (tgt := 302) hx hb dX10_token_361 (by decide) ?_
            exact K302 (x2 + (nI 1)) (wI S 2 (zI S 2)) h _ _ Z ls (lv_sub hl [1, 0] rfl)
          · have h := zi_t q h
            refine lv_iload_n hx hb dX10_token_331 rfl (lv_at hl 1 rfl) ?_
            refine lv_iconst (v := (nI 2)) hx hb dX10_token_332 (by decide) ?_
            refine lv_icmp_ge (tgt := 342) hx hb dX10_token_333 (by decide) (fun q => ?_) (fun q => ?_)
            · have h := zi_t q h
              refine lv_bipush (v := (nI 10)) hx hb dX10_token_342 (by decide) ?_
              refine lv_iload_n hx hb dX10_token_344 rfl (lv_at hl 1 rfl) ?_
              refine lv_iadd hx hb dX10_token_345 ?_
              refine lv_iconst (v := (nI 2)) hx hb dX10_token_346 (by decide) ?_
              refine lv_isub hx hb dX10_token_347 ?_
              refine lv_goto (tgt := 355) hx hb dX10_token_348 (by decide) ?_
              refine zpX10_4 hO hx hb hf hown P0 Z L177 dX10_token_355 (fun H locs Z => ?_)
              refine lv_iinc (v := (x2 + (nI 1))) (lv' := [(2, .int (x2 + (nI 1))), (0, .ref (zad g 0))]) hx hb dX10_token_358 hl (k := 1) rfl rfl (by decide) rfl (fun ls hl => ?_)
              refine lv_goto (tgt := 302) hx hb dX10_token_361 (by decide) ?_
              exact K302 (x2 + (nI 1)) (wI S 2 (((nI 10) + x2) - (nI 2))) h _ _ Z ls (lv_sub hl [1, 0] rfl)
            · have h := zi_f q h
              refine lv_iconst (v := (nI 3)) hx hb dX10_token_336 (by decide) ?_
              refine lv_iload_n hx hb dX10_token_337 rfl (lv_at hl 1 rfl) ?_
              refine lv_iadd hx hb dX10_token_338 ?_
              refine lv_goto (tgt := 355) hx hb dX10_token_339 (by decide) ?_
              refine zpX10_4 hO hx hb hf hown P0 Z L177 dX10_token_355 (fun H locs Z => ?_)
              refine lv_iinc (v := (x2 + (nI 1))) (lv' := [(2, .int (x2 + (nI 1))), (0, .ref (zad g 0))]) hx hb dX10_token_358 hl (k := 1) rfl rfl (by decide) rfl (fun ls hl => ?_)
              refine lv_goto (tgt := 302) hx hb dX10_token_361 (by decide) ?_
              exact K302 (x2 + (nI 1)) (wI S 2 ((nI 3) + x2)) h _ _ Z ls (lv_sub hl [1, 0] rfl)
  have B215 : ∀ (n : Nat) (S : zSt), fX10_token_215L n S = some (r, S') → ∀ (H : Heap) (locs : List Loc), zZ (zYM g) S s H locs → ∀ ls : Array Slot, lv_has ls 3 [(0, .ref (zad g 0))] → W p l e (headSpec vX10_token { frames := 1, cells := 0, slots := 0, locals := 21 }).room s m ([.ref (zad g 0)] : List Value).toArray below meth c H locs 0 0 (MQ below (zQv (zYM g) S') ([.ref (zad g 0)] : List Value).toArray s 0 0 (zYM g).2.2.1) (F0 m 215 ls []) := by
    intro n
    induction n with
    | zero => intro S h; exact absurd h (fun h => nomatch h)
    | succ n K215 =>
      intro S h H locs Z ls hl
      have h : fX10_token_215 (fX10_token_215L n) S = some (r, S') := h
      unfold fX10_token_215 at h
      refine lv_aload_n hx hb dX10_token_215 rfl (lv_at hl 0 rfl) ?_
      refine lv_aload_n hx hb dX10_token_216 rfl (lv_at hl 0 rfl) ?_
      refine zgX10_6 (v := (zI S 4)) hx hb hf hown P0 Z L167 rfl dX10_token_217 ?_
      obtain ⟨r17, S18, ec, h⟩ := zbd_s h
      refine zc_Vi hY P0 ⟨hx, hb, hml, hown, hT⟩ (As := [.int (zI S 4)]) (rest := []) (kX10_at l hO (zI S 4) S r17 S18 ec) (cwV 1 hT (zgV mL_X10_170 mI_X10_at mS_X10_at mN_X10 mC_X10_at) rfl rfl rfl hdnX10_at ⟨Nat.le_of_ble_eq_true rfl, Nat.le_of_ble_eq_true rfl⟩) (zrecM_0 P0 Z) Z rfl hl.1 rfl (Nat.le_of_ble_eq_true rfl) dX10_token_220 (fun H locs Z => ?_)
      obtain ⟨r19, S20, ec, h⟩ := zbd_s h
      refine zc_Si hY P0 ⟨hx, hb, hml, hown, hT⟩ (As := [.int r17]) (rest := []) (kX10_isLetter l hO r17 S18 r19 S20 ec) (va_cwS 1 hT (zgS mL_X10_187 mT_X10_isLetter mN_X10 mC_X10_isLetter) rfl rfl rfl hdnX10_isLetter ⟨Nat.le_of_ble_eq_true rfl, Nat.le_of_ble_eq_true rfl⟩) Z rfl hl.1 rfl (Nat.le_of_ble_eq_true rfl) dX10_token_223 (fun H locs Z => ?_)
      refine lv_if_ne (tgt := 243) hx hb dX10_token_226 (by decide) (fun q => ?_) (fun q => ?_)
      · have h := zi_f q h
        exact B243 (fX10_token_215L n) K215 S20 h _ _ Z ls (lv_sub hl [0] rfl)
      · have h := zi_t q h
        refine lv_aload_n hx hb dX10_token_229 rfl (lv_at hl 0 rfl) ?_
        refine lv_aload_n hx hb dX10_token_230 rfl (lv_at hl 0 rfl) ?_
        refine zgX10_6 (v := (zI S20 4)) hx hb hf hown P0 Z L167 rfl dX10_token_231 ?_
        obtain ⟨r21, S22, ec, h⟩ := zbd_s h
        refine zc_Vi hY P0 ⟨hx, hb, hml, hown, hT⟩ (As := [.int (zI S20 4)]) (rest := []) (kX10_at l hO (zI S20 4) S20 r21 S22 ec) (cwV 1 hT (zgV mL_X10_170 mI_X10_at mS_X10_at mN_X10 mC_X10_at) rfl rfl rfl hdnX10_at ⟨Nat.le_of_ble_eq_true rfl, Nat.le_of_ble_eq_true rfl⟩) (zrecM_0 P0 Z) Z rfl hl.1 rfl (Nat.le_of_ble_eq_true rfl) dX10_token_234 (fun H locs Z => ?_)
        obtain ⟨r23, S24, ec, h⟩ := zbd_s h
        refine zc_Si hY P0 ⟨hx, hb, hml, hown, hT⟩ (As := [.int r21]) (rest := []) (kX10_isDigit l hO r21 S22 r23 S24 ec) (va_cwS 1 hT (zgS mL_X10_180 mT_X10_isDigit mN_X10 mC_X10_isDigit) rfl rfl rfl hdnX10_isDigit ⟨Nat.le_of_ble_eq_true rfl, Nat.le_of_ble_eq_true rfl⟩) Z rfl hl.1 rfl (Nat.le_of_ble_eq_true rfl) dX10_token_237 (fun H locs Z => ?_)
        refine lv_if_eq (tgt := 277) hx hb dX10_token_240 (by decide) (fun q => ?_) (fun q => ?_)
        · have h := zi_t q h
          refine lv_aload_n hx hb dX10_token_277 rfl (lv_at hl 0 rfl) ?_
          refine lv_aload_n hx hb dX10_token_278 rfl (lv_at hl 0 rfl) ?_
          refine zgX10_6 (v := (zI S24 4)) hx hb hf hown P0 Z L167 rfl dX10_token_279 ?_
          refine lv_aload_n hx hb dX10_token_282 rfl (lv_at hl 0 rfl) ?_
          refine zgX10_5 (v := (zI S24 3)) hx hb hf hown P0 Z L174 rfl dX10_token_283 ?_
          refine lv_isub hx hb dX10_token_286 ?_
          refine lv_bipush (v := (nI 8)) hx hb dX10_token_287 (by decide) ?_
          refine lv_icmp_le (tgt := 296) hx hb dX10_token_289 (by decide) (fun q => ?_) (fun q => ?_)
          · have h := zi_t q h
            refine lv_iconst (v := (nI 2)) hx hb dX10_token_296 (by decide) ?_
            refine zpX10_4 hO hx hb hf hown P0 Z L177 dX10_token_297 (fun H locs Z => ?_)
            refine lv_iconst (v := (nI 0)) hx hb dX10_token_300 (by decide) ?_
            refine lv_istore_n (lv' := [(2, .int (nI 0)), (0, .ref (zad g 0))]) hx hb dX10_token_301 rfl hl (by decide) rfl (fun ls hl => ?_)
            exact B302 zFU (nI 0) (wI S24 2 (nI 2)) h _ _ Z ls (lv_sub hl [1, 0] rfl)
          · have h := zi_f q h
            refine lv_iconst (v := (nI 5)) hx hb dX10_token_292 (by decide) ?_
            refine lv_goto (tgt := 297) hx hb dX10_token_293 (by decide) ?_
            refine zpX10_4 hO hx hb hf hown P0 Z L177 dX10_token_297 (fun H locs Z => ?_)
            refine lv_iconst (v := (nI 0)) hx hb dX10_token_300 (by decide) ?_
            refine lv_istore_n (lv' := [(2, .int (nI 0)), (0, .ref (zad g 0))]) hx hb dX10_token_301 rfl hl (by decide) rfl (fun ls hl => ?_)
            exact B302 zFU (nI 0) (wI S24 2 (nI 5)) h _ _ Z ls (lv_sub hl [1, 0] rfl)
        · have h := zi_f q h
          exact B243 (fX10_token_215L n) K215 S24 h _ _ Z ls (lv_sub hl [0] rfl)
  have B58 : ∀ (S : zSt), fX10_token_58 S = some (r, S') → ∀ (H : Heap) (locs : List Loc), zZ (zYM g) S s H locs → ∀ ls : Array Slot, lv_has ls 3 [(0, .ref (zad g 0))] → W p l e (headSpec vX10_token { frames := 1, cells := 0, slots := 0, locals := 21 }).room s m ([.ref (zad g 0)] : List Value).toArray below meth c H locs 0 0 (MQ below (zQv (zYM g) S') ([.ref (zad g 0)] : List Value).toArray s 0 0 (zYM g).2.2.1) (F0 m 58 ls []) := by
    intro S h H locs Z ls hl
    unfold fX10_token_58 at h
    refine lv_aload_n hx hb dX10_token_58 rfl (lv_at hl 0 rfl) ?_
    refine lv_aload_n hx hb dX10_token_59 rfl (lv_at hl 0 rfl) ?_
    refine zgX10_6 (v := (zI S 4)) hx hb hf hown P0 Z L167 rfl dX10_token_60 ?_
    refine zpX10_5 hO hx hb hf hown P0 Z L174 dX10_token_63 (fun H locs Z => ?_)
    refine lv_aload_n hx hb dX10_token_66 rfl (lv_at hl 0 rfl) ?_
    refine lv_aload_n hx hb dX10_token_67 rfl (lv_at hl 0 rfl) ?_
    refine zgX10_5 (v := (zI S 4)) hx hb hf hown P0 Z L174 rfl dX10_token_68 ?_
    obtain ⟨r5, S6, ec, h⟩ := zbd_s h
    refine zc_Vi hY P0 ⟨hx, hb, hml, hown, hT⟩ (As := [.int (zI S 4)]) (rest := []) (kX10_at l hO (zI S 4) (wI S 3 (zI S 4)) r5 S6 ec) (cwV 1 hT (zgV mL_X10_170 mI_X10_at mS_X10_at mN_X10 mC_X10_at) rfl rfl rfl hdnX10_at ⟨Nat.le_of_ble_eq_true rfl, Nat.le_of_ble_eq_true rfl⟩) (zrecM_0 P0 Z) Z rfl hl.1 rfl (Nat.le_of_ble_eq_true rfl) dX10_token_71 (fun H locs Z => ?_)
    refine lv_istore_n (lv' := [(1, .int r5), (0, .ref (zad g 0))]) hx hb dX10_token_74 rfl hl (by decide) rfl (fun ls hl => ?_)
    refine lv_aload_n hx hb dX10_token_75 rfl (lv_at hl 1 rfl) ?_
    refine zgX10_5 (v := (zI S6 3)) hx hb hf hown P0 Z L174 rfl dX10_token_76 ?_
    refine lv_aload_n hx hb dX10_token_79 rfl (lv_at hl 1 rfl) ?_
    refine zgX10_2 (v := (zI S6 1)) hx hb hf hown P0 Z L157 rfl dX10_token_80 ?_
    refine lv_icmp_ne (tgt := 94) hx hb dX10_token_83 (by decide) (fun q => ?_) (fun q => ?_)
    · have h := zi_f q h
      refine lv_iload_n hx hb dX10_token_94 rfl (lv_at hl 0 rfl) ?_
      obtain ⟨r7, S8, ec, h⟩ := zbd_s h
      refine zc_Si hY P0 ⟨hx, hb, hml, hown, hT⟩ (As := [.int r5]) (rest := []) (kX10_isDigit l hO r5 S6 r7 S8 ec) (va_cwS 1 hT (zgS mL_X10_180 mT_X10_isDigit mN_X10 mC_X10_isDigit) rfl rfl rfl hdnX10_isDigit ⟨Nat.le_of_ble_eq_true rfl, Nat.le_of_ble_eq_true rfl⟩) Z rfl hl.1 rfl (Nat.le_of_ble_eq_true rfl) dX10_token_95 (fun H locs Z => ?_)
      refine lv_if_eq (tgt := 203) hx hb dX10_token_98 (by decide) (fun q => ?_) (fun q => ?_)
      · have h := zi_t q h
        refine lv_iload_n hx hb dX10_token_203 rfl (lv_at hl 0 rfl) ?_
        obtain ⟨r9, S10, ec, h⟩ := zbd_s h
        refine zc_Si hY P0 ⟨hx, hb, hml, hown, hT⟩ (As := [.int r5]) (rest := []) (kX10_isLetter l hO r5 S8 r9 S10 ec) (va_cwS 1 hT (zgS mL_X10_187 mT_X10_isLetter mN_X10 mC_X10_isLetter) rfl rfl rfl hdnX10_isLetter ⟨Nat.le_of_ble_eq_true rfl, Nat.le_of_ble_eq_true rfl⟩) Z rfl hl.1 rfl (Nat.le_of_ble_eq_true rfl) dX10_token_204 (fun H locs Z => ?_)
        refine lv_if_eq (tgt := 367) hx hb dX10_token_207 (by decide) (fun q => ?_) (fun q => ?_)
        · have h := zi_t q h
          refine lv_aload_n hx hb dX10_token_367 rfl (lv_at hl 1 rfl) ?_
          refine lv_dup hx hb dX10_token_368 rfl ?_
          refine zgX10_6 (v := (zI S10 4)) hx hb hf hown P0 Z L167 rfl dX10_token_369 ?_
          refine lv_iconst (v := (nI 1)) hx hb dX10_token_372 (by decide) ?_
          refine lv_iadd hx hb dX10_token_373 ?_
          refine zpX10_6 hO hx hb hf hown P0 Z L167 dX10_token_374 (fun H locs Z => ?_)
          refine lv_aload_n hx hb dX10_token_377 rfl (lv_at hl 1 rfl) ?_
          refine lv_iload_n hx hb dX10_token_378 rfl (lv_at hl 0 rfl) ?_
          refine lv_bipush (v := (nI 61)) hx hb dX10_token_379 (by decide) ?_
          refine lv_icmp_eq (tgt := 402) hx hb dX10_token_381 (by decide) (fun q => ?_) (fun q => ?_)
          · have h := zi_t q h
            refine lv_iload_n hx hb dX10_token_402 rfl (lv_at hl 0 rfl) ?_
            refine lv_goto (tgt := 407) hx hb dX10_token_403 (by decide) ?_
            refine zpX10_4 hO hx hb hf hown P0 Z L177 dX10_token_407 (fun H locs Z => ?_)
            exact zr_v hY P0 hx hb hr hlocks h Z dX10_token_410
          · have h := zi_f q h
            refine lv_iload_n hx hb dX10_token_384 rfl (lv_at hl 0 rfl) ?_
            refine lv_bipush (v := (nI 59)) hx hb dX10_token_385 (by decide) ?_
            refine lv_icmp_eq (tgt := 402) hx hb dX10_token_387 (by decide) (fun q => ?_) (fun q => ?_)
            · have h := zi_t q h
              refine lv_iload_n hx hb dX10_token_402 rfl (lv_at hl 0 rfl) ?_
              refine lv_goto (tgt := 407) hx hb dX10_token_403 (by decide) ?_
              refine zpX10_4 hO hx hb hf hown P0 Z L177 dX10_token_407 (fun H locs Z => ?_)
              exact zr_v hY P0 hx hb hr hlocks h Z dX10_token_410
            · have h := zi_f q h
              refine lv_iload_n hx hb dX10_token_390 rfl (lv_at hl 0 rfl) ?_
              refine lv_bipush (v := (nI 40)) hx hb dX10_token_391 (by decide) ?_
              refine lv_icmp_eq (tgt := 402) hx hb dX10_token_393 (by decide) (fun q => ?_) (fun q => ?_)
              · have h := zi_t q h
                refine lv_iload_n hx hb dX10_token_402 rfl (lv_at hl 0 rfl) ?_
                refine lv_goto (tgt := 407) hx hb dX10_token_403 (by decide) ?_
                refine zpX10_4 hO hx hb hf hown P0 Z L177 dX10_token_407 (fun H locs Z => ?_)
                exact zr_v hY P0 hx hb hr hlocks h Z dX10_token_410
              · have h := zi_f q h
                refine lv_iload_n hx hb dX10_token_396 rfl (lv_at hl 0 rfl) ?_
                refine lv_bipush (v := (nI 41)) hx hb dX10_token_397 (by decide) ?_
                refine lv_icmp_ne (tgt := 406) hx hb dX10_token_399 (by decide) (fun q => ?_) (fun q => ?_)
                · have h := zi_f q h
                  refine lv_iconst (v := (nI 5)) hx hb dX10_token_406 (by decide) ?_
                  refine zpX10_4 hO hx hb hf hown P0 Z L177 dX10_token_407 (fun H locs Z => ?_)
                  exact zr_v hY P0 hx hb hr hlocks h Z dX10_token_410
                · have h := zi_t q h
                  refine lv_iload_n hx hb dX10_token_402 rfl (lv_at hl 0 rfl) ?_
                  refine lv_goto (tgt := 407) hx hb dX10_token_403 (by decide) ?_
                  refine zpX10_4 hO hx hb hf hown P0 Z L177 dX10_token_407 (fun H locs Z => ?_)
                  exact zr_v hY P0 hx hb hr hlocks h Z dX10_token_410
        · have h := zi_f q h
          refine lv_aload_n hx hb dX10_token_210 rfl (lv_at hl 1 rfl) ?_
          refine lv_lconst (v := (0 : Int64)) hx hb dX10_token_211 (by decide) ?_
          refine zpX10_7 hO hx hb hf hown P0 Z L190 dX10_token_212 (fun H locs Z => ?_)
          exact B215 zFU (wL S10 0 (0 : Int64)) h _ _ Z ls (lv_sub hl [1] rfl)
      · have h := zi_f q h
        refine lv_aload_n hx hb dX10_token_101 rfl (lv_at hl 1 rfl) ?_
        refine lv_iconst (v := (nI 0)) hx hb dX10_token_102 (by decide) ?_
        refine zpX10_8 hO hx hb hf hown P0 Z L184 dX10_token_103 (fun H locs Z => ?_)
        exact B106 zFU (wI S8 5 (nI 0)) h _ _ Z ls (lv_sub hl [1] rfl)
    · have h := zi_t q h
      refine lv_aload_n hx hb dX10_token_86 rfl (lv_at hl 1 rfl) ?_
      refine lv_iconst (v := (nI 0)) hx hb dX10_token_87 (by decide) ?_
      refine zpX10_4 hO hx hb hf hown P0 Z L177 dX10_token_88 (fun H locs Z => ?_)
      refine lv_goto (tgt := 410) hx hb dX10_token_91 (by decide) ?_
      exact zr_v hY P0 hx hb hr hlocks h Z dX10_token_410
  have B8 : ∀ (n : Nat) (S : zSt), fX10_token_8L n S = some (r, S') → ∀ (H : Heap) (locs : List Loc), zZ (zYM g) S s H locs → ∀ ls : Array Slot, lv_has ls 3 [(0, .ref (zad g 0))] → W p l e (headSpec vX10_token { frames := 1, cells := 0, slots := 0, locals := 21 }).room s m ([.ref (zad g 0)] : List Value).toArray below meth c H locs 0 0 (MQ below (zQv (zYM g) S') ([.ref (zad g 0)] : List Value).toArray s 0 0 (zYM g).2.2.1) (F0 m 8 ls []) := by
    intro n
    induction n with
    | zero => intro S h; exact absurd h (fun h => nomatch h)
    | succ n K8 =>
      intro S h H locs Z ls hl
      have h : fX10_token_8 (fX10_token_8L n) S = some (r, S') := h
      unfold fX10_token_8 at h
      refine lv_aload_n hx hb dX10_token_8 rfl (lv_at hl 0 rfl) ?_
      refine zgX10_6 (v := (zI S 4)) hx hb hf hown P0 Z L167 rfl dX10_token_9 ?_
      refine lv_aload_n hx hb dX10_token_12 rfl (lv_at hl 0 rfl) ?_
      refine zgX10_2 (v := (zI S 1)) hx hb hf hown P0 Z L157 rfl dX10_token_13 ?_
      refine lv_icmp_ge (tgt := 58) hx hb dX10_token_16 (by decide) (fun q => ?_) (fun q => ?_)
      · have h := zi_t q h
        exact B58 S h _ _ Z ls (lv_sub hl [0] rfl)
      · have h := zi_f q h
        refine lv_aload_n hx hb dX10_token_19 rfl (lv_at hl 0 rfl) ?_
        refine lv_aload_n hx hb dX10_token_20 rfl (lv_at hl 0 rfl) ?_
        refine zgX10_6 (v := (zI S 4)) hx hb hf hown P0 Z L167 rfl dX10_token_21 ?_
        obtain ⟨r1, S2, ec, h⟩ := zbd_s h
        refine zc_Vi hY P0 ⟨hx, hb, hml, hown, hT⟩ (As := [.int (zI S 4)]) (rest := []) (kX10_at l hO (zI S 4) S r1 S2 ec) (cwV 1 hT (zgV mL_X10_170 mI_X10_at mS_X10_at mN_X10 mC_X10_at) rfl rfl rfl hdnX10_at ⟨Nat.le_of_ble_eq_true rfl, Nat.le_of_ble_eq_true rfl⟩) (zrecM_0 P0 Z) Z rfl hl.1 rfl (Nat.le_of_ble_eq_true rfl) dX10_token_24 (fun H locs Z => ?_)
        refine lv_bipush (v := (nI 32)) hx hb dX10_token_27 (by decide) ?_
        refine lv_icmp_eq (tgt := 45) hx hb dX10_token_29 (by decide) (fun q => ?_) (fun q => ?_)
        · have h := zi_t q h
          exact B45 (fX10_token_8L n) K8 S2 h _ _ Z ls (lv_sub hl [0] rfl)
        · have h := zi_f q h
          refine lv_aload_n hx hb dX10_token_32 rfl (lv_at hl 0 rfl) ?_
          refine lv_aload_n hx hb dX10_token_33 rfl (lv_at hl 0 rfl) ?_
          refine zgX10_6 (v := (zI S2 4)) hx hb hf hown P0 Z L167 rfl dX10_token_34 ?_
          obtain ⟨r3, S4, ec, h⟩ := zbd_s h
          refine zc_Vi hY P0 ⟨hx, hb, hml, hown, hT⟩ (As := [.int (zI S2 4)]) (rest := []) (kX10_at l hO (zI S2 4) S2 r3 S4 ec) (cwV 1 hT (zgV mL_X10_170 mI_X10_at mS_X10_at mN_X10 mC_X10_at) rfl rfl rfl hdnX10_at ⟨Nat.le_of_ble_eq_true rfl, Nat.le_of_ble_eq_true rfl⟩) (zrecM_0 P0 Z) Z rfl hl.1 rfl (Nat.le_of_ble_eq_true rfl) dX10_token_37 (fun H locs Z => ?_)
          refine lv_bipush (v := (nI 10)) hx hb dX10_token_40 (by decide) ?_
          refine lv_icmp_ne (tgt := 58) hx hb dX10_token_42 (by decide) (fun q => ?_) (fun q => ?_)
          · have h := zi_f q h
            exact B58 S4 h _ _ Z ls (lv_sub hl [0] rfl)
          · have h := zi_t q h
            exact B45 (fX10_token_8L n) K8 S4 h _ _ Z ls (lv_sub hl [0] rfl)
  have hl := lv_entry ([.ref (zad g 0)] : List Value) (n := 3) (Nat.le_of_ble_eq_true rfl)
  rw [lg_entry_eq]
  generalize (lg_sl ([.ref (zad g 0)] : List Value) ++ List.replicate (3 - (lg_sl ([.ref (zad g 0)] : List Value)).length) Slot.unset).toArray = ls at hl ⊢
  have hl : lv_has ls 3 [(0, .ref (zad g 0))] := hl
  unfold fX10_token at h
  refine lv_aload_n hx hb dX10_token_0 rfl (lv_at hl 0 rfl) ?_
  refine zgX10_9 (v := (zI S 6)) hx hb hf hown P0 Z L164 rfl dX10_token_1 ?_
  refine lv_if_eq (tgt := 8) hx hb dX10_token_4 (by decide) (fun q => ?_) (fun q => ?_)
  · have h := zi_t q h
    exact B8 zFU S h _ _ Z ls (lv_sub hl [0] rfl)
  · have h := zi_f q h
    exact zr_v hY P0 hx hb hr hlocks h Z dX10_token_7

set_option maxHeartbeats 4000000 in
set_option maxRecDepth 100000 in
theorem kX10_fail {g : zG} (l : Launch) (hO : zinjM g) (a1 : Int32) (a2 : Int32) (S : zSt) (r : Unit) (S' : zSt) (h : fX10_fail a1 a2 S = some (r, S')) : zMv (zYM g) l yX10_fail vX10_fail { frames := 0, cells := 0, slots := 0, locals := 0 } ([.ref (zad g 0), .int a1, .int a2] : List Value) S S' := by
  have hY := zOkM hO
  refine Met.ofW (cc := cX10_fail) (maxL := 3) (ret := none) (by decide) rfl ?_
  intro p e s m args below meth c s₁ B hml hv
  obtain ⟨rfl, hP⟩ := hv
  have hx := B.exec
  have hb := B.bytes
  have hr := B.returns
  have hts := atoms_spec (ws := vX10_fail) B.pre
  have hT : ∀ w ∈ zTB, w.before ([.ref (zad g 0), .int a1, .int a2] : List Value).toArray s = true := fun w h => hts w (List.mem_cons_of_mem _ h)
  have hown : s.vm.findClass RX10 = some m.cls := findClass_of_methodNamed B.named
  have hlocks := B.notSynchronized
  have P0 := hP.2
  have Z : zZ (zYM g) S s s.heap [] := ⟨hP.1, va_S.rf⟩
  have hf : ∀ w ∈ u_ws RX10 TX10 67, w.before ([.ref (zad g 0), .int a1, .int a2] : List Value).toArray s = true := fun w hw => hT w (mU_X10 w hw)
  have L164 := hT _ mF_X10_164
  have L194 := hT _ mF_X10_194
  have hl := lv_entry ([.ref (zad g 0), .int a1, .int a2] : List Value) (n := 3) (Nat.le_of_ble_eq_true rfl)
  rw [lg_entry_eq]
  generalize (lg_sl ([.ref (zad g 0), .int a1, .int a2] : List Value) ++ List.replicate (3 - (lg_sl ([.ref (zad g 0), .int a1, .int a2] : List Value)).length) Slot.unset).toArray = ls at hl ⊢
  have hl : lv_has ls 3 [(0, .ref (zad g 0)), (1, .int a1), (2, .int a2)] := hl
  unfold fX10_fail at h
  refine lv_aload_n hx hb dX10_fail_0 rfl (lv_at hl 0 rfl) ?_
  refine zgX10_9 (v := (zI S 6)) hx hb hf hown P0 Z L164 rfl dX10_fail_1 ?_
  refine lv_if_ne (tgt := 17) hx hb dX10_fail_4 (by decide) (fun q => ?_) (fun q => ?_)
  · have h := zi_f q h
    exact zr_v hY P0 hx hb hr hlocks h Z dX10_fail_17
  · have h := zi_t q h
    refine lv_aload_n hx hb dX10_fail_7 rfl (lv_at hl 0 rfl) ?_
    refine lv_iload_n hx hb dX10_fail_8 rfl (lv_at hl 1 rfl) ?_
    refine zpX10_9 hO hx hb hf hown P0 Z L164 dX10_fail_9 (fun H locs Z => ?_)
    refine lv_aload_n hx hb dX10_fail_12 rfl (lv_at hl 0 rfl) ?_
    refine lv_iload_n hx hb dX10_fail_13 rfl (lv_at hl 2 rfl) ?_
    refine zpX10_10 hO hx hb hf hown P0 Z L194 dX10_fail_14 (fun H locs Z => ?_)
    exact zr_v hY P0 hx hb hr hlocks h Z dX10_fail_17

set_option maxHeartbeats 4000000 in
set_option maxRecDepth 100000 in
theorem kX10_can {g : zG} (l : Launch) (hO : zinjM g) (a1 : Int32) (S : zSt) (r : Int32) (S' : zSt) (h : fX10_can a1 S = some (r, S')) : zMi (zYM g) l yX10_can vX10_can { frames := 1, cells := 0, slots := 0, locals := 22 } ([.ref (zad g 0), .int a1] : List Value) S r S' := by
  have hY := zOkM hO
  refine Met.ofW (cc := cX10_can) (maxL := 2) (ret := (some .boolean)) (by decide) rfl ?_
  intro p e s m args below meth c s₁ B hml hv
  obtain ⟨rfl, hP⟩ := hv
  have hx := B.exec
  have hb := B.bytes
  have hr := B.returns
  have hts := atoms_spec (ws := vX10_can) B.pre
  have hT : ∀ w ∈ zTB, w.before ([.ref (zad g 0), .int a1] : List Value).toArray s = true := fun w h => hts w (List.mem_cons_of_mem _ h)
  have hown : s.vm.findClass RX10 = some m.cls := findClass_of_methodNamed B.named
  have hlocks := B.notSynchronized
  have P0 := hP.2
  have Z : zZ (zYM g) S s s.heap [] := ⟨hP.1, va_S.rf⟩
  have hf : ∀ w ∈ u_ws RX10 TX10 67, w.before ([.ref (zad g 0), .int a1] : List Value).toArray s = true := fun w hw => hT w (mU_X10 w hw)
  have L164 := hT _ mF_X10_164
  have L177 := hT _ mF_X10_177
  have L174 := hT _ mF_X10_174
  have B40 : ∀ (S : zSt), fX10_can_40 S = some (r, S') → ∀ (H : Heap) (locs : List Loc), zZ (zYM g) S s H locs → ∀ ls : Array Slot, lv_has ls 2 [(0, .ref (zad g 0))] → W p l e (headSpec vX10_can { frames := 1, cells := 0, slots := 0, locals := 22 }).room s m ([.ref (zad g 0), .int a1] : List Value).toArray below meth c H locs 0 0 (MQ below (zQi (zYM g) r S') ([.ref (zad g 0), .int a1] : List Value).toArray s 0 0 (zYM g).2.2.1) (F0 m 40 ls []) := by
    intro S h H locs Z ls hl
    unfold fX10_can_40 at h
    refine lv_aload_n hx hb dX10_can_40 rfl (lv_at hl 0 rfl) ?_
    refine zgX10_9 (v := (zI S 6)) hx hb hf hown P0 Z L164 rfl dX10_can_41 ?_
    refine lv_if_ne (tgt := 51) hx hb dX10_can_44 (by decide) (fun q => ?_) (fun q => ?_)
    · have h := zi_f q h
      refine lv_iconst (v := (nI 0)) hx hb dX10_can_51 (by decide) ?_
      exact zr_z hY P0 hx hb hr hlocks (by decide) h Z dX10_can_52
    · have h := zi_t q h
      refine lv_iconst (v := (nI 1)) hx hb dX10_can_47 (by decide) ?_
      refine lv_goto (tgt := 52) hx hb dX10_can_48 (by decide) ?_
      exact zr_z hY P0 hx hb hr hlocks (by decide) h Z dX10_can_52
  have B33 : ∀ (y0 : Int32) (S : zSt), fX10_can_33 y0 S = some (r, S') → ∀ (H : Heap) (locs : List Loc), zZ (zYM g) S s H locs → ∀ ls : Array Slot, lv_has ls 2 [(0, .ref (zad g 0))] → W p l e (headSpec vX10_can { frames := 1, cells := 0, slots := 0, locals := 22 }).room s m ([.ref (zad g 0), .int a1] : List Value).toArray below meth c H locs 0 0 (MQ below (zQi (zYM g) r S') ([.ref (zad g 0), .int a1] : List Value).toArray s 0 0 (zYM g).2.2.1) (F0 m 33 ls [.int y0, .ref (zad g 0)]) := by
    intro y0 S h H locs Z ls hl
    unfold fX10_can_33 at h
    refine lv_aload_n hx hb dX10_can_33 rfl (lv_at hl 0 rfl) ?_
    refine zgX10_5 (v := (zI S 3)) hx hb hf hown P0 Z L174 rfl dX10_can_34 ?_
    obtain ⟨r1, S2, ec, h⟩ := zbd_s h
    refine zc_Vv hY P0 ⟨hx, hb, hml, hown, hT⟩ (As := [.int y0, .int (zI S 3)]) (rest := []) (kX10_fail l hO y0 (zI S 3) S r1 S2 ec) (cwV 2 hT (zgV mL_X10_197 mI_X10_fail mS_X10_fail mN_X10 mC_X10_fail) rfl rfl rfl hdnX10_fail ⟨Nat.le_of_ble_eq_true rfl, Nat.le_of_ble_eq_true rfl⟩) (zrecM_0 P0 Z) Z rfl hl.1 rfl (Nat.le_of_ble_eq_true rfl) dX10_can_37 (fun H locs Z => ?_)
    exact B40 S2 h _ _ Z ls (lv_sub hl [0] rfl)
  have B19 : ∀ (S : zSt), fX10_can_19 S = some (r, S') → ∀ (H : Heap) (locs : List Loc), zZ (zYM g) S s H locs → ∀ ls : Array Slot, lv_has ls 2 [(0, .ref (zad g 0))] → W p l e (headSpec vX10_can { frames := 1, cells := 0, slots := 0, locals := 22 }).room s m ([.ref (zad g 0), .int a1] : List Value).toArray below meth c H locs 0 0 (MQ below (zQi (zYM g) r S') ([.ref (zad g 0), .int a1] : List Value).toArray s 0 0 (zYM g).2.2.1) (F0 m 19 ls []) := by
    intro S h H locs Z ls hl
    unfold fX10_can_19 at h
    refine lv_aload_n hx hb dX10_can_19 rfl (lv_at hl 0 rfl) ?_
    refine lv_aload_n hx hb dX10_can_20 rfl (lv_at hl 0 rfl) ?_
    refine zgX10_4 (v := (zI S 2)) hx hb hf hown P0 Z L177 rfl dX10_can_21 ?_
    refine lv_iconst (v := (nI 5)) hx hb dX10_can_24 (by decide) ?_
    refine lv_icmp_ne (tgt := 32) hx hb dX10_can_25 (by decide) (fun q => ?_) (fun q => ?_)
    · have h := zi_f q h
      refine lv_iconst (v := (nI 2)) hx hb dX10_can_32 (by decide) ?_
      exact B33 (nI 2) S h _ _ Z ls (lv_sub hl [0] rfl)
    · have h := zi_t q h
      refine lv_iconst (v := (nI 1)) hx hb dX10_can_28 (by decide) ?_
      refine lv_goto (tgt := 33) hx hb dX10_can_29 (by decide) ?_
      exact B33 (nI 1) S h _ _ Z ls (lv_sub hl [0] rfl)
  have hl := lv_entry ([.ref (zad g 0), .int a1] : List Value) (n := 2) (Nat.le_of_ble_eq_true rfl)
  rw [lg_entry_eq]
  generalize (lg_sl ([.ref (zad g 0), .int a1] : List Value) ++ List.replicate (2 - (lg_sl ([.ref (zad g 0), .int a1] : List Value)).length) Slot.unset).toArray = ls at hl ⊢
  have hl : lv_has ls 2 [(0, .ref (zad g 0)), (1, .int a1)] := hl
  unfold fX10_can at h
  refine lv_aload_n hx hb dX10_can_0 rfl (lv_at hl 0 rfl) ?_
  refine zgX10_9 (v := (zI S 6)) hx hb hf hown P0 Z L164 rfl dX10_can_1 ?_
  refine lv_if_ne (tgt := 40) hx hb dX10_can_4 (by decide) (fun q => ?_) (fun q => ?_)
  · have h := zi_f q h
    exact B40 S h _ _ Z ls (lv_sub hl [0] rfl)
  · have h := zi_t q h
    refine lv_iload_n hx hb dX10_can_7 rfl (lv_at hl 1 rfl) ?_
    refine lv_if_eq (tgt := 19) hx hb dX10_can_8 (by decide) (fun q => ?_) (fun q => ?_)
    · have h := zi_t q h
      exact B19 S h _ _ Z ls (lv_sub hl [0] rfl)
    · have h := zi_f q h
      refine lv_aload_n hx hb dX10_can_11 rfl (lv_at hl 0 rfl) ?_
      refine zgX10_4 (v := (zI S 2)) hx hb hf hown P0 Z L177 rfl dX10_can_12 ?_
      refine lv_iconst (v := (nI 5)) hx hb dX10_can_15 (by decide) ?_
      refine lv_icmp_ne (tgt := 40) hx hb dX10_can_16 (by decide) (fun q => ?_) (fun q => ?_)
      · have h := zi_f q h
        exact B40 S h _ _ Z ls (lv_sub hl [0] rfl)
      · have h := zi_t q h
        exact B19 S h _ _ Z ls (lv_sub hl [0] rfl)

set_option maxHeartbeats 4000000 in
set_option maxRecDepth 100000 in
theorem kX10_need {g : zG} (l : Launch) (hO : zinjM g) (a1 : Int32) (S : zSt) (r : Int32) (S' : zSt) (h : fX10_need a1 S = some (r, S')) : zMi (zYM g) l yX10_need vX10_need { frames := 2, cells := 0, slots := 0, locals := 43 } ([.ref (zad g 0), .int a1] : List Value) S r S' := by
  have hY := zOkM hO
  refine Met.ofW (cc := cX10_need) (maxL := 2) (ret := (some .boolean)) (by decide) rfl ?_
  intro p e s m args below meth c s₁ B hml hv
  obtain ⟨rfl, hP⟩ := hv
  have hx := B.exec
  have hb := B.bytes
  have hr := B.returns
  have hts := atoms_spec (ws := vX10_need) B.pre
  have hT : ∀ w ∈ zTB, w.before ([.ref (zad g 0), .int a1] : List Value).toArray s = true := fun w h => hts w (List.mem_cons_of_mem _ h)
  have hown : s.vm.findClass RX10 = some m.cls := findClass_of_methodNamed B.named
  have hlocks := B.notSynchronized
  have P0 := hP.2
  have Z : zZ (zYM g) S s s.heap [] := ⟨hP.1, va_S.rf⟩
  have hf : ∀ w ∈ u_ws RX10 TX10 67, w.before ([.ref (zad g 0), .int a1] : List Value).toArray s = true := fun w hw => hT w (mU_X10 w hw)
  have L177 := hT _ mF_X10_177
  have L164 := hT _ mF_X10_164
  have B24 : ∀ (S : zSt), fX10_need_24 S = some (r, S') → ∀ (H : Heap) (locs : List Loc), zZ (zYM g) S s H locs → ∀ ls : Array Slot, lv_has ls 2 [(0, .ref (zad g 0))] → W p l e (headSpec vX10_need { frames := 2, cells := 0, slots := 0, locals := 43 }).room s m ([.ref (zad g 0), .int a1] : List Value).toArray below meth c H locs 0 0 (MQ below (zQi (zYM g) r S') ([.ref (zad g 0), .int a1] : List Value).toArray s 0 0 (zYM g).2.2.1) (F0 m 24 ls []) := by
    intro S h H locs Z ls hl
    unfold fX10_need_24 at h
    refine lv_aload_n hx hb dX10_need_24 rfl (lv_at hl 0 rfl) ?_
    refine zgX10_9 (v := (zI S 6)) hx hb hf hown P0 Z L164 rfl dX10_need_25 ?_
    refine lv_if_ne (tgt := 35) hx hb dX10_need_28 (by decide) (fun q => ?_) (fun q => ?_)
    · have h := zi_f q h
      refine lv_iconst (v := (nI 0)) hx hb dX10_need_35 (by decide) ?_
      exact zr_z hY P0 hx hb hr hlocks (by decide) h Z dX10_need_36
    · have h := zi_t q h
      refine lv_iconst (v := (nI 1)) hx hb dX10_need_31 (by decide) ?_
      refine lv_goto (tgt := 36) hx hb dX10_need_32 (by decide) ?_
      exact zr_z hY P0 hx hb hr hlocks (by decide) h Z dX10_need_36
  have B14 : ∀ (y0 : Int32) (S : zSt), fX10_need_14 y0 S = some (r, S') → ∀ (H : Heap) (locs : List Loc), zZ (zYM g) S s H locs → ∀ ls : Array Slot, lv_has ls 2 [(0, .ref (zad g 0))] → W p l e (headSpec vX10_need { frames := 2, cells := 0, slots := 0, locals := 43 }).room s m ([.ref (zad g 0), .int a1] : List Value).toArray below meth c H locs 0 0 (MQ below (zQi (zYM g) r S') ([.ref (zad g 0), .int a1] : List Value).toArray s 0 0 (zYM g).2.2.1) (F0 m 14 ls [.int y0, .ref (zad g 0)]) := by
    intro y0 S h H locs Z ls hl
    unfold fX10_need_14 at h
    obtain ⟨r1, S2, ec, h⟩ := zbd_s h
    refine zc_Vi hY P0 ⟨hx, hb, hml, hown, hT⟩ (As := [.int y0]) (rest := []) (kX10_can l hO y0 S r1 S2 ec) (cwV 1 hT (zgV mL_X10_201 mI_X10_can mS_X10_can mN_X10 mC_X10_can) rfl rfl rfl hdnX10_can ⟨Nat.le_of_ble_eq_true rfl, Nat.le_of_ble_eq_true rfl⟩) (zrecM_0 P0 Z) Z rfl hl.1 rfl (Nat.le_of_ble_eq_true rfl) dX10_need_14 (fun H locs Z => ?_)
    refine lv_if_eq (tgt := 24) hx hb dX10_need_17 (by decide) (fun q => ?_) (fun q => ?_)
    · have h := zi_t q h
      exact B24 S2 h _ _ Z ls (lv_sub hl [0] rfl)
    · have h := zi_f q h
      refine lv_aload_n hx hb dX10_need_20 rfl (lv_at hl 0 rfl) ?_
      obtain ⟨r3, S4, ec, h⟩ := zbd_s h
      refine zc_Vv hY P0 ⟨hx, hb, hml, hown, hT⟩ (As := []) (rest := []) (kX10_token l hO  S2 r3 S4 ec) (cwV 0 hT (zgV mL_X10_205 mI_X10_token mS_X10_token mN_X10 mC_X10_token) rfl rfl rfl hdnX10_token ⟨Nat.le_of_ble_eq_true rfl, Nat.le_of_ble_eq_true rfl⟩) (zrecM_0 P0 Z) Z rfl hl.1 rfl (Nat.le_of_ble_eq_true rfl) dX10_need_21 (fun H locs Z => ?_)
      exact B24 S4 h _ _ Z ls (lv_sub hl [0] rfl)
  have hl := lv_entry ([.ref (zad g 0), .int a1] : List Value) (n := 2) (Nat.le_of_ble_eq_true rfl)
  rw [lg_entry_eq]
  generalize (lg_sl ([.ref (zad g 0), .int a1] : List Value) ++ List.replicate (2 - (lg_sl ([.ref (zad g 0), .int a1] : List Value)).length) Slot.unset).toArray = ls at hl ⊢
  have hl : lv_has ls 2 [(0, .ref (zad g 0)), (1, .int a1)] := hl
  unfold fX10_need at h
  refine lv_aload_n hx hb dX10_need_0 rfl (lv_at hl 0 rfl) ?_
  refine lv_aload_n hx hb dX10_need_1 rfl (lv_at hl 0 rfl) ?_
  refine zgX10_4 (v := (zI S 2)) hx hb hf hown P0 Z L177 rfl dX10_need_2 ?_
  refine lv_iload_n hx hb dX10_need_5 rfl (lv_at hl 1 rfl) ?_
  refine lv_icmp_ne (tgt := 13) hx hb dX10_need_6 (by decide) (fun q => ?_) (fun q => ?_)
  · have h := zi_f q h
    refine lv_iconst (v := (nI 0)) hx hb dX10_need_13 (by decide) ?_
    exact B14 (nI 0) S h _ _ Z ls (lv_sub hl [0] rfl)
  · have h := zi_t q h
    refine lv_iconst (v := (nI 1)) hx hb dX10_need_9 (by decide) ?_
    refine lv_goto (tgt := 14) hx hb dX10_need_10 (by decide) ?_
    exact B14 (nI 1) S h _ _ Z ls (lv_sub hl [0] rfl)

set_option maxHeartbeats 4000000 in
set_option maxRecDepth 100000 in
theorem kX10_room {g : zG} (l : Launch) (hO : zinjM g) (a1 : Int32) (S : zSt) (r : Int32) (S' : zSt) (h : fX10_room a1 S = some (r, S')) : zMi (zYM g) l yX10_room vX10_room { frames := 1, cells := 0, slots := 0, locals := 22 } ([.ref (zad g 0), .int a1] : List Value) S r S' := by
  have hY := zOkM hO
  refine Met.ofW (cc := cX10_room) (maxL := 2) (ret := (some .boolean)) (by decide) rfl ?_
  intro p e s m args below meth c s₁ B hml hv
  obtain ⟨rfl, hP⟩ := hv
  have hx := B.exec
  have hb := B.bytes
  have hr := B.returns
  have hts := atoms_spec (ws := vX10_room) B.pre
  have hT : ∀ w ∈ zTB, w.before ([.ref (zad g 0), .int a1] : List Value).toArray s = true := fun w h => hts w (List.mem_cons_of_mem _ h)
  have hown : s.vm.findClass RX10 = some m.cls := findClass_of_methodNamed B.named
  have hlocks := B.notSynchronized
  have P0 := hP.2
  have Z : zZ (zYM g) S s s.heap [] := ⟨hP.1, va_S.rf⟩
  have hf : ∀ w ∈ u_ws RX10 TX10 67, w.before ([.ref (zad g 0), .int a1] : List Value).toArray s = true := fun w hw => hT w (mU_X10 w hw)
  have L164 := hT _ mF_X10_164
  have L174 := hT _ mF_X10_174
  have B20 : ∀ (S : zSt), fX10_room_20 S = some (r, S') → ∀ (H : Heap) (locs : List Loc), zZ (zYM g) S s H locs → ∀ ls : Array Slot, lv_has ls 2 [(0, .ref (zad g 0))] → W p l e (headSpec vX10_room { frames := 1, cells := 0, slots := 0, locals := 22 }).room s m ([.ref (zad g 0), .int a1] : List Value).toArray below meth c H locs 0 0 (MQ below (zQi (zYM g) r S') ([.ref (zad g 0), .int a1] : List Value).toArray s 0 0 (zYM g).2.2.1) (F0 m 20 ls []) := by
    intro S h H locs Z ls hl
    unfold fX10_room_20 at h
    refine lv_aload_n hx hb dX10_room_20 rfl (lv_at hl 0 rfl) ?_
    refine zgX10_9 (v := (zI S 6)) hx hb hf hown P0 Z L164 rfl dX10_room_21 ?_
    refine lv_if_ne (tgt := 31) hx hb dX10_room_24 (by decide) (fun q => ?_) (fun q => ?_)
    · have h := zi_f q h
      refine lv_iconst (v := (nI 0)) hx hb dX10_room_31 (by decide) ?_
      exact zr_z hY P0 hx hb hr hlocks (by decide) h Z dX10_room_32
    · have h := zi_t q h
      refine lv_iconst (v := (nI 1)) hx hb dX10_room_27 (by decide) ?_
      refine lv_goto (tgt := 32) hx hb dX10_room_28 (by decide) ?_
      exact zr_z hY P0 hx hb hr hlocks (by decide) h Z dX10_room_32
  have hl := lv_entry ([.ref (zad g 0), .int a1] : List Value) (n := 2) (Nat.le_of_ble_eq_true rfl)
  rw [lg_entry_eq]
  generalize (lg_sl ([.ref (zad g 0), .int a1] : List Value) ++ List.replicate (2 - (lg_sl ([.ref (zad g 0), .int a1] : List Value)).length) Slot.unset).toArray = ls at hl ⊢
  have hl : lv_has ls 2 [(0, .ref (zad g 0)), (1, .int a1)] := hl
  unfold fX10_room at h
  refine lv_aload_n hx hb dX10_room_0 rfl (lv_at hl 0 rfl) ?_
  refine zgX10_9 (v := (zI S 6)) hx hb hf hown P0 Z L164 rfl dX10_room_1 ?_
  refine lv_if_ne (tgt := 20) hx hb dX10_room_4 (by decide) (fun q => ?_) (fun q => ?_)
  · have h := zi_f q h
    exact B20 S h _ _ Z ls (lv_sub hl [0] rfl)
  · have h := zi_t q h
    refine lv_iload_n hx hb dX10_room_7 rfl (lv_at hl 1 rfl) ?_
    refine lv_if_ne (tgt := 20) hx hb dX10_room_8 (by decide) (fun q => ?_) (fun q => ?_)
    · have h := zi_f q h
      exact B20 S h _ _ Z ls (lv_sub hl [0] rfl)
    · have h := zi_t q h
      refine lv_aload_n hx hb dX10_room_11 rfl (lv_at hl 0 rfl) ?_
      refine lv_iconst (v := (nI 3)) hx hb dX10_room_12 (by decide) ?_
      refine lv_aload_n hx hb dX10_room_13 rfl (lv_at hl 0 rfl) ?_
      refine zgX10_5 (v := (zI S 3)) hx hb hf hown P0 Z L174 rfl dX10_room_14 ?_
      obtain ⟨r1, S2, ec, h⟩ := zbd_s h
      refine zc_Vv hY P0 ⟨hx, hb, hml, hown, hT⟩ (As := [.int (nI 3), .int (zI S 3)]) (rest := []) (kX10_fail l hO (nI 3) (zI S 3) S r1 S2 ec) (cwV 2 hT (zgV mL_X10_197 mI_X10_fail mS_X10_fail mN_X10 mC_X10_fail) rfl rfl rfl hdnX10_fail ⟨Nat.le_of_ble_eq_true rfl, Nat.le_of_ble_eq_true rfl⟩) (zrecM_0 P0 Z) Z rfl hl.1 rfl (Nat.le_of_ble_eq_true rfl) dX10_room_17 (fun H locs Z => ?_)
      exact B20 S2 h _ _ Z ls (lv_sub hl [0] rfl)

set_option maxHeartbeats 4000000 in
set_option maxRecDepth 100000 in
theorem kX10_emit {g : zG} (l : Launch) (hO : zinjM g) (a1 : Int32) (a2 : Int32) (S : zSt) (r : Int32) (S' : zSt) (h : fX10_emit a1 a2 S = some (r, S')) : zMi (zYM g) l yX10_emit vX10_emit { frames := 0, cells := 0, slots := 0, locals := 0 } ([.ref (zad g 0), .int a1, .int a2] : List Value) S r S' := by
  have hY := zOkM hO
  refine Met.ofW (cc := cX10_emit) (maxL := 3) (ret := (some .int)) (by decide) rfl ?_
  intro p e s m args below meth c s₁ B hml hv
  obtain ⟨rfl, hP⟩ := hv
  have hx := B.exec
  have hb := B.bytes
  have hr := B.returns
  have hts := atoms_spec (ws := vX10_emit) B.pre
  have hT : ∀ w ∈ zTB, w.before ([.ref (zad g 0), .int a1, .int a2] : List Value).toArray s = true := fun w h => hts w (List.mem_cons_of_mem _ h)
  have hown : s.vm.findClass RX10 = some m.cls := findClass_of_methodNamed B.named
  have hlocks := B.notSynchronized
  have P0 := hP.2
  have Z : zZ (zYM g) S s s.heap [] := ⟨hP.1, va_S.rf⟩
  have hf : ∀ w ∈ u_ws RX10 TX10 67, w.before ([.ref (zad g 0), .int a1, .int a2] : List Value).toArray s = true := fun w hw => hT w (mU_X10 w hw)
  have L65 := hT _ mF_X10_65
  have L208 := hT _ mF_X10_208
  have L68 := hT _ mF_X10_68
  have hl := lv_entry ([.ref (zad g 0), .int a1, .int a2] : List Value) (n := 3) (Nat.le_of_ble_eq_true rfl)
  rw [lg_entry_eq]
  generalize (lg_sl ([.ref (zad g 0), .int a1, .int a2] : List Value) ++ List.replicate (3 - (lg_sl ([.ref (zad g 0), .int a1, .int a2] : List Value)).length) Slot.unset).toArray = ls at hl ⊢
  have hl : lv_has ls 3 [(0, .ref (zad g 0)), (1, .int a1), (2, .int a2)] := hl
  unfold fX10_emit at h
  refine lv_aload_n hx hb dX10_emit_0 rfl (lv_at hl 0 rfl) ?_
  refine zgX10_19 hx hb hf hown P0 Z L65 dX10_emit_1 ?_
  refine lv_aload_n hx hb dX10_emit_4 rfl (lv_at hl 0 rfl) ?_
  refine zgX10_18 (v := (zI S 9)) hx hb hf hown P0 Z L208 rfl dX10_emit_5 ?_
  refine lv_iload_n hx hb dX10_emit_8 rfl (lv_at hl 1 rfl) ?_
  obtain ⟨hin, h⟩ := zck_s h
  refine zsM_9 hO hx hb P0 Z hin dX10_emit_9 (fun H locs Z => ?_)
  refine lv_aload_n hx hb dX10_emit_10 rfl (lv_at hl 0 rfl) ?_
  refine zgX10_20 hx hb hf hown P0 Z L68 dX10_emit_11 ?_
  refine lv_aload_n hx hb dX10_emit_14 rfl (lv_at hl 0 rfl) ?_
  refine zgX10_18 (v := (zI S 9)) hx hb hf hown P0 Z L208 rfl dX10_emit_15 ?_
  refine lv_iload_n hx hb dX10_emit_18 rfl (lv_at hl 2 rfl) ?_
  obtain ⟨hin, h⟩ := zck_s h
  refine zsM_10 hO hx hb P0 Z hin dX10_emit_19 (fun H locs Z => ?_)
  refine lv_aload_n hx hb dX10_emit_20 rfl (lv_at hl 0 rfl) ?_
  refine lv_dup hx hb dX10_emit_21 rfl ?_
  refine zgX10_18 (v := (zI S 9)) hx hb hf hown P0 Z L208 rfl dX10_emit_22 ?_
  refine lv_iconst (v := (nI 1)) hx hb dX10_emit_25 (by decide) ?_
  refine lv_iadd hx hb dX10_emit_26 ?_
  refine zpX10_18 hO hx hb hf hown P0 Z L208 dX10_emit_27 (fun H locs Z => ?_)
  refine lv_aload_n hx hb dX10_emit_30 rfl (lv_at hl 0 rfl) ?_
  refine zgX10_18 (v := ((zI S 9) + (nI 1))) hx hb hf hown P0 Z L208 rfl dX10_emit_31 ?_
  refine lv_iconst (v := (nI 1)) hx hb dX10_emit_34 (by decide) ?_
  refine lv_isub hx hb dX10_emit_35 ?_
  exact zr_i hY P0 hx hb hr hlocks h Z dX10_emit_36

set_option maxHeartbeats 4000000 in
set_option maxRecDepth 100000 in
theorem kX10_push {g : zG} (l : Launch) (hO : zinjM g) (a1 : Int32) (S : zSt) (r : Unit) (S' : zSt) (h : fX10_push a1 S = some (r, S')) : zMv (zYM g) l yX10_push vX10_push { frames := 0, cells := 0, slots := 0, locals := 0 } ([.ref (zad g 0), .int a1] : List Value) S S' := by
  have hY := zOkM hO
  refine Met.ofW (cc := cX10_push) (maxL := 2) (ret := none) (by decide) rfl ?_
  intro p e s m args below meth c s₁ B hml hv
  obtain ⟨rfl, hP⟩ := hv
  have hx := B.exec
  have hb := B.bytes
  have hr := B.returns
  have hts := atoms_spec (ws := vX10_push) B.pre
  have hT : ∀ w ∈ zTB, w.before ([.ref (zad g 0), .int a1] : List Value).toArray s = true := fun w h => hts w (List.mem_cons_of_mem _ h)
  have hown : s.vm.findClass RX10 = some m.cls := findClass_of_methodNamed B.named
  have hlocks := B.notSynchronized
  have P0 := hP.2
  have Z : zZ (zYM g) S s s.heap [] := ⟨hP.1, va_S.rf⟩
  have hf : ∀ w ∈ u_ws RX10 TX10 67, w.before ([.ref (zad g 0), .int a1] : List Value).toArray s = true := fun w hw => hT w (mU_X10 w hw)
  have L211 := hT _ mF_X10_211
  have L89 := hT _ mF_X10_89
  have L92 := hT _ mF_X10_92
  have L95 := hT _ mF_X10_95
  have hl := lv_entry ([.ref (zad g 0), .int a1] : List Value) (n := 2) (Nat.le_of_ble_eq_true rfl)
  rw [lg_entry_eq]
  generalize (lg_sl ([.ref (zad g 0), .int a1] : List Value) ++ List.replicate (2 - (lg_sl ([.ref (zad g 0), .int a1] : List Value)).length) Slot.unset).toArray = ls at hl ⊢
  have hl : lv_has ls 2 [(0, .ref (zad g 0)), (1, .int a1)] := hl
  unfold fX10_push at h
  refine lv_aload_n hx hb dX10_push_0 rfl (lv_at hl 0 rfl) ?_
  refine lv_dup hx hb dX10_push_1 rfl ?_
  refine zgX10_29 (v := (zI S 12)) hx hb hf hown P0 Z L211 rfl dX10_push_2 ?_
  refine lv_iconst (v := (nI 1)) hx hb dX10_push_5 (by decide) ?_
  refine lv_iadd hx hb dX10_push_6 ?_
  refine zpX10_29 hO hx hb hf hown P0 Z L211 dX10_push_7 (fun H locs Z => ?_)
  refine lv_aload_n hx hb dX10_push_10 rfl (lv_at hl 0 rfl) ?_
  refine zgX10_30 hx hb hf hown P0 Z L89 dX10_push_11 ?_
  refine lv_aload_n hx hb dX10_push_14 rfl (lv_at hl 0 rfl) ?_
  refine zgX10_29 (v := ((zI S 12) + (nI 1))) hx hb hf hown P0 Z L211 rfl dX10_push_15 ?_
  refine lv_iload_n hx hb dX10_push_18 rfl (lv_at hl 1 rfl) ?_
  obtain ⟨hin, h⟩ := zck_s h
  refine zsM_17 hO hx hb P0 Z hin dX10_push_19 (fun H locs Z => ?_)
  refine lv_aload_n hx hb dX10_push_20 rfl (lv_at hl 0 rfl) ?_
  refine zgX10_31 hx hb hf hown P0 Z L92 dX10_push_21 ?_
  refine lv_aload_n hx hb dX10_push_24 rfl (lv_at hl 0 rfl) ?_
  refine zgX10_29 (v := ((zI S 12) + (nI 1))) hx hb hf hown P0 Z L211 rfl dX10_push_25 ?_
  refine lv_iconst (v := (nI 0)) hx hb dX10_push_28 (by decide) ?_
  obtain ⟨hin, h⟩ := zck_s h
  refine zsM_18 hO hx hb P0 Z hin dX10_push_29 (fun H locs Z => ?_)
  refine lv_aload_n hx hb dX10_push_30 rfl (lv_at hl 0 rfl) ?_
  refine zgX10_32 hx hb hf hown P0 Z L95 dX10_push_31 ?_
  refine lv_aload_n hx hb dX10_push_34 rfl (lv_at hl 0 rfl) ?_
  refine zgX10_29 (v := ((zI S 12) + (nI 1))) hx hb hf hown P0 Z L211 rfl dX10_push_35 ?_
  refine lv_iconst (v := (nI 0)) hx hb dX10_push_38 (by decide) ?_
  obtain ⟨hin, h⟩ := zck_s h
  refine zsM_19 hO hx hb P0 Z hin dX10_push_39 (fun H locs Z => ?_)
  exact zr_v hY P0 hx hb hr hlocks h Z dX10_push_40

set_option maxHeartbeats 4000000 in
set_option maxRecDepth 100000 in
theorem kX10_atoms {g : zG} (l : Launch) (hO : zinjM g) (a1 : Int32) (S : zSt) (r : Unit) (S' : zSt) (h : fX10_atoms a1 S = some (r, S')) : zMv (zYM g) l yX10_atoms vX10_atoms { frames := 3, cells := 0, slots := 0, locals := 64 } ([.ref (zad g 0), .int a1] : List Value) S S' := by
  have hY := zOkM hO
  refine Met.ofW (cc := cX10_atoms) (maxL := 4) (ret := none) (by decide) rfl ?_
  intro p e s m args below meth c s₁ B hml hv
  obtain ⟨rfl, hP⟩ := hv
  have hx := B.exec
  have hb := B.bytes
  have hr := B.returns
  have hts := atoms_spec (ws := vX10_atoms) B.pre
  have hT : ∀ w ∈ zTB, w.before ([.ref (zad g 0), .int a1] : List Value).toArray s = true := fun w h => hts w (List.mem_cons_of_mem _ h)
  have hown : s.vm.findClass RX10 = some m.cls := findClass_of_methodNamed B.named
  have hlocks := B.notSynchronized
  have P0 := hP.2
  have Z : zZ (zYM g) S s s.heap [] := ⟨hP.1, va_S.rf⟩
  have hf : ∀ w ∈ u_ws RX10 TX10 67, w.before ([.ref (zad g 0), .int a1] : List Value).toArray s = true := fun w hw => hT w (mU_X10 w hw)
  have L92 := hT _ mF_X10_92
  have L177 := hT _ mF_X10_177
  have L89 := hT _ mF_X10_89
  have L230 := hT _ mF_X10_230
  have L95 := hT _ mF_X10_95
  have L211 := hT _ mF_X10_211
  have L71 := hT _ mF_X10_71
  have L190 := hT _ mF_X10_190
  have L74 := hT _ mF_X10_74
  have L174 := hT _ mF_X10_174
  have L77 := hT _ mF_X10_77
  have L214 := hT _ mF_X10_214
  have L184 := hT _ mF_X10_184
  have B154 : ∀ (S : zSt), fX10_atoms_154 S = some (r, S') → ∀ (H : Heap) (locs : List Loc), zZ (zYM g) S s H locs → ∀ ls : Array Slot, lv_has ls 4 [(0, .ref (zad g 0))] → W p l e (headSpec vX10_atoms { frames := 3, cells := 0, slots := 0, locals := 64 }).room s m ([.ref (zad g 0), .int a1] : List Value).toArray below meth c H locs 0 0 (MQ below (zQv (zYM g) S') ([.ref (zad g 0), .int a1] : List Value).toArray s 0 0 (zYM g).2.2.1) (F0 m 154 ls []) := by
    intro S h H locs Z ls hl
    unfold fX10_atoms_154 at h
    refine lv_aload_n hx hb dX10_atoms_154 rfl (lv_at hl 0 rfl) ?_
    refine lv_dup hx hb dX10_atoms_155 rfl ?_
    refine zgX10_29 (v := (zI S 12)) hx hb hf hown P0 Z L211 rfl dX10_atoms_156 ?_
    refine lv_iconst (v := (nI 1)) hx hb dX10_atoms_159 (by decide) ?_
    refine lv_isub hx hb dX10_atoms_160 ?_
    refine zpX10_29 hO hx hb hf hown P0 Z L211 dX10_atoms_161 (fun H locs Z => ?_)
    exact zr_v hY P0 hx hb hr hlocks h Z dX10_atoms_164
  have B223 : ∀ (x1 : Int32) (y0 : Int32) (S : zSt), fX10_atoms_223 x1 y0 S = some (r, S') → ∀ (H : Heap) (locs : List Loc), zZ (zYM g) S s H locs → ∀ ls : Array Slot, lv_has ls 4 [(0, .ref (zad g 0)), (1, .int x1)] → W p l e (headSpec vX10_atoms { frames := 3, cells := 0, slots := 0, locals := 64 }).room s m ([.ref (zad g 0), .int a1] : List Value).toArray below meth c H locs 0 0 (MQ below (zQv (zYM g) S') ([.ref (zad g 0), .int a1] : List Value).toArray s 0 0 (zYM g).2.2.1) (F0 m 223 ls [.int y0, .ref (zad g 0)]) := by
    intro x1 y0 S h H locs Z ls hl
    unfold fX10_atoms_223 at h
    obtain ⟨r24, S25, ec, h⟩ := zbd_s h
    refine zc_Vi hY P0 ⟨hx, hb, hml, hown, hT⟩ (As := [.int y0]) (rest := []) (kX10_room l hO y0 S r24 S25 ec) (cwV 1 hT (zgV mL_X10_237 mI_X10_room mS_X10_room mN_X10 mC_X10_room) rfl rfl rfl hdnX10_room ⟨Nat.le_of_ble_eq_true rfl, Nat.le_of_ble_eq_true rfl⟩) (zrecM_0 P0 Z) Z rfl hl.1 rfl (Nat.le_of_ble_eq_true rfl) dX10_atoms_223 (fun H locs Z => ?_)
    refine lv_if_eq (tgt := 255) hx hb dX10_atoms_226 (by decide) (fun q => ?_) (fun q => ?_)
    · have h := zi_t q h
      exact zr_v hY P0 hx hb hr hlocks h Z dX10_atoms_255
    · have h := zi_f q h
      refine lv_aload_n hx hb dX10_atoms_229 rfl (lv_at hl 0 rfl) ?_
      refine lv_dup hx hb dX10_atoms_230 rfl ?_
      refine zgX10_34 (v := (zI S25 13)) hx hb hf hown P0 Z L230 rfl dX10_atoms_231 ?_
      refine lv_iconst (v := (nI 1)) hx hb dX10_atoms_234 (by decide) ?_
      refine lv_iadd hx hb dX10_atoms_235 ?_
      refine zpX10_34 hO hx hb hf hown P0 Z L230 dX10_atoms_236 (fun H locs Z => ?_)
      refine lv_aload_n hx hb dX10_atoms_239 rfl (lv_at hl 0 rfl) ?_
      obtain ⟨r26, S27, ec, h⟩ := zbd_s h
      refine zc_Vv hY P0 ⟨hx, hb, hml, hown, hT⟩ (As := []) (rest := []) (kX10_token l hO  (wI S25 13 ((zI S25 13) + (nI 1))) r26 S27 ec) (cwV 0 hT (zgV mL_X10_205 mI_X10_token mS_X10_token mN_X10 mC_X10_token) rfl rfl rfl hdnX10_token ⟨Nat.le_of_ble_eq_true rfl, Nat.le_of_ble_eq_true rfl⟩) (zrecM_0 P0 Z) Z rfl hl.1 rfl (Nat.le_of_ble_eq_true rfl) dX10_atoms_240 (fun H locs Z => ?_)
      refine lv_aload_n hx hb dX10_atoms_243 rfl (lv_at hl 0 rfl) ?_
      refine zgX10_31 hx hb hf hown P0 Z L92 dX10_atoms_244 ?_
      refine lv_iload_n hx hb dX10_atoms_247 rfl (lv_at hl 1 rfl) ?_
      refine lv_iconst (v := (nI 1)) hx hb dX10_atoms_248 (by decide) ?_
      obtain ⟨hin, h⟩ := zck_s h
      refine zsM_18 hO hx hb P0 Z hin dX10_atoms_249 (fun H locs Z => ?_)
      refine lv_aload_n hx hb dX10_atoms_250 rfl (lv_at hl 0 rfl) ?_
      refine lv_iconst (v := (nI 0)) hx hb dX10_atoms_251 (by decide) ?_
      obtain ⟨r28, S29, ec, h⟩ := zbd_s h
      refine zc_Vv hY P0 ⟨hx, hb, hml, hown, hT⟩ (As := [.int (nI 0)]) (rest := []) (kX10_push l hO (nI 0) (wA S27 18 (x1.toNatClampNeg) (nI 1)) r28 S29 ec) (cwV 1 hT (zgV mL_X10_217 mI_X10_push mS_X10_push mN_X10 mC_X10_push) rfl rfl rfl hdnX10_push ⟨Nat.le_of_ble_eq_true rfl, Nat.le_of_ble_eq_true rfl⟩) (zrecM_0 P0 Z) Z rfl hl.1 rfl (Nat.le_of_ble_eq_true rfl) dX10_atoms_252 (fun H locs Z => ?_)
      exact zr_v hY P0 hx hb hr hlocks h Z dX10_atoms_255
  have B357 : ∀ (S : zSt), fX10_atoms_357 S = some (r, S') → ∀ (H : Heap) (locs : List Loc), zZ (zYM g) S s H locs → ∀ ls : Array Slot, lv_has ls 4 [(0, .ref (zad g 0))] → W p l e (headSpec vX10_atoms { frames := 3, cells := 0, slots := 0, locals := 64 }).room s m ([.ref (zad g 0), .int a1] : List Value).toArray below meth c H locs 0 0 (MQ below (zQv (zYM g) S') ([.ref (zad g 0), .int a1] : List Value).toArray s 0 0 (zYM g).2.2.1) (F0 m 357 ls []) := by
    intro S h H locs Z ls hl
    unfold fX10_atoms_357 at h
    refine lv_aload_n hx hb dX10_atoms_357 rfl (lv_at hl 0 rfl) ?_
    obtain ⟨r30, S31, ec, h⟩ := zbd_s h
    refine zc_Vv hY P0 ⟨hx, hb, hml, hown, hT⟩ (As := []) (rest := []) (kX10_token l hO  S r30 S31 ec) (cwV 0 hT (zgV mL_X10_205 mI_X10_token mS_X10_token mN_X10 mC_X10_token) rfl rfl rfl hdnX10_token ⟨Nat.le_of_ble_eq_true rfl, Nat.le_of_ble_eq_true rfl⟩) (zrecM_0 P0 Z) Z rfl hl.1 rfl (Nat.le_of_ble_eq_true rfl) dX10_atoms_358 (fun H locs Z => ?_)
    exact zr_v hY P0 hx hb hr hlocks h Z dX10_atoms_361
  have B182 : ∀ (x1 : Int32) (y0 : Int32) (S : zSt), fX10_atoms_182 x1 y0 S = some (r, S') → ∀ (H : Heap) (locs : List Loc), zZ (zYM g) S s H locs → ∀ ls : Array Slot, lv_has ls 4 [(0, .ref (zad g 0)), (1, .int x1)] → W p l e (headSpec vX10_atoms { frames := 3, cells := 0, slots := 0, locals := 64 }).room s m ([.ref (zad g 0), .int a1] : List Value).toArray below meth c H locs 0 0 (MQ below (zQv (zYM g) S') ([.ref (zad g 0), .int a1] : List Value).toArray s 0 0 (zYM g).2.2.1) (F0 m 182 ls [.int y0, .ref (zad g 0)]) := by
    intro x1 y0 S h H locs Z ls hl
    unfold fX10_atoms_182 at h
    obtain ⟨r13, S14, ec, h⟩ := zbd_s h
    refine zc_Vi hY P0 ⟨hx, hb, hml, hown, hT⟩ (As := [.int y0]) (rest := []) (kX10_room l hO y0 S r13 S14 ec) (cwV 1 hT (zgV mL_X10_237 mI_X10_room mS_X10_room mN_X10 mC_X10_room) rfl rfl rfl hdnX10_room ⟨Nat.le_of_ble_eq_true rfl, Nat.le_of_ble_eq_true rfl⟩) (zrecM_0 P0 Z) Z rfl hl.1 rfl (Nat.le_of_ble_eq_true rfl) dX10_atoms_182 (fun H locs Z => ?_)
    refine lv_if_ne (tgt := 189) hx hb dX10_atoms_185 (by decide) (fun q => ?_) (fun q => ?_)
    · have h := zi_f q h
      refine lv_aload_n hx hb dX10_atoms_189 rfl (lv_at hl 0 rfl) ?_
      refine zgX10_32 hx hb hf hown P0 Z L95 dX10_atoms_190 ?_
      refine lv_iload_n hx hb dX10_atoms_193 rfl (lv_at hl 1 rfl) ?_
      refine lv_dup2_11 hx hb dX10_atoms_194 rfl rfl ?_
      obtain ⟨v15, ev, hin, h⟩ := zld_s h
      refine zlM_19 hx hb P0 Z ev hin dX10_atoms_195 ?_
      refine lv_iconst (v := (nI 1)) hx hb dX10_atoms_196 (by decide) ?_
      refine lv_iadd hx hb dX10_atoms_197 ?_
      obtain ⟨hin, h⟩ := zck_s h
      refine zsM_19 hO hx hb P0 Z hin dX10_atoms_198 (fun H locs Z => ?_)
      refine lv_aload_n hx hb dX10_atoms_199 rfl (lv_at hl 0 rfl) ?_
      refine zgX10_4 (v := (zI S14 2)) hx hb hf hown P0 Z L177 rfl dX10_atoms_200 ?_
      refine lv_bipush (v := (nI 40)) hx hb dX10_atoms_203 (by decide) ?_
      refine lv_icmp_ne (tgt := 256) hx hb dX10_atoms_205 (by decide) (fun q => ?_) (fun q => ?_)
      · have h := zi_f q h
        refine lv_aload_n hx hb dX10_atoms_256 rfl (lv_at hl 0 rfl) ?_
        refine zgX10_4 (v := (zI S14 2)) hx hb hf hown P0 Z L177 rfl dX10_atoms_257 ?_
        refine lv_iconst (v := (nI 1)) hx hb dX10_atoms_260 (by decide) ?_
        refine lv_icmp_ne (tgt := 277) hx hb dX10_atoms_261 (by decide) (fun q => ?_) (fun q => ?_)
        · have h := zi_f q h
          refine lv_aload_n hx hb dX10_atoms_277 rfl (lv_at hl 0 rfl) ?_
          refine zgX10_4 (v := (zI S14 2)) hx hb hf hown P0 Z L177 rfl dX10_atoms_278 ?_
          refine lv_iconst (v := (nI 2)) hx hb dX10_atoms_281 (by decide) ?_
          refine lv_icmp_ne (tgt := 325) hx hb dX10_atoms_282 (by decide) (fun q => ?_) (fun q => ?_)
          · have h := zi_f q h
            refine lv_aload_n hx hb dX10_atoms_325 rfl (lv_at hl 0 rfl) ?_
            refine zgX10_4 (v := (zI S14 2)) hx hb hf hown P0 Z L177 rfl dX10_atoms_326 ?_
            refine lv_bipush (v := (nI 18)) hx hb dX10_atoms_329 (by decide) ?_
            refine lv_icmp_ne (tgt := 344) hx hb dX10_atoms_331 (by decide) (fun q => ?_) (fun q => ?_)
            · have h := zi_f q h
              refine lv_aload_n hx hb dX10_atoms_344 rfl (lv_at hl 0 rfl) ?_
              refine lv_iconst (v := (nI 3)) hx hb dX10_atoms_345 (by decide) ?_
              refine lv_aload_n hx hb dX10_atoms_346 rfl (lv_at hl 0 rfl) ?_
              refine zgX10_4 (v := (zI S14 2)) hx hb hf hown P0 Z L177 rfl dX10_atoms_347 ?_
              refine lv_bipush (v := (nI 10)) hx hb dX10_atoms_350 (by decide) ?_
              refine lv_isub hx hb dX10_atoms_352 ?_
              obtain ⟨r16, S17, ec, h⟩ := zbd_s h
              refine zc_Vi hY P0 ⟨hx, hb, hml, hown, hT⟩ (As := [.int (nI 3), .int ((zI S14 2) - (nI 10))]) (rest := []) (kX10_emit l hO (nI 3) ((zI S14 2) - (nI 10)) (wA S14 19 (x1.toNatClampNeg) (v15 + (nI 1))) r16 S17 ec) (cwV 2 hT (zgV mL_X10_233 mI_X10_emit mS_X10_emit mN_X10 mC_X10_emit) rfl rfl rfl hdnX10_emit ⟨Nat.le_of_ble_eq_true rfl, Nat.le_of_ble_eq_true rfl⟩) (zrecM_0 P0 Z) Z rfl hl.1 rfl (Nat.le_of_ble_eq_true rfl) dX10_atoms_353 (fun H locs Z => ?_)
              refine lv_pop hx hb dX10_atoms_356 rfl ?_
              exact B357 S17 h _ _ Z ls (lv_sub hl [0] rfl)
            · have h := zi_t q h
              refine lv_aload_n hx hb dX10_atoms_334 rfl (lv_at hl 0 rfl) ?_
              refine lv_iconst (v := (nI 2)) hx hb dX10_atoms_335 (by decide) ?_
              refine lv_iconst (v := (nI 0)) hx hb dX10_atoms_336 (by decide) ?_
              obtain ⟨r18, S19, ec, h⟩ := zbd_s h
              refine zc_Vi hY P0 ⟨hx, hb, hml, hown, hT⟩ (As := [.int (nI 2), .int (nI 0)]) (rest := []) (kX10_emit l hO (nI 2) (nI 0) (wA S14 19 (x1.toNatClampNeg) (v15 + (nI 1))) r18 S19 ec) (cwV 2 hT (zgV mL_X10_233 mI_X10_emit mS_X10_emit mN_X10 mC_X10_emit) rfl rfl rfl hdnX10_emit ⟨Nat.le_of_ble_eq_true rfl, Nat.le_of_ble_eq_true rfl⟩) (zrecM_0 P0 Z) Z rfl hl.1 rfl (Nat.le_of_ble_eq_true rfl) dX10_atoms_337 (fun H locs Z => ?_)
              refine lv_pop hx hb dX10_atoms_340 rfl ?_
              refine lv_goto (tgt := 357) hx hb dX10_atoms_341 (by decide) ?_
              exact B357 S19 h _ _ Z ls (lv_sub hl [0] rfl)
          · have h := zi_t q h
            refine lv_aload_n hx hb dX10_atoms_285 rfl (lv_at hl 0 rfl) ?_
            refine lv_iconst (v := (nI 4)) hx hb dX10_atoms_286 (by decide) ?_
            refine lv_iconst (v := (nI 0)) hx hb dX10_atoms_287 (by decide) ?_
            obtain ⟨r20, S21, ec, h⟩ := zbd_s h
            refine zc_Vi hY P0 ⟨hx, hb, hml, hown, hT⟩ (As := [.int (nI 4), .int (nI 0)]) (rest := []) (kX10_emit l hO (nI 4) (nI 0) (wA S14 19 (x1.toNatClampNeg) (v15 + (nI 1))) r20 S21 ec) (cwV 2 hT (zgV mL_X10_233 mI_X10_emit mS_X10_emit mN_X10 mC_X10_emit) rfl rfl rfl hdnX10_emit ⟨Nat.le_of_ble_eq_true rfl, Nat.le_of_ble_eq_true rfl⟩) (zrecM_0 P0 Z) Z rfl hl.1 rfl (Nat.le_of_ble_eq_true rfl) dX10_atoms_288 (fun H locs Z => ?_)
            refine lv_istore_n (lv' := [(3, .int r20), (0, .ref (zad g 0)), (1, .int x1)]) hx hb dX10_atoms_291 rfl hl (by decide) rfl (fun ls hl => ?_)
            refine lv_aload_n hx hb dX10_atoms_292 rfl (lv_at hl 1 rfl) ?_
            refine zgX10_21 hx hb hf hown P0 Z L71 dX10_atoms_293 ?_
            refine lv_iload_n hx hb dX10_atoms_296 rfl (lv_at hl 0 rfl) ?_
            refine lv_aload_n hx hb dX10_atoms_297 rfl (lv_at hl 1 rfl) ?_
            refine zgX10_7 (v := (zL S21 0)) hx hb hf hown P0 Z L190 rfl dX10_atoms_298 ?_
            obtain ⟨hin, h⟩ := zck_s h
            refine zsM_11 hO hx hb P0 Z hin dX10_atoms_301 (fun H locs Z => ?_)
            refine lv_aload_n hx hb dX10_atoms_302 rfl (lv_at hl 1 rfl) ?_
            refine zgX10_22 hx hb hf hown P0 Z L74 dX10_atoms_303 ?_
            refine lv_iload_n hx hb dX10_atoms_306 rfl (lv_at hl 0 rfl) ?_
            refine lv_aload_n hx hb dX10_atoms_307 rfl (lv_at hl 1 rfl) ?_
            refine zgX10_5 (v := (zI S21 3)) hx hb hf hown P0 Z L174 rfl dX10_atoms_308 ?_
            obtain ⟨hin, h⟩ := zck_s h
            refine zsM_12 hO hx hb P0 Z hin dX10_atoms_311 (fun H locs Z => ?_)
            refine lv_aload_n hx hb dX10_atoms_312 rfl (lv_at hl 1 rfl) ?_
            refine zgX10_23 hx hb hf hown P0 Z L77 dX10_atoms_313 ?_
            refine lv_iload_n hx hb dX10_atoms_316 rfl (lv_at hl 0 rfl) ?_
            refine lv_aload_n hx hb dX10_atoms_317 rfl (lv_at hl 1 rfl) ?_
            refine zgX10_35 (v := (zI S21 14)) hx hb hf hown P0 Z L214 rfl dX10_atoms_318 ?_
            obtain ⟨hin, h⟩ := zck_s h
            refine zsM_13 hO hx hb P0 Z hin dX10_atoms_321 (fun H locs Z => ?_)
            refine lv_goto (tgt := 357) hx hb dX10_atoms_322 (by decide) ?_
            exact B357 (wA (wA (wB S21 11 (r20.toNatClampNeg) (zL S21 0)) 12 (r20.toNatClampNeg) (zI S21 3)) 13 (r20.toNatClampNeg) (zI S21 14)) h _ _ Z ls (lv_sub hl [1] rfl)
        · have h := zi_t q h
          refine lv_aload_n hx hb dX10_atoms_264 rfl (lv_at hl 0 rfl) ?_
          refine lv_iconst (v := (nI 1)) hx hb dX10_atoms_265 (by decide) ?_
          refine lv_aload_n hx hb dX10_atoms_266 rfl (lv_at hl 0 rfl) ?_
          refine zgX10_8 (v := (zI S14 5)) hx hb hf hown P0 Z L184 rfl dX10_atoms_267 ?_
          obtain ⟨r22, S23, ec, h⟩ := zbd_s h
          refine zc_Vi hY P0 ⟨hx, hb, hml, hown, hT⟩ (As := [.int (nI 1), .int (zI S14 5)]) (rest := []) (kX10_emit l hO (nI 1) (zI S14 5) (wA S14 19 (x1.toNatClampNeg) (v15 + (nI 1))) r22 S23 ec) (cwV 2 hT (zgV mL_X10_233 mI_X10_emit mS_X10_emit mN_X10 mC_X10_emit) rfl rfl rfl hdnX10_emit ⟨Nat.le_of_ble_eq_true rfl, Nat.le_of_ble_eq_true rfl⟩) (zrecM_0 P0 Z) Z rfl hl.1 rfl (Nat.le_of_ble_eq_true rfl) dX10_atoms_270 (fun H locs Z => ?_)
          refine lv_pop hx hb dX10_atoms_273 rfl ?_
          refine lv_goto (tgt := 357) hx hb dX10_atoms_274 (by decide) ?_
          exact B357 S23 h _ _ Z ls (lv_sub hl [0] rfl)
      · have h := zi_t q h
        refine lv_aload_n hx hb dX10_atoms_208 rfl (lv_at hl 0 rfl) ?_
        refine lv_aload_n hx hb dX10_atoms_209 rfl (lv_at hl 0 rfl) ?_
        refine zgX10_34 (v := (zI S14 13)) hx hb hf hown P0 Z L230 rfl dX10_atoms_210 ?_
        refine lv_bipush (v := (nI 12)) hx hb dX10_atoms_213 (by decide) ?_
        refine lv_icmp_ge (tgt := 222) hx hb dX10_atoms_215 (by decide) (fun q => ?_) (fun q => ?_)
        · have h := zi_t q h
          refine lv_iconst (v := (nI 0)) hx hb dX10_atoms_222 (by decide) ?_
          exact B223 x1 (nI 0) (wA S14 19 (x1.toNatClampNeg) (v15 + (nI 1))) h _ _ Z ls (lv_sub hl [0, 1] rfl)
        · have h := zi_f q h
          refine lv_iconst (v := (nI 1)) hx hb dX10_atoms_218 (by decide) ?_
          refine lv_goto (tgt := 223) hx hb dX10_atoms_219 (by decide) ?_
          exact B223 x1 (nI 1) (wA S14 19 (x1.toNatClampNeg) (v15 + (nI 1))) h _ _ Z ls (lv_sub hl [0, 1] rfl)
    · have h := zi_t q h
      exact zr_v hY P0 hx hb hr hlocks h Z dX10_atoms_188
  have B110 : ∀ (x1 : Int32) (y0 : Int32) (S : zSt), fX10_atoms_110 x1 y0 S = some (r, S') → ∀ (H : Heap) (locs : List Loc), zZ (zYM g) S s H locs → ∀ ls : Array Slot, lv_has ls 4 [(0, .ref (zad g 0)), (1, .int x1)] → W p l e (headSpec vX10_atoms { frames := 3, cells := 0, slots := 0, locals := 64 }).room s m ([.ref (zad g 0), .int a1] : List Value).toArray below meth c H locs 0 0 (MQ below (zQv (zYM g) S') ([.ref (zad g 0), .int a1] : List Value).toArray s 0 0 (zYM g).2.2.1) (F0 m 110 ls [.int y0]) := by
    intro x1 y0 S h H locs Z ls hl
    unfold fX10_atoms_110 at h
    refine lv_istore_n (lv' := [(2, .int y0), (0, .ref (zad g 0)), (1, .int x1)]) hx hb dX10_atoms_110 rfl hl (by decide) rfl (fun ls hl => ?_)
    refine lv_iload_n hx hb dX10_atoms_111 rfl (lv_at hl 0 rfl) ?_
    refine lv_if_ne (tgt := 165) hx hb dX10_atoms_112 (by decide) (fun q => ?_) (fun q => ?_)
    · have h := zi_f q h
      refine lv_aload_n hx hb dX10_atoms_165 rfl (lv_at hl 1 rfl) ?_
      refine lv_aload_n hx hb dX10_atoms_166 rfl (lv_at hl 1 rfl) ?_
      refine zgX10_32 hx hb hf hown P0 Z L95 dX10_atoms_167 ?_
      refine lv_iload_n hx hb dX10_atoms_170 rfl (lv_at hl 2 rfl) ?_
      obtain ⟨v5, ev, hin, h⟩ := zld_s h
      refine zlM_19 hx hb P0 Z ev hin dX10_atoms_171 ?_
      refine lv_bipush (v := (nI 10)) hx hb dX10_atoms_172 (by decide) ?_
      refine lv_icmp_ge (tgt := 181) hx hb dX10_atoms_174 (by decide) (fun q => ?_) (fun q => ?_)
      · have h := zi_t q h
        refine lv_iconst (v := (nI 0)) hx hb dX10_atoms_181 (by decide) ?_
        exact B182 x1 (nI 0) S h _ _ Z ls (lv_sub hl [1, 2] rfl)
      · have h := zi_f q h
        refine lv_iconst (v := (nI 1)) hx hb dX10_atoms_177 (by decide) ?_
        refine lv_goto (tgt := 182) hx hb dX10_atoms_178 (by decide) ?_
        exact B182 x1 (nI 1) S h _ _ Z ls (lv_sub hl [1, 2] rfl)
    · have h := zi_t q h
      refine lv_aload_n hx hb dX10_atoms_115 rfl (lv_at hl 1 rfl) ?_
      refine zgX10_32 hx hb hf hown P0 Z L95 dX10_atoms_116 ?_
      refine lv_iload_n hx hb dX10_atoms_119 rfl (lv_at hl 2 rfl) ?_
      obtain ⟨v6, ev, hin, h⟩ := zld_s h
      refine zlM_19 hx hb P0 Z ev hin dX10_atoms_120 ?_
      refine lv_if_ne (tgt := 131) hx hb dX10_atoms_121 (by decide) (fun q => ?_) (fun q => ?_)
      · have h := zi_f q h
        refine lv_aload_n hx hb dX10_atoms_131 rfl (lv_at hl 1 rfl) ?_
        refine zgX10_32 hx hb hf hown P0 Z L95 dX10_atoms_132 ?_
        refine lv_iload_n hx hb dX10_atoms_135 rfl (lv_at hl 2 rfl) ?_
        obtain ⟨v7, ev, hin, h⟩ := zld_s h
        refine zlM_19 hx hb P0 Z ev hin dX10_atoms_136 ?_
        refine lv_iconst (v := (nI 1)) hx hb dX10_atoms_137 (by decide) ?_
        refine lv_icmp_le (tgt := 154) hx hb dX10_atoms_138 (by decide) (fun q => ?_) (fun q => ?_)
        · have h := zi_t q h
          exact B154 S h _ _ Z ls (lv_sub hl [1] rfl)
        · have h := zi_f q h
          refine lv_aload_n hx hb dX10_atoms_141 rfl (lv_at hl 1 rfl) ?_
          refine lv_bipush (v := (nI 8)) hx hb dX10_atoms_142 (by decide) ?_
          refine lv_aload_n hx hb dX10_atoms_144 rfl (lv_at hl 1 rfl) ?_
          refine zgX10_32 hx hb hf hown P0 Z L95 dX10_atoms_145 ?_
          refine lv_iload_n hx hb dX10_atoms_148 rfl (lv_at hl 2 rfl) ?_
          obtain ⟨v8, ev, hin, h⟩ := zld_s h
          refine zlM_19 hx hb P0 Z ev hin dX10_atoms_149 ?_
          obtain ⟨r9, S10, ec, h⟩ := zbd_s h
          refine zc_Vi hY P0 ⟨hx, hb, hml, hown, hT⟩ (As := [.int (nI 8), .int v8]) (rest := []) (kX10_emit l hO (nI 8) v8 S r9 S10 ec) (cwV 2 hT (zgV mL_X10_233 mI_X10_emit mS_X10_emit mN_X10 mC_X10_emit) rfl rfl rfl hdnX10_emit ⟨Nat.le_of_ble_eq_true rfl, Nat.le_of_ble_eq_true rfl⟩) (zrecM_0 P0 Z) Z rfl hl.1 rfl (Nat.le_of_ble_eq_true rfl) dX10_atoms_150 (fun H locs Z => ?_)
          refine lv_pop hx hb dX10_atoms_153 rfl ?_
          exact B154 S10 h _ _ Z ls (lv_sub hl [1] rfl)
      · have h := zi_t q h
        refine lv_aload_n hx hb dX10_atoms_124 rfl (lv_at hl 1 rfl) ?_
        refine lv_iconst (v := (nI 0)) hx hb dX10_atoms_125 (by decide) ?_
        obtain ⟨r11, S12, ec, h⟩ := zbd_s h
        refine zc_Vi hY P0 ⟨hx, hb, hml, hown, hT⟩ (As := [.int (nI 0)]) (rest := []) (kX10_can l hO (nI 0) S r11 S12 ec) (cwV 1 hT (zgV mL_X10_201 mI_X10_can mS_X10_can mN_X10 mC_X10_can) rfl rfl rfl hdnX10_can ⟨Nat.le_of_ble_eq_true rfl, Nat.le_of_ble_eq_true rfl⟩) (zrecM_0 P0 Z) Z rfl hl.1 rfl (Nat.le_of_ble_eq_true rfl) dX10_atoms_126 (fun H locs Z => ?_)
        refine lv_pop hx hb dX10_atoms_129 rfl ?_
        exact zr_v hY P0 hx hb hr hlocks h Z dX10_atoms_130
  have B105 : ∀ (x1 : Int32) (S : zSt), fX10_atoms_105 x1 S = some (r, S') → ∀ (H : Heap) (locs : List Loc), zZ (zYM g) S s H locs → ∀ ls : Array Slot, lv_has ls 4 [(0, .ref (zad g 0)), (1, .int x1)] → W p l e (headSpec vX10_atoms { frames := 3, cells := 0, slots := 0, locals := 64 }).room s m ([.ref (zad g 0), .int a1] : List Value).toArray below meth c H locs 0 0 (MQ below (zQv (zYM g) S') ([.ref (zad g 0), .int a1] : List Value).toArray s 0 0 (zYM g).2.2.1) (F0 m 105 ls []) := by
    intro x1 S h H locs Z ls hl
    unfold fX10_atoms_105 at h
    refine lv_iconst (v := (nI 1)) hx hb dX10_atoms_105 (by decide) ?_
    refine lv_goto (tgt := 110) hx hb dX10_atoms_106 (by decide) ?_
    exact B110 x1 (nI 1) S h _ _ Z ls (lv_sub hl [0, 1] rfl)
  have B109 : ∀ (x1 : Int32) (S : zSt), fX10_atoms_109 x1 S = some (r, S') → ∀ (H : Heap) (locs : List Loc), zZ (zYM g) S s H locs → ∀ ls : Array Slot, lv_has ls 4 [(0, .ref (zad g 0)), (1, .int x1)] → W p l e (headSpec vX10_atoms { frames := 3, cells := 0, slots := 0, locals := 64 }).room s m ([.ref (zad g 0), .int a1] : List Value).toArray below meth c H locs 0 0 (MQ below (zQv (zYM g) S') ([.ref (zad g 0), .int a1] : List Value).toArray s 0 0 (zYM g).2.2.1) (F0 m 109 ls []) := by
    intro x1 S h H locs Z ls hl
    unfold fX10_atoms_109 at h
    refine lv_iconst (v := (nI 0)) hx hb dX10_atoms_109 (by decide) ?_
    exact B110 x1 (nI 0) S h _ _ Z ls (lv_sub hl [0, 1] rfl)
  have B55 : ∀ (x1 : Int32) (S : zSt), fX10_atoms_55 x1 S = some (r, S') → ∀ (H : Heap) (locs : List Loc), zZ (zYM g) S s H locs → ∀ ls : Array Slot, lv_has ls 4 [(0, .ref (zad g 0)), (1, .int x1)] → W p l e (headSpec vX10_atoms { frames := 3, cells := 0, slots := 0, locals := 64 }).room s m ([.ref (zad g 0), .int a1] : List Value).toArray below meth c H locs 0 0 (MQ below (zQv (zYM g) S') ([.ref (zad g 0), .int a1] : List Value).toArray s 0 0 (zYM g).2.2.1) (F0 m 55 ls []) := by
    intro x1 S h H locs Z ls hl
    unfold fX10_atoms_55 at h
    refine lv_aload_n hx hb dX10_atoms_55 rfl (lv_at hl 0 rfl) ?_
    refine zgX10_31 hx hb hf hown P0 Z L92 dX10_atoms_56 ?_
    refine lv_iload_n hx hb dX10_atoms_59 rfl (lv_at hl 1 rfl) ?_
    refine lv_iconst (v := (nI 2)) hx hb dX10_atoms_60 (by decide) ?_
    obtain ⟨hin, h⟩ := zck_s h
    refine zsM_18 hO hx hb P0 Z hin dX10_atoms_61 (fun H locs Z => ?_)
    refine lv_aload_n hx hb dX10_atoms_62 rfl (lv_at hl 0 rfl) ?_
    refine zgX10_4 (v := (zI S 2)) hx hb hf hown P0 Z L177 rfl dX10_atoms_63 ?_
    refine lv_iconst (v := (nI 1)) hx hb dX10_atoms_66 (by decide) ?_
    refine lv_icmp_eq (tgt := 105) hx hb dX10_atoms_67 (by decide) (fun q => ?_) (fun q => ?_)
    · have h := zi_t q h
      exact B105 x1 (wA S 18 (x1.toNatClampNeg) (nI 2)) h _ _ Z ls (lv_sub hl [0, 1] rfl)
    · have h := zi_f q h
      refine lv_aload_n hx hb dX10_atoms_70 rfl (lv_at hl 0 rfl) ?_
      refine zgX10_4 (v := (zI S 2)) hx hb hf hown P0 Z L177 rfl dX10_atoms_71 ?_
      refine lv_iconst (v := (nI 2)) hx hb dX10_atoms_74 (by decide) ?_
      refine lv_icmp_eq (tgt := 105) hx hb dX10_atoms_75 (by decide) (fun q => ?_) (fun q => ?_)
      · have h := zi_t q h
        exact B105 x1 (wA S 18 (x1.toNatClampNeg) (nI 2)) h _ _ Z ls (lv_sub hl [0, 1] rfl)
      · have h := zi_f q h
        refine lv_aload_n hx hb dX10_atoms_78 rfl (lv_at hl 0 rfl) ?_
        refine zgX10_4 (v := (zI S 2)) hx hb hf hown P0 Z L177 rfl dX10_atoms_79 ?_
        refine lv_bipush (v := (nI 40)) hx hb dX10_atoms_82 (by decide) ?_
        refine lv_icmp_eq (tgt := 105) hx hb dX10_atoms_84 (by decide) (fun q => ?_) (fun q => ?_)
        · have h := zi_t q h
          exact B105 x1 (wA S 18 (x1.toNatClampNeg) (nI 2)) h _ _ Z ls (lv_sub hl [0, 1] rfl)
        · have h := zi_f q h
          refine lv_aload_n hx hb dX10_atoms_87 rfl (lv_at hl 0 rfl) ?_
          refine zgX10_4 (v := (zI S 2)) hx hb hf hown P0 Z L177 rfl dX10_atoms_88 ?_
          refine lv_bipush (v := (nI 10)) hx hb dX10_atoms_91 (by decide) ?_
          refine lv_icmp_lt (tgt := 109) hx hb dX10_atoms_93 (by decide) (fun q => ?_) (fun q => ?_)
          · have h := zi_t q h
            exact B109 x1 (wA S 18 (x1.toNatClampNeg) (nI 2)) h _ _ Z ls (lv_sub hl [0, 1] rfl)
          · have h := zi_f q h
            refine lv_aload_n hx hb dX10_atoms_96 rfl (lv_at hl 0 rfl) ?_
            refine zgX10_4 (v := (zI S 2)) hx hb hf hown P0 Z L177 rfl dX10_atoms_97 ?_
            refine lv_bipush (v := (nI 23)) hx hb dX10_atoms_100 (by decide) ?_
            refine lv_icmp_ge (tgt := 109) hx hb dX10_atoms_102 (by decide) (fun q => ?_) (fun q => ?_)
            · have h := zi_t q h
              exact B109 x1 (wA S 18 (x1.toNatClampNeg) (nI 2)) h _ _ Z ls (lv_sub hl [0, 1] rfl)
            · have h := zi_f q h
              exact B105 x1 (wA S 18 (x1.toNatClampNeg) (nI 2)) h _ _ Z ls (lv_sub hl [0, 1] rfl)
  have B25 : ∀ (x1 : Int32) (S : zSt), fX10_atoms_25 x1 S = some (r, S') → ∀ (H : Heap) (locs : List Loc), zZ (zYM g) S s H locs → ∀ ls : Array Slot, lv_has ls 4 [(0, .ref (zad g 0)), (1, .int x1)] → W p l e (headSpec vX10_atoms { frames := 3, cells := 0, slots := 0, locals := 64 }).room s m ([.ref (zad g 0), .int a1] : List Value).toArray below meth c H locs 0 0 (MQ below (zQv (zYM g) S') ([.ref (zad g 0), .int a1] : List Value).toArray s 0 0 (zYM g).2.2.1) (F0 m 25 ls []) := by
    intro x1 S h H locs Z ls hl
    unfold fX10_atoms_25 at h
    refine lv_aload_n hx hb dX10_atoms_25 rfl (lv_at hl 0 rfl) ?_
    refine zgX10_31 hx hb hf hown P0 Z L92 dX10_atoms_26 ?_
    refine lv_iload_n hx hb dX10_atoms_29 rfl (lv_at hl 1 rfl) ?_
    obtain ⟨v2, ev, hin, h⟩ := zld_s h
    refine zlM_18 hx hb P0 Z ev hin dX10_atoms_30 ?_
    refine lv_iconst (v := (nI 1)) hx hb dX10_atoms_31 (by decide) ?_
    refine lv_icmp_ne (tgt := 55) hx hb dX10_atoms_32 (by decide) (fun q => ?_) (fun q => ?_)
    · have h := zi_f q h
      exact B55 x1 S h _ _ Z ls (lv_sub hl [0, 1] rfl)
    · have h := zi_t q h
      refine lv_aload_n hx hb dX10_atoms_35 rfl (lv_at hl 0 rfl) ?_
      refine lv_bipush (v := (nI 41)) hx hb dX10_atoms_36 (by decide) ?_
      obtain ⟨r3, S4, ec, h⟩ := zbd_s h
      refine zc_Vi hY P0 ⟨hx, hb, hml, hown, hT⟩ (As := [.int (nI 41)]) (rest := []) (kX10_need l hO (nI 41) S r3 S4 ec) (cwV 1 hT (zgV mL_X10_227 mI_X10_need mS_X10_need mN_X10 mC_X10_need) rfl rfl rfl hdnX10_need ⟨Nat.le_of_ble_eq_true rfl, Nat.le_of_ble_eq_true rfl⟩) (zrecM_0 P0 Z) Z rfl hl.1 rfl (Nat.le_of_ble_eq_true rfl) dX10_atoms_38 (fun H locs Z => ?_)
      refine lv_if_ne (tgt := 45) hx hb dX10_atoms_41 (by decide) (fun q => ?_) (fun q => ?_)
      · have h := zi_f q h
        refine lv_aload_n hx hb dX10_atoms_45 rfl (lv_at hl 0 rfl) ?_
        refine lv_dup hx hb dX10_atoms_46 rfl ?_
        refine zgX10_34 (v := (zI S4 13)) hx hb hf hown P0 Z L230 rfl dX10_atoms_47 ?_
        refine lv_iconst (v := (nI 1)) hx hb dX10_atoms_50 (by decide) ?_
        refine lv_isub hx hb dX10_atoms_51 ?_
        refine zpX10_34 hO hx hb hf hown P0 Z L230 dX10_atoms_52 (fun H locs Z => ?_)
        exact B55 x1 (wI S4 13 ((zI S4 13) - (nI 1))) h _ _ Z ls (lv_sub hl [0, 1] rfl)
      · have h := zi_t q h
        exact zr_v hY P0 hx hb hr hlocks h Z dX10_atoms_44
  have hl := lv_entry ([.ref (zad g 0), .int a1] : List Value) (n := 4) (Nat.le_of_ble_eq_true rfl)
  rw [lg_entry_eq]
  generalize (lg_sl ([.ref (zad g 0), .int a1] : List Value) ++ List.replicate (4 - (lg_sl ([.ref (zad g 0), .int a1] : List Value)).length) Slot.unset).toArray = ls at hl ⊢
  have hl : lv_has ls 4 [(0, .ref (zad g 0)), (1, .int a1)] := hl
  unfold fX10_atoms at h
  refine lv_aload_n hx hb dX10_atoms_0 rfl (lv_at hl 0 rfl) ?_
  refine zgX10_31 hx hb hf hown P0 Z L92 dX10_atoms_1 ?_
  refine lv_iload_n hx hb dX10_atoms_4 rfl (lv_at hl 1 rfl) ?_
  obtain ⟨v1, ev, hin, h⟩ := zld_s h
  refine zlM_18 hx hb P0 Z ev hin dX10_atoms_5 ?_
  refine lv_if_ne (tgt := 25) hx hb dX10_atoms_6 (by decide) (fun q => ?_) (fun q => ?_)
  · have h := zi_f q h
    exact B25 a1 S h _ _ Z ls (lv_sub hl [0, 1] rfl)
  · have h := zi_t q h
    refine lv_aload_n hx hb dX10_atoms_9 rfl (lv_at hl 0 rfl) ?_
    refine zgX10_4 (v := (zI S 2)) hx hb hf hown P0 Z L177 rfl dX10_atoms_10 ?_
    refine lv_iconst (v := (nI 3)) hx hb dX10_atoms_13 (by decide) ?_
    refine lv_icmp_ne (tgt := 25) hx hb dX10_atoms_14 (by decide) (fun q => ?_) (fun q => ?_)
    · have h := zi_f q h
      exact B25 a1 S h _ _ Z ls (lv_sub hl [0, 1] rfl)
    · have h := zi_t q h
      refine lv_aload_n hx hb dX10_atoms_17 rfl (lv_at hl 0 rfl) ?_
      refine zgX10_30 hx hb hf hown P0 Z L89 dX10_atoms_18 ?_
      refine lv_iload_n hx hb dX10_atoms_21 rfl (lv_at hl 1 rfl) ?_
      refine lv_iconst (v := (nI 1)) hx hb dX10_atoms_22 (by decide) ?_
      obtain ⟨hin, h⟩ := zck_s h
      refine zsM_17 hO hx hb P0 Z hin dX10_atoms_23 (fun H locs Z => ?_)
      exact zr_v hY P0 hx hb hr hlocks h Z dX10_atoms_24

set_option maxHeartbeats 4000000 in
set_option maxRecDepth 100000 in
theorem kX10_let {g : zG} (l : Launch) (hO : zinjM g) (a1 : Int32) (S : zSt) (r : Unit) (S' : zSt) (h : fX10_let a1 S = some (r, S')) : zMv (zYM g) l yX10_let vX10_let { frames := 3, cells := 0, slots := 0, locals := 64 } ([.ref (zad g 0), .int a1] : List Value) S S' := by
  have hY := zOkM hO
  refine Met.ofW (cc := cX10_let) (maxL := 4) (ret := none) (by decide) rfl ?_
  intro p e s m args below meth c s₁ B hml hv
  obtain ⟨rfl, hP⟩ := hv
  have hx := B.exec
  have hb := B.bytes
  have hr := B.returns
  have hts := atoms_spec (ws := vX10_let) B.pre
  have hT : ∀ w ∈ zTB, w.before ([.ref (zad g 0), .int a1] : List Value).toArray s = true := fun w h => hts w (List.mem_cons_of_mem _ h)
  have hown : s.vm.findClass RX10 = some m.cls := findClass_of_methodNamed B.named
  have hlocks := B.notSynchronized
  have P0 := hP.2
  have Z : zZ (zYM g) S s s.heap [] := ⟨hP.1, va_S.rf⟩
  have hf : ∀ w ∈ u_ws RX10 TX10 67, w.before ([.ref (zad g 0), .int a1] : List Value).toArray s = true := fun w hw => hT w (mU_X10 w hw)
  have L92 := hT _ mF_X10_92
  have L230 := hT _ mF_X10_230
  have L98 := hT _ mF_X10_98
  have L240 := hT _ mF_X10_240
  have L80 := hT _ mF_X10_80
  have L214 := hT _ mF_X10_214
  have L83 := hT _ mF_X10_83
  have L101 := hT _ mF_X10_101
  have L177 := hT _ mF_X10_177
  have L211 := hT _ mF_X10_211
  have L243 := hT _ mF_X10_243
  have L86 := hT _ mF_X10_86
  have L190 := hT _ mF_X10_190
  have L104 := hT _ mF_X10_104
  have L107 := hT _ mF_X10_107
  have L246 := hT _ mF_X10_246
  have L174 := hT _ mF_X10_174
  have B284 : ∀ (n : Nat) (x1 : Int32) (x2 : Int32) (x3 : Int32) (S : zSt), fX10_let_284L n (x1, x2, x3, S) = some (r, S') → ∀ (H : Heap) (locs : List Loc), zZ (zYM g) S s H locs → ∀ ls : Array Slot, lv_has ls 4 [(0, .ref (zad g 0)), (1, .int x1), (2, .int x2), (3, .int x3)] → W p l e (headSpec vX10_let { frames := 3, cells := 0, slots := 0, locals := 64 }).room s m ([.ref (zad g 0), .int a1] : List Value).toArray below meth c H locs 0 0 (MQ below (zQv (zYM g) S') ([.ref (zad g 0), .int a1] : List Value).toArray s 0 0 (zYM g).2.2.1) (F0 m 284 ls []) := by
    intro n
    induction n with
    | zero => intro x1 x2 x3 S h; exact absurd h (fun h => nomatch h)
    | succ n K284 =>
      intro x1 x2 x3 S h H locs Z ls hl
      have h : fX10_let_284 (fX10_let_284L n) x1 x2 x3 S = some (r, S') := h
      unfold fX10_let_284 at h
      refine lv_iload_n hx hb dX10_let_284 rfl (lv_at hl 3 rfl) ?_
      refine lv_aload_n hx hb dX10_let_285 rfl (lv_at hl 0 rfl) ?_
      refine zgX10_27 (v := (zI S 11)) hx hb hf hown P0 Z L243 rfl dX10_let_286 ?_
      refine lv_icmp_ge (tgt := 332) hx hb dX10_let_289 (by decide) (fun q => ?_) (fun q => ?_)
      · have h := zi_t q h
        refine lv_aload_n hx hb dX10_let_332 rfl (lv_at hl 0 rfl) ?_
        refine zgX10_28 hx hb hf hown P0 Z L86 dX10_let_333 ?_
        refine lv_aload_n hx hb dX10_let_336 rfl (lv_at hl 0 rfl) ?_
        refine zgX10_27 (v := (zI S 11)) hx hb hf hown P0 Z L243 rfl dX10_let_337 ?_
        refine lv_aload_n hx hb dX10_let_340 rfl (lv_at hl 0 rfl) ?_
        refine zgX10_7 (v := (zL S 0)) hx hb hf hown P0 Z L190 rfl dX10_let_341 ?_
        obtain ⟨hin, h⟩ := zck_s h
        refine zsM_16 hO hx hb P0 Z hin dX10_let_344 (fun H locs Z => ?_)
        refine lv_aload_n hx hb dX10_let_345 rfl (lv_at hl 0 rfl) ?_
        refine zgX10_37 hx hb hf hown P0 Z L104 dX10_let_346 ?_
        refine lv_aload_n hx hb dX10_let_349 rfl (lv_at hl 0 rfl) ?_
        refine zgX10_27 (v := (zI S 11)) hx hb hf hown P0 Z L243 rfl dX10_let_350 ?_
        refine lv_iload_n hx hb dX10_let_353 rfl (lv_at hl 2 rfl) ?_
        obtain ⟨hin, h⟩ := zck_s h
        refine zsM_22 hO hx hb P0 Z hin dX10_let_354 (fun H locs Z => ?_)
        refine lv_aload_n hx hb dX10_let_355 rfl (lv_at hl 0 rfl) ?_
        refine zgX10_38 hx hb hf hown P0 Z L107 dX10_let_356 ?_
        refine lv_aload_n hx hb dX10_let_359 rfl (lv_at hl 0 rfl) ?_
        refine zgX10_27 (v := (zI S 11)) hx hb hf hown P0 Z L243 rfl dX10_let_360 ?_
        refine lv_aload_n hx hb dX10_let_363 rfl (lv_at hl 0 rfl) ?_
        refine zgX10_11 (v := (zI S 8)) hx hb hf hown P0 Z L246 rfl dX10_let_364 ?_
        refine lv_iconst (v := (nI 1)) hx hb dX10_let_367 (by decide) ?_
        refine lv_isub hx hb dX10_let_368 ?_
        obtain ⟨hin, h⟩ := zck_s h
        refine zsM_23 hO hx hb P0 Z hin dX10_let_369 (fun H locs Z => ?_)
        refine lv_aload_n hx hb dX10_let_370 rfl (lv_at hl 0 rfl) ?_
        refine zgX10_36 hx hb hf hown P0 Z L101 dX10_let_371 ?_
        refine lv_iload_n hx hb dX10_let_374 rfl (lv_at hl 1 rfl) ?_
        refine lv_aload_n hx hb dX10_let_375 rfl (lv_at hl 0 rfl) ?_
        refine zgX10_27 (v := (zI S 11)) hx hb hf hown P0 Z L243 rfl dX10_let_376 ?_
        obtain ⟨hin, h⟩ := zck_s h
        refine zsM_21 hO hx hb P0 Z hin dX10_let_379 (fun H locs Z => ?_)
        refine lv_aload_n hx hb dX10_let_380 rfl (lv_at hl 0 rfl) ?_
        refine lv_dup hx hb dX10_let_381 rfl ?_
        refine zgX10_27 (v := (zI S 11)) hx hb hf hown P0 Z L243 rfl dX10_let_382 ?_
        refine lv_iconst (v := (nI 1)) hx hb dX10_let_385 (by decide) ?_
        refine lv_iadd hx hb dX10_let_386 ?_
        refine zpX10_27 hO hx hb hf hown P0 Z L243 dX10_let_387 (fun H locs Z => ?_)
        refine lv_aload_n hx hb dX10_let_390 rfl (lv_at hl 0 rfl) ?_
        refine zgX10_26 hx hb hf hown P0 Z L83 dX10_let_391 ?_
        refine lv_iload_n hx hb dX10_let_394 rfl (lv_at hl 2 rfl) ?_
        refine lv_dup2_11 hx hb dX10_let_395 rfl rfl ?_
        obtain ⟨v28, ev, hin, h⟩ := zld_s h
        refine zlM_15 hx hb P0 Z ev hin dX10_let_396 ?_
        refine lv_iconst (v := (nI 1)) hx hb dX10_let_397 (by decide) ?_
        refine lv_iadd hx hb dX10_let_398 ?_
        obtain ⟨hin, h⟩ := zck_s h
        refine zsM_15 hO hx hb P0 Z hin dX10_let_399 (fun H locs Z => ?_)
        refine lv_aload_n hx hb dX10_let_400 rfl (lv_at hl 0 rfl) ?_
        obtain ⟨r29, S30, ec, h⟩ := zbd_s h
        refine zc_Vv hY P0 ⟨hx, hb, hml, hown, hT⟩ (As := []) (rest := []) (kX10_token l hO  (wA (wI (wA (wA (wA (wB S 16 ((zI S 11).toNatClampNeg) (zL S 0)) 22 ((zI S 11).toNatClampNeg) x2) 23 ((zI S 11).toNatClampNeg) ((zI S 8) - (nI 1))) 21 (x1.toNatClampNeg) (zI S 11)) 11 ((zI S 11) + (nI 1))) 15 (x2.toNatClampNeg) (v28 + (nI 1))) r29 S30 ec) (cwV 0 hT (zgV mL_X10_205 mI_X10_token mS_X10_token mN_X10 mC_X10_token) rfl rfl rfl hdnX10_token ⟨Nat.le_of_ble_eq_true rfl, Nat.le_of_ble_eq_true rfl⟩) (zrecM_0 P0 Z) Z rfl hl.1 rfl (Nat.le_of_ble_eq_true rfl) dX10_let_401 (fun H locs Z => ?_)
        refine lv_aload_n hx hb dX10_let_404 rfl (lv_at hl 0 rfl) ?_
        refine lv_bipush (v := (nI 61)) hx hb dX10_let_405 (by decide) ?_
        obtain ⟨r31, S32, ec, h⟩ := zbd_s h
        refine zc_Vi hY P0 ⟨hx, hb, hml, hown, hT⟩ (As := [.int (nI 61)]) (rest := []) (kX10_need l hO (nI 61) S30 r31 S32 ec) (cwV 1 hT (zgV mL_X10_227 mI_X10_need mS_X10_need mN_X10 mC_X10_need) rfl rfl rfl hdnX10_need ⟨Nat.le_of_ble_eq_true rfl, Nat.le_of_ble_eq_true rfl⟩) (zrecM_0 P0 Z) Z rfl hl.1 rfl (Nat.le_of_ble_eq_true rfl) dX10_let_407 (fun H locs Z => ?_)
        refine lv_if_eq (tgt := 425) hx hb dX10_let_410 (by decide) (fun q => ?_) (fun q => ?_)
        · have h := zi_t q h
          exact zr_v hY P0 hx hb hr hlocks h Z dX10_let_425
        · have h := zi_f q h
          refine lv_aload_n hx hb dX10_let_413 rfl (lv_at hl 0 rfl) ?_
          refine zgX10_31 hx hb hf hown P0 Z L92 dX10_let_414 ?_
          refine lv_iload_n hx hb dX10_let_417 rfl (lv_at hl 1 rfl) ?_
          refine lv_iconst (v := (nI 2)) hx hb dX10_let_418 (by decide) ?_
          obtain ⟨hin, h⟩ := zck_s h
          refine zsM_18 hO hx hb P0 Z hin dX10_let_419 (fun H locs Z => ?_)
          refine lv_aload_n hx hb dX10_let_420 rfl (lv_at hl 0 rfl) ?_
          refine lv_iconst (v := (nI 0)) hx hb dX10_let_421 (by decide) ?_
          obtain ⟨r33, S34, ec, h⟩ := zbd_s h
          refine zc_Vv hY P0 ⟨hx, hb, hml, hown, hT⟩ (As := [.int (nI 0)]) (rest := []) (kX10_push l hO (nI 0) (wA S32 18 (x1.toNatClampNeg) (nI 2)) r33 S34 ec) (cwV 1 hT (zgV mL_X10_217 mI_X10_push mS_X10_push mN_X10 mC_X10_push) rfl rfl rfl hdnX10_push ⟨Nat.le_of_ble_eq_true rfl, Nat.le_of_ble_eq_true rfl⟩) (zrecM_0 P0 Z) Z rfl hl.1 rfl (Nat.le_of_ble_eq_true rfl) dX10_let_422 (fun H locs Z => ?_)
          exact zr_v hY P0 hx hb hr hlocks h Z dX10_let_425
      · have h := zi_f q h
        refine lv_aload_n hx hb dX10_let_292 rfl (lv_at hl 0 rfl) ?_
        refine zgX10_37 hx hb hf hown P0 Z L104 dX10_let_293 ?_
        refine lv_iload_n hx hb dX10_let_296 rfl (lv_at hl 3 rfl) ?_
        obtain ⟨v35, ev, hin, h⟩ := zld_s h
        refine zlM_22 hx hb P0 Z ev hin dX10_let_297 ?_
        refine lv_iload_n hx hb dX10_let_298 rfl (lv_at hl 2 rfl) ?_
        refine lv_icmp_ne (tgt := 326) hx hb dX10_let_299 (by decide) (fun q => ?_) (fun q => ?_)
        · have h := zi_f q h
          refine lv_iinc (v := (x3 + (nI 1))) (lv' := [(3, .int (x3 + (nI 1))), (0, .ref (zad g 0)), (1, .int x1), (2, .int x2)]) hx hb dX10_let_326 hl (k := 3) rfl rfl (by decide) rfl (fun ls hl => ?_)
          refine lv_goto (tgt := 284) hx hb dX10_let_329 (by decide) ?_
          exact K284 x1 x2 (x3 + (nI 1)) S h _ _ Z ls (lv_sub hl [1, 2, 3, 0] rfl)
        · have h := zi_t q h
          refine lv_aload_n hx hb dX10_let_302 rfl (lv_at hl 0 rfl) ?_
          refine zgX10_28 hx hb hf hown P0 Z L86 dX10_let_303 ?_
          refine lv_iload_n hx hb dX10_let_306 rfl (lv_at hl 3 rfl) ?_
          obtain ⟨v36, ev, hin, h⟩ := zld_s h
          refine zlM_16 hx hb P0 Z ev hin dX10_let_307 ?_
          refine lv_aload_n hx hb dX10_let_308 rfl (lv_at hl 0 rfl) ?_
          refine zgX10_7 (v := (zL S 0)) hx hb hf hown P0 Z L190 rfl dX10_let_309 ?_
          refine W.lcmp hx hb dX10_let_312 ?_
          refine lv_if_ne (tgt := 326) hx hb dX10_let_313 (by decide) (fun q => ?_) (fun q => ?_)
          · have h := zi_f q h
            refine lv_iinc (v := (x3 + (nI 1))) (lv' := [(3, .int (x3 + (nI 1))), (0, .ref (zad g 0)), (1, .int x1), (2, .int x2)]) hx hb dX10_let_326 hl (k := 3) rfl rfl (by decide) rfl (fun ls hl => ?_)
            refine lv_goto (tgt := 284) hx hb dX10_let_329 (by decide) ?_
            exact K284 x1 x2 (x3 + (nI 1)) S h _ _ Z ls (lv_sub hl [1, 2, 3, 0] rfl)
          · have h := zi_t q h
            refine lv_aload_n hx hb dX10_let_316 rfl (lv_at hl 0 rfl) ?_
            refine lv_iconst (v := (nI 4)) hx hb dX10_let_317 (by decide) ?_
            refine lv_aload_n hx hb dX10_let_318 rfl (lv_at hl 0 rfl) ?_
            refine zgX10_5 (v := (zI S 3)) hx hb hf hown P0 Z L174 rfl dX10_let_319 ?_
            obtain ⟨r37, S38, ec, h⟩ := zbd_s h
            refine zc_Vv hY P0 ⟨hx, hb, hml, hown, hT⟩ (As := [.int (nI 4), .int (zI S 3)]) (rest := []) (kX10_fail l hO (nI 4) (zI S 3) S r37 S38 ec) (cwV 2 hT (zgV mL_X10_197 mI_X10_fail mS_X10_fail mN_X10 mC_X10_fail) rfl rfl rfl hdnX10_fail ⟨Nat.le_of_ble_eq_true rfl, Nat.le_of_ble_eq_true rfl⟩) (zrecM_0 P0 Z) Z rfl hl.1 rfl (Nat.le_of_ble_eq_true rfl) dX10_let_322 (fun H locs Z => ?_)
            exact zr_v hY P0 hx hb hr hlocks h Z dX10_let_325
  have B275 : ∀ (x1 : Int32) (x2 : Int32) (y0 : Int32) (S : zSt), fX10_let_275 x1 x2 y0 S = some (r, S') → ∀ (H : Heap) (locs : List Loc), zZ (zYM g) S s H locs → ∀ ls : Array Slot, lv_has ls 4 [(0, .ref (zad g 0)), (1, .int x1), (2, .int x2)] → W p l e (headSpec vX10_let { frames := 3, cells := 0, slots := 0, locals := 64 }).room s m ([.ref (zad g 0), .int a1] : List Value).toArray below meth c H locs 0 0 (MQ below (zQv (zYM g) S') ([.ref (zad g 0), .int a1] : List Value).toArray s 0 0 (zYM g).2.2.1) (F0 m 275 ls [.int y0, .ref (zad g 0)]) := by
    intro x1 x2 y0 S h H locs Z ls hl
    unfold fX10_let_275 at h
    obtain ⟨r26, S27, ec, h⟩ := zbd_s h
    refine zc_Vi hY P0 ⟨hx, hb, hml, hown, hT⟩ (As := [.int y0]) (rest := []) (kX10_room l hO y0 S r26 S27 ec) (cwV 1 hT (zgV mL_X10_237 mI_X10_room mS_X10_room mN_X10 mC_X10_room) rfl rfl rfl hdnX10_room ⟨Nat.le_of_ble_eq_true rfl, Nat.le_of_ble_eq_true rfl⟩) (zrecM_0 P0 Z) Z rfl hl.1 rfl (Nat.le_of_ble_eq_true rfl) dX10_let_275 (fun H locs Z => ?_)
    refine lv_if_ne (tgt := 282) hx hb dX10_let_278 (by decide) (fun q => ?_) (fun q => ?_)
    · have h := zi_f q h
      refine lv_iconst (v := (nI 0)) hx hb dX10_let_282 (by decide) ?_
      refine lv_istore_n (lv' := [(3, .int (nI 0)), (0, .ref (zad g 0)), (1, .int x1), (2, .int x2)]) hx hb dX10_let_283 rfl hl (by decide) rfl (fun ls hl => ?_)
      exact B284 zFU x1 x2 (nI 0) S27 h _ _ Z ls (lv_sub hl [1, 2, 3, 0] rfl)
    · have h := zi_t q h
      exact zr_v hY P0 hx hb hr hlocks h Z dX10_let_281
  have B252 : ∀ (x1 : Int32) (x2 : Int32) (y0 : Int32) (S : zSt), fX10_let_252 x1 x2 y0 S = some (r, S') → ∀ (H : Heap) (locs : List Loc), zZ (zYM g) S s H locs → ∀ ls : Array Slot, lv_has ls 4 [(0, .ref (zad g 0)), (1, .int x1), (2, .int x2)] → W p l e (headSpec vX10_let { frames := 3, cells := 0, slots := 0, locals := 64 }).room s m ([.ref (zad g 0), .int a1] : List Value).toArray below meth c H locs 0 0 (MQ below (zQv (zYM g) S') ([.ref (zad g 0), .int a1] : List Value).toArray s 0 0 (zYM g).2.2.1) (F0 m 252 ls [.int y0, .ref (zad g 0)]) := by
    intro x1 x2 y0 S h H locs Z ls hl
    unfold fX10_let_252 at h
    obtain ⟨r23, S24, ec, h⟩ := zbd_s h
    refine zc_Vi hY P0 ⟨hx, hb, hml, hown, hT⟩ (As := [.int y0]) (rest := []) (kX10_can l hO y0 S r23 S24 ec) (cwV 1 hT (zgV mL_X10_201 mI_X10_can mS_X10_can mN_X10 mC_X10_can) rfl rfl rfl hdnX10_can ⟨Nat.le_of_ble_eq_true rfl, Nat.le_of_ble_eq_true rfl⟩) (zrecM_0 P0 Z) Z rfl hl.1 rfl (Nat.le_of_ble_eq_true rfl) dX10_let_252 (fun H locs Z => ?_)
    refine lv_if_eq (tgt := 281) hx hb dX10_let_255 (by decide) (fun q => ?_) (fun q => ?_)
    · have h := zi_t q h
      exact zr_v hY P0 hx hb hr hlocks h Z dX10_let_281
    · have h := zi_f q h
      refine lv_aload_n hx hb dX10_let_258 rfl (lv_at hl 0 rfl) ?_
      refine lv_aload_n hx hb dX10_let_259 rfl (lv_at hl 0 rfl) ?_
      refine zgX10_26 hx hb hf hown P0 Z L83 dX10_let_260 ?_
      refine lv_iload_n hx hb dX10_let_263 rfl (lv_at hl 2 rfl) ?_
      obtain ⟨v25, ev, hin, h⟩ := zld_s h
      refine zlM_15 hx hb P0 Z ev hin dX10_let_264 ?_
      refine lv_bipush (v := (nI 6)) hx hb dX10_let_265 (by decide) ?_
      refine lv_icmp_ge (tgt := 274) hx hb dX10_let_267 (by decide) (fun q => ?_) (fun q => ?_)
      · have h := zi_t q h
        refine lv_iconst (v := (nI 0)) hx hb dX10_let_274 (by decide) ?_
        exact B275 x1 x2 (nI 0) S24 h _ _ Z ls (lv_sub hl [0, 1, 2] rfl)
      · have h := zi_f q h
        refine lv_iconst (v := (nI 1)) hx hb dX10_let_270 (by decide) ?_
        refine lv_goto (tgt := 275) hx hb dX10_let_271 (by decide) ?_
        exact B275 x1 x2 (nI 1) S24 h _ _ Z ls (lv_sub hl [0, 1, 2] rfl)
  have B238 : ∀ (x1 : Int32) (x2 : Int32) (S : zSt), fX10_let_238 x1 x2 S = some (r, S') → ∀ (H : Heap) (locs : List Loc), zZ (zYM g) S s H locs → ∀ ls : Array Slot, lv_has ls 4 [(0, .ref (zad g 0)), (1, .int x1), (2, .int x2)] → W p l e (headSpec vX10_let { frames := 3, cells := 0, slots := 0, locals := 64 }).room s m ([.ref (zad g 0), .int a1] : List Value).toArray below meth c H locs 0 0 (MQ below (zQv (zYM g) S') ([.ref (zad g 0), .int a1] : List Value).toArray s 0 0 (zYM g).2.2.1) (F0 m 238 ls []) := by
    intro x1 x2 S h H locs Z ls hl
    unfold fX10_let_238 at h
    refine lv_aload_n hx hb dX10_let_238 rfl (lv_at hl 0 rfl) ?_
    refine lv_aload_n hx hb dX10_let_239 rfl (lv_at hl 0 rfl) ?_
    refine zgX10_4 (v := (zI S 2)) hx hb hf hown P0 Z L177 rfl dX10_let_240 ?_
    refine lv_iconst (v := (nI 2)) hx hb dX10_let_243 (by decide) ?_
    refine lv_icmp_ne (tgt := 251) hx hb dX10_let_244 (by decide) (fun q => ?_) (fun q => ?_)
    · have h := zi_f q h
      refine lv_iconst (v := (nI 0)) hx hb dX10_let_251 (by decide) ?_
      exact B252 x1 x2 (nI 0) S h _ _ Z ls (lv_sub hl [0, 1, 2] rfl)
    · have h := zi_t q h
      refine lv_iconst (v := (nI 1)) hx hb dX10_let_247 (by decide) ?_
      refine lv_goto (tgt := 252) hx hb dX10_let_248 (by decide) ?_
      exact B252 x1 x2 (nI 1) S h _ _ Z ls (lv_sub hl [0, 1, 2] rfl)
  have B163 : ∀ (x1 : Int32) (x2 : Int32) (S : zSt), fX10_let_163 x1 x2 S = some (r, S') → ∀ (H : Heap) (locs : List Loc), zZ (zYM g) S s H locs → ∀ ls : Array Slot, lv_has ls 4 [(0, .ref (zad g 0)), (1, .int x1), (2, .int x2)] → W p l e (headSpec vX10_let { frames := 3, cells := 0, slots := 0, locals := 64 }).room s m ([.ref (zad g 0), .int a1] : List Value).toArray below meth c H locs 0 0 (MQ below (zQv (zYM g) S') ([.ref (zad g 0), .int a1] : List Value).toArray s 0 0 (zYM g).2.2.1) (F0 m 163 ls []) := by
    intro x1 x2 S h H locs Z ls hl
    unfold fX10_let_163 at h
    refine lv_aload_n hx hb dX10_let_163 rfl (lv_at hl 0 rfl) ?_
    refine zgX10_31 hx hb hf hown P0 Z L92 dX10_let_164 ?_
    refine lv_iload_n hx hb dX10_let_167 rfl (lv_at hl 1 rfl) ?_
    obtain ⟨v16, ev, hin, h⟩ := zld_s h
    refine zlM_18 hx hb P0 Z ev hin dX10_let_168 ?_
    refine lv_iconst (v := (nI 3)) hx hb dX10_let_169 (by decide) ?_
    refine lv_icmp_ne (tgt := 204) hx hb dX10_let_170 (by decide) (fun q => ?_) (fun q => ?_)
    · have h := zi_f q h
      refine lv_aload_n hx hb dX10_let_204 rfl (lv_at hl 0 rfl) ?_
      refine zgX10_26 hx hb hf hown P0 Z L83 dX10_let_205 ?_
      refine lv_iload_n hx hb dX10_let_208 rfl (lv_at hl 2 rfl) ?_
      obtain ⟨v17, ev, hin, h⟩ := zld_s h
      refine zlM_15 hx hb P0 Z ev hin dX10_let_209 ?_
      refine lv_if_le (tgt := 238) hx hb dX10_let_210 (by decide) (fun q => ?_) (fun q => ?_)
      · have h := zi_t q h
        exact B238 x1 x2 S h _ _ Z ls (lv_sub hl [0, 1, 2] rfl)
      · have h := zi_f q h
        refine lv_aload_n hx hb dX10_let_213 rfl (lv_at hl 0 rfl) ?_
        refine zgX10_4 (v := (zI S 2)) hx hb hf hown P0 Z L177 rfl dX10_let_214 ?_
        refine lv_iconst (v := (nI 4)) hx hb dX10_let_217 (by decide) ?_
        refine lv_icmp_ne (tgt := 238) hx hb dX10_let_218 (by decide) (fun q => ?_) (fun q => ?_)
        · have h := zi_f q h
          exact B238 x1 x2 S h _ _ Z ls (lv_sub hl [0, 1, 2] rfl)
        · have h := zi_t q h
          refine lv_aload_n hx hb dX10_let_221 rfl (lv_at hl 0 rfl) ?_
          obtain ⟨r18, S19, ec, h⟩ := zbd_s h
          refine zc_Vv hY P0 ⟨hx, hb, hml, hown, hT⟩ (As := []) (rest := []) (kX10_token l hO  S r18 S19 ec) (cwV 0 hT (zgV mL_X10_205 mI_X10_token mS_X10_token mN_X10 mC_X10_token) rfl rfl rfl hdnX10_token ⟨Nat.le_of_ble_eq_true rfl, Nat.le_of_ble_eq_true rfl⟩) (zrecM_0 P0 Z) Z rfl hl.1 rfl (Nat.le_of_ble_eq_true rfl) dX10_let_222 (fun H locs Z => ?_)
          refine lv_aload_n hx hb dX10_let_225 rfl (lv_at hl 0 rfl) ?_
          refine zgX10_31 hx hb hf hown P0 Z L92 dX10_let_226 ?_
          refine lv_iload_n hx hb dX10_let_229 rfl (lv_at hl 1 rfl) ?_
          refine lv_iconst (v := (nI 3)) hx hb dX10_let_230 (by decide) ?_
          obtain ⟨hin, h⟩ := zck_s h
          refine zsM_18 hO hx hb P0 Z hin dX10_let_231 (fun H locs Z => ?_)
          refine lv_aload_n hx hb dX10_let_232 rfl (lv_at hl 0 rfl) ?_
          refine lv_iconst (v := (nI 0)) hx hb dX10_let_233 (by decide) ?_
          obtain ⟨r20, S21, ec, h⟩ := zbd_s h
          refine zc_Vv hY P0 ⟨hx, hb, hml, hown, hT⟩ (As := [.int (nI 0)]) (rest := []) (kX10_push l hO (nI 0) (wA S19 18 (x1.toNatClampNeg) (nI 3)) r20 S21 ec) (cwV 1 hT (zgV mL_X10_217 mI_X10_push mS_X10_push mN_X10 mC_X10_push) rfl rfl rfl hdnX10_push ⟨Nat.le_of_ble_eq_true rfl, Nat.le_of_ble_eq_true rfl⟩) (zrecM_0 P0 Z) Z rfl hl.1 rfl (Nat.le_of_ble_eq_true rfl) dX10_let_234 (fun H locs Z => ?_)
          exact zr_v hY P0 hx hb hr hlocks h Z dX10_let_237
    · have h := zi_t q h
      refine lv_aload_n hx hb dX10_let_173 rfl (lv_at hl 0 rfl) ?_
      refine lv_dup hx hb dX10_let_174 rfl ?_
      refine zgX10_34 (v := (zI S 13)) hx hb hf hown P0 Z L230 rfl dX10_let_175 ?_
      refine lv_iconst (v := (nI 1)) hx hb dX10_let_178 (by decide) ?_
      refine lv_isub hx hb dX10_let_179 ?_
      refine zpX10_34 hO hx hb hf hown P0 Z L230 dX10_let_180 (fun H locs Z => ?_)
      refine lv_aload_n hx hb dX10_let_183 rfl (lv_at hl 0 rfl) ?_
      refine lv_aload_n hx hb dX10_let_184 rfl (lv_at hl 0 rfl) ?_
      refine zgX10_25 hx hb hf hown P0 Z L80 dX10_let_185 ?_
      refine lv_iload_n hx hb dX10_let_188 rfl (lv_at hl 2 rfl) ?_
      obtain ⟨v22, ev, hin, h⟩ := zld_s h
      refine zlM_14 hx hb P0 Z ev hin dX10_let_189 ?_
      refine zpX10_35 hO hx hb hf hown P0 Z L214 dX10_let_190 (fun H locs Z => ?_)
      refine lv_aload_n hx hb dX10_let_193 rfl (lv_at hl 0 rfl) ?_
      refine lv_dup hx hb dX10_let_194 rfl ?_
      refine zgX10_29 (v := (zI S 12)) hx hb hf hown P0 Z L211 rfl dX10_let_195 ?_
      refine lv_iconst (v := (nI 1)) hx hb dX10_let_198 (by decide) ?_
      refine lv_isub hx hb dX10_let_199 ?_
      refine zpX10_29 hO hx hb hf hown P0 Z L211 dX10_let_200 (fun H locs Z => ?_)
      exact zr_v hY P0 hx hb hr hlocks h Z dX10_let_203
  have B116 : ∀ (x1 : Int32) (S : zSt), fX10_let_116 x1 S = some (r, S') → ∀ (H : Heap) (locs : List Loc), zZ (zYM g) S s H locs → ∀ ls : Array Slot, lv_has ls 4 [(0, .ref (zad g 0)), (1, .int x1)] → W p l e (headSpec vX10_let { frames := 3, cells := 0, slots := 0, locals := 64 }).room s m ([.ref (zad g 0), .int a1] : List Value).toArray below meth c H locs 0 0 (MQ below (zQv (zYM g) S') ([.ref (zad g 0), .int a1] : List Value).toArray s 0 0 (zYM g).2.2.1) (F0 m 116 ls []) := by
    intro x1 S h H locs Z ls hl
    unfold fX10_let_116 at h
    refine lv_aload_n hx hb dX10_let_116 rfl (lv_at hl 0 rfl) ?_
    refine zgX10_33 hx hb hf hown P0 Z L98 dX10_let_117 ?_
    refine lv_iload_n hx hb dX10_let_120 rfl (lv_at hl 1 rfl) ?_
    obtain ⟨v9, ev, hin, h⟩ := zld_s h
    refine zlM_20 hx hb P0 Z ev hin dX10_let_121 ?_
    refine lv_istore_n (lv' := [(2, .int v9), (0, .ref (zad g 0)), (1, .int x1)]) hx hb dX10_let_122 rfl hl (by decide) rfl (fun ls hl => ?_)
    refine lv_aload_n hx hb dX10_let_123 rfl (lv_at hl 1 rfl) ?_
    refine zgX10_31 hx hb hf hown P0 Z L92 dX10_let_124 ?_
    refine lv_iload_n hx hb dX10_let_127 rfl (lv_at hl 2 rfl) ?_
    obtain ⟨v10, ev, hin, h⟩ := zld_s h
    refine zlM_18 hx hb P0 Z ev hin dX10_let_128 ?_
    refine lv_iconst (v := (nI 2)) hx hb dX10_let_129 (by decide) ?_
    refine lv_icmp_ne (tgt := 163) hx hb dX10_let_130 (by decide) (fun q => ?_) (fun q => ?_)
    · have h := zi_f q h
      exact B163 x1 v9 S h _ _ Z ls (lv_sub hl [1, 2, 0] rfl)
    · have h := zi_t q h
      refine lv_aload_n hx hb dX10_let_133 rfl (lv_at hl 1 rfl) ?_
      refine lv_bipush (v := (nI 10)) hx hb dX10_let_134 (by decide) ?_
      refine lv_aload_n hx hb dX10_let_136 rfl (lv_at hl 1 rfl) ?_
      refine zgX10_36 hx hb hf hown P0 Z L101 dX10_let_137 ?_
      refine lv_iload_n hx hb dX10_let_140 rfl (lv_at hl 2 rfl) ?_
      obtain ⟨v11, ev, hin, h⟩ := zld_s h
      refine zlM_21 hx hb P0 Z ev hin dX10_let_141 ?_
      obtain ⟨r12, S13, ec, h⟩ := zbd_s h
      refine zc_Vi hY P0 ⟨hx, hb, hml, hown, hT⟩ (As := [.int (nI 10), .int v11]) (rest := []) (kX10_emit l hO (nI 10) v11 S r12 S13 ec) (cwV 2 hT (zgV mL_X10_233 mI_X10_emit mS_X10_emit mN_X10 mC_X10_emit) rfl rfl rfl hdnX10_emit ⟨Nat.le_of_ble_eq_true rfl, Nat.le_of_ble_eq_true rfl⟩) (zrecM_0 P0 Z) Z rfl hl.1 rfl (Nat.le_of_ble_eq_true rfl) dX10_let_142 (fun H locs Z => ?_)
      refine lv_pop hx hb dX10_let_145 rfl ?_
      refine lv_aload_n hx hb dX10_let_146 rfl (lv_at hl 1 rfl) ?_
      refine lv_bipush (v := (nI 59)) hx hb dX10_let_147 (by decide) ?_
      obtain ⟨r14, S15, ec, h⟩ := zbd_s h
      refine zc_Vi hY P0 ⟨hx, hb, hml, hown, hT⟩ (As := [.int (nI 59)]) (rest := []) (kX10_need l hO (nI 59) S13 r14 S15 ec) (cwV 1 hT (zgV mL_X10_227 mI_X10_need mS_X10_need mN_X10 mC_X10_need) rfl rfl rfl hdnX10_need ⟨Nat.le_of_ble_eq_true rfl, Nat.le_of_ble_eq_true rfl⟩) (zrecM_0 P0 Z) Z rfl hl.1 rfl (Nat.le_of_ble_eq_true rfl) dX10_let_149 (fun H locs Z => ?_)
      refine lv_if_ne (tgt := 156) hx hb dX10_let_152 (by decide) (fun q => ?_) (fun q => ?_)
      · have h := zi_f q h
        refine lv_aload_n hx hb dX10_let_156 rfl (lv_at hl 1 rfl) ?_
        refine zgX10_31 hx hb hf hown P0 Z L92 dX10_let_157 ?_
        refine lv_iload_n hx hb dX10_let_160 rfl (lv_at hl 2 rfl) ?_
        refine lv_iconst (v := (nI 1)) hx hb dX10_let_161 (by decide) ?_
        obtain ⟨hin, h⟩ := zck_s h
        refine zsM_18 hO hx hb P0 Z hin dX10_let_162 (fun H locs Z => ?_)
        exact B163 x1 v9 (wA S15 18 (x1.toNatClampNeg) (nI 1)) h _ _ Z ls (lv_sub hl [1, 2, 0] rfl)
      · have h := zi_t q h
        exact zr_v hY P0 hx hb hr hlocks h Z dX10_let_155
  have B24 : ∀ (x1 : Int32) (y0 : Int32) (S : zSt), fX10_let_24 x1 y0 S = some (r, S') → ∀ (H : Heap) (locs : List Loc), zZ (zYM g) S s H locs → ∀ ls : Array Slot, lv_has ls 4 [(0, .ref (zad g 0)), (1, .int x1)] → W p l e (headSpec vX10_let { frames := 3, cells := 0, slots := 0, locals := 64 }).room s m ([.ref (zad g 0), .int a1] : List Value).toArray below meth c H locs 0 0 (MQ below (zQv (zYM g) S') ([.ref (zad g 0), .int a1] : List Value).toArray s 0 0 (zYM g).2.2.1) (F0 m 24 ls [.int y0, .ref (zad g 0)]) := by
    intro x1 y0 S h H locs Z ls hl
    unfold fX10_let_24 at h
    obtain ⟨r2, S3, ec, h⟩ := zbd_s h
    refine zc_Vi hY P0 ⟨hx, hb, hml, hown, hT⟩ (As := [.int y0]) (rest := []) (kX10_room l hO y0 S r2 S3 ec) (cwV 1 hT (zgV mL_X10_237 mI_X10_room mS_X10_room mN_X10 mC_X10_room) rfl rfl rfl hdnX10_room ⟨Nat.le_of_ble_eq_true rfl, Nat.le_of_ble_eq_true rfl⟩) (zrecM_0 P0 Z) Z rfl hl.1 rfl (Nat.le_of_ble_eq_true rfl) dX10_let_24 (fun H locs Z => ?_)
    refine lv_if_ne (tgt := 31) hx hb dX10_let_27 (by decide) (fun q => ?_) (fun q => ?_)
    · have h := zi_f q h
      refine lv_aload_n hx hb dX10_let_31 rfl (lv_at hl 0 rfl) ?_
      refine lv_dup hx hb dX10_let_32 rfl ?_
      refine zgX10_34 (v := (zI S3 13)) hx hb hf hown P0 Z L230 rfl dX10_let_33 ?_
      refine lv_iconst (v := (nI 1)) hx hb dX10_let_36 (by decide) ?_
      refine lv_iadd hx hb dX10_let_37 ?_
      refine zpX10_34 hO hx hb hf hown P0 Z L230 dX10_let_38 (fun H locs Z => ?_)
      refine lv_aload_n hx hb dX10_let_41 rfl (lv_at hl 0 rfl) ?_
      obtain ⟨r4, S5, ec, h⟩ := zbd_s h
      refine zc_Vv hY P0 ⟨hx, hb, hml, hown, hT⟩ (As := []) (rest := []) (kX10_token l hO  (wI S3 13 ((zI S3 13) + (nI 1))) r4 S5 ec) (cwV 0 hT (zgV mL_X10_205 mI_X10_token mS_X10_token mN_X10 mC_X10_token) rfl rfl rfl hdnX10_token ⟨Nat.le_of_ble_eq_true rfl, Nat.le_of_ble_eq_true rfl⟩) (zrecM_0 P0 Z) Z rfl hl.1 rfl (Nat.le_of_ble_eq_true rfl) dX10_let_42 (fun H locs Z => ?_)
      refine lv_aload_n hx hb dX10_let_45 rfl (lv_at hl 0 rfl) ?_
      refine zgX10_33 hx hb hf hown P0 Z L98 dX10_let_46 ?_
      refine lv_iload_n hx hb dX10_let_49 rfl (lv_at hl 1 rfl) ?_
      refine lv_aload_n hx hb dX10_let_50 rfl (lv_at hl 0 rfl) ?_
      refine zgX10_24 (v := (zI S5 10)) hx hb hf hown P0 Z L240 rfl dX10_let_51 ?_
      obtain ⟨hin, h⟩ := zck_s h
      refine zsM_20 hO hx hb P0 Z hin dX10_let_54 (fun H locs Z => ?_)
      refine lv_aload_n hx hb dX10_let_55 rfl (lv_at hl 0 rfl) ?_
      refine zgX10_25 hx hb hf hown P0 Z L80 dX10_let_56 ?_
      refine lv_aload_n hx hb dX10_let_59 rfl (lv_at hl 0 rfl) ?_
      refine zgX10_24 (v := (zI S5 10)) hx hb hf hown P0 Z L240 rfl dX10_let_60 ?_
      refine lv_aload_n hx hb dX10_let_63 rfl (lv_at hl 0 rfl) ?_
      refine zgX10_35 (v := (zI S5 14)) hx hb hf hown P0 Z L214 rfl dX10_let_64 ?_
      obtain ⟨hin, h⟩ := zck_s h
      refine zsM_14 hO hx hb P0 Z hin dX10_let_67 (fun H locs Z => ?_)
      refine lv_aload_n hx hb dX10_let_68 rfl (lv_at hl 0 rfl) ?_
      refine zgX10_26 hx hb hf hown P0 Z L83 dX10_let_69 ?_
      refine lv_aload_n hx hb dX10_let_72 rfl (lv_at hl 0 rfl) ?_
      refine zgX10_24 (v := (zI S5 10)) hx hb hf hown P0 Z L240 rfl dX10_let_73 ?_
      refine lv_iconst (v := (nI 0)) hx hb dX10_let_76 (by decide) ?_
      obtain ⟨hin, h⟩ := zck_s h
      refine zsM_15 hO hx hb P0 Z hin dX10_let_77 (fun H locs Z => ?_)
      refine lv_aload_n hx hb dX10_let_78 rfl (lv_at hl 0 rfl) ?_
      refine lv_aload_n hx hb dX10_let_79 rfl (lv_at hl 0 rfl) ?_
      refine zgX10_24 (v := (zI S5 10)) hx hb hf hown P0 Z L240 rfl dX10_let_80 ?_
      refine zpX10_35 hO hx hb hf hown P0 Z L214 dX10_let_83 (fun H locs Z => ?_)
      refine lv_aload_n hx hb dX10_let_86 rfl (lv_at hl 0 rfl) ?_
      refine lv_dup hx hb dX10_let_87 rfl ?_
      refine zgX10_24 (v := (zI S5 10)) hx hb hf hown P0 Z L240 rfl dX10_let_88 ?_
      refine lv_iconst (v := (nI 1)) hx hb dX10_let_91 (by decide) ?_
      refine lv_iadd hx hb dX10_let_92 ?_
      refine zpX10_24 hO hx hb hf hown P0 Z L240 dX10_let_93 (fun H locs Z => ?_)
      refine lv_aload_n hx hb dX10_let_96 rfl (lv_at hl 0 rfl) ?_
      refine lv_bipush (v := (nI 9)) hx hb dX10_let_97 (by decide) ?_
      refine lv_aload_n hx hb dX10_let_99 rfl (lv_at hl 0 rfl) ?_
      refine zgX10_33 hx hb hf hown P0 Z L98 dX10_let_100 ?_
      refine lv_iload_n hx hb dX10_let_103 rfl (lv_at hl 1 rfl) ?_
      obtain ⟨v6, ev, hin, h⟩ := zld_s h
      refine zlM_20 hx hb P0 Z ev hin dX10_let_104 ?_
      obtain ⟨r7, S8, ec, h⟩ := zbd_s h
      refine zc_Vi hY P0 ⟨hx, hb, hml, hown, hT⟩ (As := [.int (nI 9), .int v6]) (rest := []) (kX10_emit l hO (nI 9) v6 (wI (wI (wA (wA (wA S5 20 (x1.toNatClampNeg) (zI S5 10)) 14 ((zI S5 10).toNatClampNeg) (zI S5 14)) 15 ((zI S5 10).toNatClampNeg) (nI 0)) 14 (zI S5 10)) 10 ((zI S5 10) + (nI 1))) r7 S8 ec) (cwV 2 hT (zgV mL_X10_233 mI_X10_emit mS_X10_emit mN_X10 mC_X10_emit) rfl rfl rfl hdnX10_emit ⟨Nat.le_of_ble_eq_true rfl, Nat.le_of_ble_eq_true rfl⟩) (zrecM_0 P0 Z) Z rfl hl.1 rfl (Nat.le_of_ble_eq_true rfl) dX10_let_105 (fun H locs Z => ?_)
      refine lv_pop hx hb dX10_let_108 rfl ?_
      refine lv_aload_n hx hb dX10_let_109 rfl (lv_at hl 0 rfl) ?_
      refine zgX10_31 hx hb hf hown P0 Z L92 dX10_let_110 ?_
      refine lv_iload_n hx hb dX10_let_113 rfl (lv_at hl 1 rfl) ?_
      refine lv_iconst (v := (nI 1)) hx hb dX10_let_114 (by decide) ?_
      obtain ⟨hin, h⟩ := zck_s h
      refine zsM_18 hO hx hb P0 Z hin dX10_let_115 (fun H locs Z => ?_)
      exact B116 x1 (wA S8 18 (x1.toNatClampNeg) (nI 1)) h _ _ Z ls (lv_sub hl [0, 1] rfl)
    · have h := zi_t q h
      exact zr_v hY P0 hx hb hr hlocks h Z dX10_let_30
  have hl := lv_entry ([.ref (zad g 0), .int a1] : List Value) (n := 4) (Nat.le_of_ble_eq_true rfl)
  rw [lg_entry_eq]
  generalize (lg_sl ([.ref (zad g 0), .int a1] : List Value) ++ List.replicate (4 - (lg_sl ([.ref (zad g 0), .int a1] : List Value)).length) Slot.unset).toArray = ls at hl ⊢
  have hl : lv_has ls 4 [(0, .ref (zad g 0)), (1, .int a1)] := hl
  unfold fX10_let at h
  refine lv_aload_n hx hb dX10_let_0 rfl (lv_at hl 0 rfl) ?_
  refine zgX10_31 hx hb hf hown P0 Z L92 dX10_let_1 ?_
  refine lv_iload_n hx hb dX10_let_4 rfl (lv_at hl 1 rfl) ?_
  obtain ⟨v1, ev, hin, h⟩ := zld_s h
  refine zlM_18 hx hb P0 Z ev hin dX10_let_5 ?_
  refine lv_if_ne (tgt := 116) hx hb dX10_let_6 (by decide) (fun q => ?_) (fun q => ?_)
  · have h := zi_f q h
    exact B116 a1 S h _ _ Z ls (lv_sub hl [0, 1] rfl)
  · have h := zi_t q h
    refine lv_aload_n hx hb dX10_let_9 rfl (lv_at hl 0 rfl) ?_
    refine lv_aload_n hx hb dX10_let_10 rfl (lv_at hl 0 rfl) ?_
    refine zgX10_34 (v := (zI S 13)) hx hb hf hown P0 Z L230 rfl dX10_let_11 ?_
    refine lv_bipush (v := (nI 12)) hx hb dX10_let_14 (by decide) ?_
    refine lv_icmp_ge (tgt := 23) hx hb dX10_let_16 (by decide) (fun q => ?_) (fun q => ?_)
    · have h := zi_t q h
      refine lv_iconst (v := (nI 0)) hx hb dX10_let_23 (by decide) ?_
      exact B24 a1 (nI 0) S h _ _ Z ls (lv_sub hl [0, 1] rfl)
    · have h := zi_f q h
      refine lv_iconst (v := (nI 1)) hx hb dX10_let_19 (by decide) ?_
      refine lv_goto (tgt := 24) hx hb dX10_let_20 (by decide) ?_
      exact B24 a1 (nI 1) S h _ _ Z ls (lv_sub hl [0, 1] rfl)
