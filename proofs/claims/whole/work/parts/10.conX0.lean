set_option maxHeartbeats 4000000 in
set_option maxRecDepth 100000 in
theorem kX7_put {g : zG} (l : Launch) (hO : zinjX g) (a1 : Int32) (S : zSt) (r : Unit) (S' : zSt) (h : fX7_put a1 S = some (r, S')) : zMv (zYX g) l yX7_put vX7_put { frames := 0, cells := 0, slots := 0, locals := 0 } ([.ref (zad g 1), .int a1] : List Value) S S' := by
  have hY := zOkX hO
  refine Met.ofW (cc := cX7_put) (maxL := 3) (ret := none) (by decide) rfl ?_
  intro p e s m args below meth c s₁ B hml hv
  obtain ⟨rfl, hP⟩ := hv
  have hx := B.exec
  have hb := B.bytes
  have hr := B.returns
  have hts := atoms_spec (ws := vX7_put) B.pre
  have hT : ∀ w ∈ zTB, w.before ([.ref (zad g 1), .int a1] : List Value).toArray s = true := fun w h => hts w (List.mem_cons_of_mem _ h)
  have hown : s.vm.findClass RX7 = some m.cls := findClass_of_methodNamed B.named
  have hlocks := B.notSynchronized
  have P0 := hP.2
  have Z : zZ (zYX g) S s s.heap [] := ⟨hP.1, va_S.rf⟩
  have hf : ∀ w ∈ u_ws RX7 TX7 2, w.before ([.ref (zad g 1), .int a1] : List Value).toArray s = true := fun w hw => hT w (mU_X7 w hw)
  have L15 := hT _ mF_X7_15
  have L9 := hT _ mF_X7_9
  have B3 : ∀ (n : Nat) (x1 : Int32) (x2 : Int32) (S : zSt), fX7_put_3L n (x1, x2, S) = some (r, S') → ∀ (H : Heap) (locs : List Loc), zZ (zYX g) S s H locs → ∀ ls : Array Slot, lv_has ls 3 [(0, .ref (zad g 1)), (1, .int x1), (2, .int x2)] → W p l e (headSpec vX7_put { frames := 0, cells := 0, slots := 0, locals := 0 }).room s m ([.ref (zad g 1), .int a1] : List Value).toArray below meth c H locs 0 0 (MQ below (zQv (zYX g) S') ([.ref (zad g 1), .int a1] : List Value).toArray s 0 0 (zYX g).2.2.1) (F0 m 3 ls []) := by
    intro n
    induction n with
    | zero => intro x1 x2 S h; exact absurd h (fun h => nomatch h)
    | succ n K3 =>
      intro x1 x2 S h H locs Z ls hl
      have h : fX7_put_3 (fX7_put_3L n) x1 x2 S = some (r, S') := h
      unfold fX7_put_3 at h
      refine lv_iload_n hx hb dX7_put_3 rfl (lv_at hl 2 rfl) ?_
      refine lv_if_lt (tgt := 48) hx hb dX7_put_4 (by decide) (fun q => ?_) (fun q => ?_)
      · have h := zi_t q h
        exact zr_v hY P0 hx hb hr hlocks h Z dX7_put_48
      · have h := zi_f q h
        refine lv_aload_n hx hb dX7_put_7 rfl (lv_at hl 0 rfl) ?_
        refine zgX7_1 (v := (zI S 5)) hx hb hf hown P0 Z L15 rfl dX7_put_8 ?_
        refine lv_aload_n hx hb dX7_put_11 rfl (lv_at hl 0 rfl) ?_
        refine zgX7_0 hx hb hf hown P0 Z L9 dX7_put_12 ?_
        refine zaX_11 hx hb P0 Z dX7_put_15 ?_
        refine lv_icmp_ge (tgt := 48) hx hb dX7_put_16 (by decide) (fun q => ?_) (fun q => ?_)
        · have h := zi_t q h
          exact zr_v hY P0 hx hb hr hlocks h Z dX7_put_48
        · have h := zi_f q h
          refine lv_aload_n hx hb dX7_put_19 rfl (lv_at hl 0 rfl) ?_
          refine zgX7_0 hx hb hf hown P0 Z L9 dX7_put_20 ?_
          refine lv_aload_n hx hb dX7_put_23 rfl (lv_at hl 0 rfl) ?_
          refine zgX7_1 (v := (zI S 5)) hx hb hf hown P0 Z L15 rfl dX7_put_24 ?_
          refine lv_iload_n hx hb dX7_put_27 rfl (lv_at hl 1 rfl) ?_
          refine lv_iload_n hx hb dX7_put_28 rfl (lv_at hl 2 rfl) ?_
          refine lv_ishr hx hb dX7_put_29 ?_
          refine lv_i2b hx hb dX7_put_30 rfl ?_
          obtain ⟨hin, h⟩ := zck_s h
          refine zsX_11 hO hx hb P0 Z hin dX7_put_31 (fun H locs Z => ?_)
          refine lv_aload_n hx hb dX7_put_32 rfl (lv_at hl 0 rfl) ?_
          refine lv_dup hx hb dX7_put_33 rfl ?_
          refine zgX7_1 (v := (zI S 5)) hx hb hf hown P0 Z L15 rfl dX7_put_34 ?_
          refine lv_iconst (v := (nI 1)) hx hb dX7_put_37 (by decide) ?_
          refine lv_iadd hx hb dX7_put_38 ?_
          refine zpX7_1 hO hx hb hf hown P0 Z L15 dX7_put_39 (fun H locs Z => ?_)
          refine lv_iinc (v := (x2 + (-8 : Int32))) (lv' := [(2, .int (x2 + (-8 : Int32))), (0, .ref (zad g 1)), (1, .int x1)]) hx hb dX7_put_42 hl (k := 2) rfl rfl (by decide) rfl (fun ls hl => ?_)
          refine lv_goto (tgt := 3) hx hb dX7_put_45 (by decide) ?_
          exact K3 x1 (x2 + (-8 : Int32)) (wI (wA S 11 ((zI S 5).toNatClampNeg) (vp_nar .byte ((x1 >>> (x2 &&& 31)).toInt8.toInt32))) 5 ((zI S 5) + (nI 1))) h _ _ Z ls (lv_sub hl [1, 2, 0] rfl)
  have hl := lv_entry ([.ref (zad g 1), .int a1] : List Value) (n := 3) (Nat.le_of_ble_eq_true rfl)
  rw [lg_entry_eq]
  generalize (lg_sl ([.ref (zad g 1), .int a1] : List Value) ++ List.replicate (3 - (lg_sl ([.ref (zad g 1), .int a1] : List Value)).length) Slot.unset).toArray = ls at hl ⊢
  have hl : lv_has ls 3 [(0, .ref (zad g 1)), (1, .int a1)] := hl
  unfold fX7_put at h
  refine lv_bipush (v := (nI 24)) hx hb dX7_put_0 (by decide) ?_
  refine lv_istore_n (lv' := [(2, .int (nI 24)), (0, .ref (zad g 1)), (1, .int a1)]) hx hb dX7_put_2 rfl hl (by decide) rfl (fun ls hl => ?_)
  exact B3 zFU a1 (nI 24) S h _ _ Z ls (lv_sub hl [1, 2, 0] rfl)

set_option maxHeartbeats 4000000 in
set_option maxRecDepth 100000 in
theorem kX7_size {g : zG} (l : Launch) (hO : zinjX g) (S : zSt) (r : Int32) (S' : zSt) (h : fX7_size S = some (r, S')) : zMi (zYX g) l yX7_size vX7_size { frames := 0, cells := 0, slots := 0, locals := 0 } ([.ref (zad g 1)] : List Value) S r S' := by
  have hY := zOkX hO
  refine Met.ofW (cc := cX7_size) (maxL := 1) (ret := (some .int)) (by decide) rfl ?_
  intro p e s m args below meth c s₁ B hml hv
  obtain ⟨rfl, hP⟩ := hv
  have hx := B.exec
  have hb := B.bytes
  have hr := B.returns
  have hts := atoms_spec (ws := vX7_size) B.pre
  have hT : ∀ w ∈ zTB, w.before ([.ref (zad g 1)] : List Value).toArray s = true := fun w h => hts w (List.mem_cons_of_mem _ h)
  have hown : s.vm.findClass RX7 = some m.cls := findClass_of_methodNamed B.named
  have hlocks := B.notSynchronized
  have P0 := hP.2
  have Z : zZ (zYX g) S s s.heap [] := ⟨hP.1, va_S.rf⟩
  have hf : ∀ w ∈ u_ws RX7 TX7 2, w.before ([.ref (zad g 1)] : List Value).toArray s = true := fun w hw => hT w (mU_X7 w hw)
  have L15 := hT _ mF_X7_15
  have hl := lv_entry ([.ref (zad g 1)] : List Value) (n := 1) (Nat.le_of_ble_eq_true rfl)
  rw [lg_entry_eq]
  generalize (lg_sl ([.ref (zad g 1)] : List Value) ++ List.replicate (1 - (lg_sl ([.ref (zad g 1)] : List Value)).length) Slot.unset).toArray = ls at hl ⊢
  have hl : lv_has ls 1 [(0, .ref (zad g 1))] := hl
  unfold fX7_size at h
  refine lv_aload_n hx hb dX7_size_0 rfl (lv_at hl 0 rfl) ?_
  refine zgX7_1 (v := (zI S 5)) hx hb hf hown P0 Z L15 rfl dX7_size_1 ?_
  exact zr_i hY P0 hx hb hr hlocks h Z dX7_size_4

set_option maxHeartbeats 4000000 in
set_option maxRecDepth 100000 in
theorem kX9_feed {g : zG} (l : Launch) (hO : zinjX g) (a1 : Int32) (a2 : Int32) (a3 : Int32) (a4 : Int32) (a5 : Int32) (S : zSt) (r : Int32) (S' : zSt) (h : fX9_feed a1 a2 a3 a4 a5 S = some (r, S')) : zMi (zYX g) l yX9_feed vX9_feed { frames := 1, cells := 0, slots := 0, locals := 22 } ([.ref (zad g 0), .int a1, .int a2, .int a3, .int a4, .int a5] : List Value) S r S' := by
  have hY := zOkX hO
  refine Met.ofW (cc := cX9_feed) (maxL := 6) (ret := (some .int)) (by decide) rfl ?_
  intro p e s m args below meth c s₁ B hml hv
  obtain ⟨rfl, hP⟩ := hv
  have hx := B.exec
  have hb := B.bytes
  have hr := B.returns
  have hts := atoms_spec (ws := vX9_feed) B.pre
  have hT : ∀ w ∈ zTB, w.before ([.ref (zad g 0), .int a1, .int a2, .int a3, .int a4, .int a5] : List Value).toArray s = true := fun w h => hts w (List.mem_cons_of_mem _ h)
  have hown : s.vm.findClass RX9 = some m.cls := findClass_of_methodNamed B.named
  have hlocks := B.notSynchronized
  have P0 := hP.2
  have Z : zZ (zYX g) S s s.heap [] := ⟨hP.1, va_S.rf⟩
  have hf : ∀ w ∈ u_ws RX9 TX9 13, w.before ([.ref (zad g 0), .int a1, .int a2, .int a3, .int a4, .int a5] : List Value).toArray s = true := fun w hw => hT w (mU_X9 w hw)
  have L10 := hT _ mF_X9_10
  have hl := lv_entry ([.ref (zad g 0), .int a1, .int a2, .int a3, .int a4, .int a5] : List Value) (n := 6) (Nat.le_of_ble_eq_true rfl)
  rw [lg_entry_eq]
  generalize (lg_sl ([.ref (zad g 0), .int a1, .int a2, .int a3, .int a4, .int a5] : List Value) ++ List.replicate (6 - (lg_sl ([.ref (zad g 0), .int a1, .int a2, .int a3, .int a4, .int a5] : List Value)).length) Slot.unset).toArray = ls at hl ⊢
  have hl : lv_has ls 6 [(0, .ref (zad g 0)), (1, .int a1), (2, .int a2), (3, .int a3), (4, .int a4), (5, .int a5)] := hl
  unfold fX9_feed at h
  refine lv_aload_n hx hb dX9_feed_0 rfl (lv_at hl 0 rfl) ?_
  refine zgX9_0 hx hb hf hown P0 Z L10 dX9_feed_1 ?_
  obtain ⟨r1, S2, ec, h⟩ := zbd_s h
  refine zc_Vi hY P0 ⟨hx, hb, hml, hown, hT⟩ (As := []) (rest := []) (kX7_size l hO  S r1 S2 ec) (cwV 0 hT (zgV mL_X9_88 mI_X7_size mS_X7_size mN_X7 mC_X7_size) rfl rfl rfl hdnX7_size ⟨Nat.le_of_ble_eq_true rfl, Nat.le_of_ble_eq_true rfl⟩) (zrecX_1 P0 Z) Z rfl hl.1 rfl (Nat.le_of_ble_eq_true rfl) dX9_feed_4 (fun H locs Z => ?_)
  refine lv_sipush (v := (nI 780)) hx hb dX9_feed_7 (by decide) ?_
  refine lv_icmp_le (tgt := 16) hx hb dX9_feed_10 (by decide) (fun q => ?_) (fun q => ?_)
  · have h := zi_t q h
    refine lv_aload_n hx hb dX9_feed_16 rfl (lv_at hl 0 rfl) ?_
    refine zgX9_0 hx hb hf hown P0 Z L10 dX9_feed_17 ?_
    refine lv_iload_n hx hb dX9_feed_20 rfl (lv_at hl 1 rfl) ?_
    obtain ⟨r3, S4, ec, h⟩ := zbd_s h
    refine zc_Vv hY P0 ⟨hx, hb, hml, hown, hT⟩ (As := [.int a1]) (rest := []) (kX7_put l hO a1 S2 r3 S4 ec) (cwV 1 hT (zgV mL_X9_92 mI_X7_put mS_X7_put mN_X7 mC_X7_put) rfl rfl rfl hdnX7_put ⟨Nat.le_of_ble_eq_true rfl, Nat.le_of_ble_eq_true rfl⟩) (zrecX_1 P0 Z) Z rfl hl.1 rfl (Nat.le_of_ble_eq_true rfl) dX9_feed_21 (fun H locs Z => ?_)
    refine lv_aload_n hx hb dX9_feed_24 rfl (lv_at hl 0 rfl) ?_
    refine zgX9_0 hx hb hf hown P0 Z L10 dX9_feed_25 ?_
    refine lv_iload_n hx hb dX9_feed_28 rfl (lv_at hl 2 rfl) ?_
    obtain ⟨r5, S6, ec, h⟩ := zbd_s h
    refine zc_Vv hY P0 ⟨hx, hb, hml, hown, hT⟩ (As := [.int a2]) (rest := []) (kX7_put l hO a2 S4 r5 S6 ec) (cwV 1 hT (zgV mL_X9_92 mI_X7_put mS_X7_put mN_X7 mC_X7_put) rfl rfl rfl hdnX7_put ⟨Nat.le_of_ble_eq_true rfl, Nat.le_of_ble_eq_true rfl⟩) (zrecX_1 P0 Z) Z rfl hl.1 rfl (Nat.le_of_ble_eq_true rfl) dX9_feed_29 (fun H locs Z => ?_)
    refine lv_aload_n hx hb dX9_feed_32 rfl (lv_at hl 0 rfl) ?_
    refine zgX9_0 hx hb hf hown P0 Z L10 dX9_feed_33 ?_
    refine lv_iload_n hx hb dX9_feed_36 rfl (lv_at hl 3 rfl) ?_
    obtain ⟨r7, S8, ec, h⟩ := zbd_s h
    refine zc_Vv hY P0 ⟨hx, hb, hml, hown, hT⟩ (As := [.int a3]) (rest := []) (kX7_put l hO a3 S6 r7 S8 ec) (cwV 1 hT (zgV mL_X9_92 mI_X7_put mS_X7_put mN_X7 mC_X7_put) rfl rfl rfl hdnX7_put ⟨Nat.le_of_ble_eq_true rfl, Nat.le_of_ble_eq_true rfl⟩) (zrecX_1 P0 Z) Z rfl hl.1 rfl (Nat.le_of_ble_eq_true rfl) dX9_feed_37 (fun H locs Z => ?_)
    refine lv_aload_n hx hb dX9_feed_40 rfl (lv_at hl 0 rfl) ?_
    refine zgX9_0 hx hb hf hown P0 Z L10 dX9_feed_41 ?_
    refine lv_iload hx hb dX9_feed_44 (lv_at hl 4 rfl) ?_
    obtain ⟨r9, S10, ec, h⟩ := zbd_s h
    refine zc_Vv hY P0 ⟨hx, hb, hml, hown, hT⟩ (As := [.int a4]) (rest := []) (kX7_put l hO a4 S8 r9 S10 ec) (cwV 1 hT (zgV mL_X9_92 mI_X7_put mS_X7_put mN_X7 mC_X7_put) rfl rfl rfl hdnX7_put ⟨Nat.le_of_ble_eq_true rfl, Nat.le_of_ble_eq_true rfl⟩) (zrecX_1 P0 Z) Z rfl hl.1 rfl (Nat.le_of_ble_eq_true rfl) dX9_feed_46 (fun H locs Z => ?_)
    refine lv_aload_n hx hb dX9_feed_49 rfl (lv_at hl 0 rfl) ?_
    refine zgX9_0 hx hb hf hown P0 Z L10 dX9_feed_50 ?_
    refine lv_iload hx hb dX9_feed_53 (lv_at hl 5 rfl) ?_
    obtain ⟨r11, S12, ec, h⟩ := zbd_s h
    refine zc_Vv hY P0 ⟨hx, hb, hml, hown, hT⟩ (As := [.int a5]) (rest := []) (kX7_put l hO a5 S10 r11 S12 ec) (cwV 1 hT (zgV mL_X9_92 mI_X7_put mS_X7_put mN_X7 mC_X7_put) rfl rfl rfl hdnX7_put ⟨Nat.le_of_ble_eq_true rfl, Nat.le_of_ble_eq_true rfl⟩) (zrecX_1 P0 Z) Z rfl hl.1 rfl (Nat.le_of_ble_eq_true rfl) dX9_feed_55 (fun H locs Z => ?_)
    refine lv_aload_n hx hb dX9_feed_58 rfl (lv_at hl 0 rfl) ?_
    refine zgX9_0 hx hb hf hown P0 Z L10 dX9_feed_59 ?_
    obtain ⟨r13, S14, ec, h⟩ := zbd_s h
    refine zc_Vi hY P0 ⟨hx, hb, hml, hown, hT⟩ (As := []) (rest := []) (kX7_size l hO  S12 r13 S14 ec) (cwV 0 hT (zgV mL_X9_88 mI_X7_size mS_X7_size mN_X7 mC_X7_size) rfl rfl rfl hdnX7_size ⟨Nat.le_of_ble_eq_true rfl, Nat.le_of_ble_eq_true rfl⟩) (zrecX_1 P0 Z) Z rfl hl.1 rfl (Nat.le_of_ble_eq_true rfl) dX9_feed_62 (fun H locs Z => ?_)
    exact zr_i hY P0 hx hb hr hlocks h Z dX9_feed_65
  · have h := zi_f q h
    refine lv_bipush (v := (-2 : Int32)) hx hb dX9_feed_13 (by decide) ?_
    exact zr_i hY P0 hx hb hr hlocks h Z dX9_feed_15

set_option maxHeartbeats 4000000 in
set_option maxRecDepth 100000 in
theorem kX7_keepFirst {g : zG} (l : Launch) (hO : zinjX g) (a1 : Int32) (S : zSt) (r : Int32) (S' : zSt) (h : fX7_keepFirst a1 S = some (r, S')) : zMi (zYX g) l yX7_keepFirst vX7_keepFirst { frames := 0, cells := 0, slots := 0, locals := 0 } ([.ref (zad g 1), .int a1] : List Value) S r S' := by
  have hY := zOkX hO
  refine Met.ofW (cc := cX7_keepFirst) (maxL := 3) (ret := (some .int)) (by decide) rfl ?_
  intro p e s m args below meth c s₁ B hml hv
  obtain ⟨rfl, hP⟩ := hv
  have hx := B.exec
  have hb := B.bytes
  have hr := B.returns
  have hts := atoms_spec (ws := vX7_keepFirst) B.pre
  have hT : ∀ w ∈ zTB, w.before ([.ref (zad g 1), .int a1] : List Value).toArray s = true := fun w h => hts w (List.mem_cons_of_mem _ h)
  have hown : s.vm.findClass RX7 = some m.cls := findClass_of_methodNamed B.named
  have hlocks := B.notSynchronized
  have P0 := hP.2
  have Z : zZ (zYX g) S s s.heap [] := ⟨hP.1, va_S.rf⟩
  have hf : ∀ w ∈ u_ws RX7 TX7 2, w.before ([.ref (zad g 1), .int a1] : List Value).toArray s = true := fun w hw => hT w (mU_X7 w hw)
  have L15 := hT _ mF_X7_15
  have hl := lv_entry ([.ref (zad g 1), .int a1] : List Value) (n := 3) (Nat.le_of_ble_eq_true rfl)
  rw [lg_entry_eq]
  generalize (lg_sl ([.ref (zad g 1), .int a1] : List Value) ++ List.replicate (3 - (lg_sl ([.ref (zad g 1), .int a1] : List Value)).length) Slot.unset).toArray = ls at hl ⊢
  have hl : lv_has ls 3 [(0, .ref (zad g 1)), (1, .int a1)] := hl
  unfold fX7_keepFirst at h
  refine lv_aload_n hx hb dX7_keepFirst_0 rfl (lv_at hl 0 rfl) ?_
  refine zgX7_1 (v := (zI S 5)) hx hb hf hown P0 Z L15 rfl dX7_keepFirst_1 ?_
  refine lv_iload_n hx hb dX7_keepFirst_4 rfl (lv_at hl 1 rfl) ?_
  refine lv_isub hx hb dX7_keepFirst_5 ?_
  refine lv_istore_n (lv' := [(2, .int ((zI S 5) - a1)), (0, .ref (zad g 1)), (1, .int a1)]) hx hb dX7_keepFirst_6 rfl hl (by decide) rfl (fun ls hl => ?_)
  refine lv_aload_n hx hb dX7_keepFirst_7 rfl (lv_at hl 1 rfl) ?_
  refine lv_iload_n hx hb dX7_keepFirst_8 rfl (lv_at hl 2 rfl) ?_
  refine zpX7_1 hO hx hb hf hown P0 Z L15 dX7_keepFirst_9 (fun H locs Z => ?_)
  refine lv_iload_n hx hb dX7_keepFirst_12 rfl (lv_at hl 0 rfl) ?_
  exact zr_i hY P0 hx hb hr hlocks h Z dX7_keepFirst_13

set_option maxHeartbeats 4000000 in
set_option maxRecDepth 100000 in
theorem kX9_cut {g : zG} (l : Launch) (hO : zinjX g) (a1 : Int32) (S : zSt) (r : Int32) (S' : zSt) (h : fX9_cut a1 S = some (r, S')) : zMi (zYX g) l yX9_cut vX9_cut { frames := 1, cells := 0, slots := 0, locals := 22 } ([.ref (zad g 0), .int a1] : List Value) S r S' := by
  have hY := zOkX hO
  refine Met.ofW (cc := cX9_cut) (maxL := 2) (ret := (some .int)) (by decide) rfl ?_
  intro p e s m args below meth c s₁ B hml hv
  obtain ⟨rfl, hP⟩ := hv
  have hx := B.exec
  have hb := B.bytes
  have hr := B.returns
  have hts := atoms_spec (ws := vX9_cut) B.pre
  have hT : ∀ w ∈ zTB, w.before ([.ref (zad g 0), .int a1] : List Value).toArray s = true := fun w h => hts w (List.mem_cons_of_mem _ h)
  have hown : s.vm.findClass RX9 = some m.cls := findClass_of_methodNamed B.named
  have hlocks := B.notSynchronized
  have P0 := hP.2
  have Z : zZ (zYX g) S s s.heap [] := ⟨hP.1, va_S.rf⟩
  have hf : ∀ w ∈ u_ws RX9 TX9 13, w.before ([.ref (zad g 0), .int a1] : List Value).toArray s = true := fun w hw => hT w (mU_X9 w hw)
  have L10 := hT _ mF_X9_10
  have hl := lv_entry ([.ref (zad g 0), .int a1] : List Value) (n := 2) (Nat.le_of_ble_eq_true rfl)
  rw [lg_entry_eq]
  generalize (lg_sl ([.ref (zad g 0), .int a1] : List Value) ++ List.replicate (2 - (lg_sl ([.ref (zad g 0), .int a1] : List Value)).length) Slot.unset).toArray = ls at hl ⊢
  have hl : lv_has ls 2 [(0, .ref (zad g 0)), (1, .int a1)] := hl
  unfold fX9_cut at h
  refine lv_iload_n hx hb dX9_cut_0 rfl (lv_at hl 1 rfl) ?_
  refine lv_if_lt (tgt := 15) hx hb dX9_cut_1 (by decide) (fun q => ?_) (fun q => ?_)
  · have h := zi_t q h
    refine lv_iconst (v := (-1 : Int32)) hx hb dX9_cut_15 (by decide) ?_
    exact zr_i hY P0 hx hb hr hlocks h Z dX9_cut_16
  · have h := zi_f q h
    refine lv_iload_n hx hb dX9_cut_4 rfl (lv_at hl 1 rfl) ?_
    refine lv_aload_n hx hb dX9_cut_5 rfl (lv_at hl 0 rfl) ?_
    refine zgX9_0 hx hb hf hown P0 Z L10 dX9_cut_6 ?_
    obtain ⟨r1, S2, ec, h⟩ := zbd_s h
    refine zc_Vi hY P0 ⟨hx, hb, hml, hown, hT⟩ (As := []) (rest := [.int a1]) (kX7_size l hO  S r1 S2 ec) (cwV 0 hT (zgV mL_X9_88 mI_X7_size mS_X7_size mN_X7 mC_X7_size) rfl rfl rfl hdnX7_size ⟨Nat.le_of_ble_eq_true rfl, Nat.le_of_ble_eq_true rfl⟩) (zrecX_1 P0 Z) Z rfl hl.1 rfl (Nat.le_of_ble_eq_true rfl) dX9_cut_9 (fun H locs Z => ?_)
    refine lv_icmp_le (tgt := 17) hx hb dX9_cut_12 (by decide) (fun q => ?_) (fun q => ?_)
    · have h := zi_t q h
      refine lv_aload_n hx hb dX9_cut_17 rfl (lv_at hl 0 rfl) ?_
      refine zgX9_0 hx hb hf hown P0 Z L10 dX9_cut_18 ?_
      refine lv_iload_n hx hb dX9_cut_21 rfl (lv_at hl 1 rfl) ?_
      obtain ⟨r3, S4, ec, h⟩ := zbd_s h
      refine zc_Vi hY P0 ⟨hx, hb, hml, hown, hT⟩ (As := [.int a1]) (rest := []) (kX7_keepFirst l hO a1 S2 r3 S4 ec) (cwV 1 hT (zgV mL_X9_96 mI_X7_keepFirst mS_X7_keepFirst mN_X7 mC_X7_keepFirst) rfl rfl rfl hdnX7_keepFirst ⟨Nat.le_of_ble_eq_true rfl, Nat.le_of_ble_eq_true rfl⟩) (zrecX_1 P0 Z) Z rfl hl.1 rfl (Nat.le_of_ble_eq_true rfl) dX9_cut_22 (fun H locs Z => ?_)
      exact zr_i hY P0 hx hb hr hlocks h Z dX9_cut_25
    · have h := zi_f q h
      refine lv_iconst (v := (-1 : Int32)) hx hb dX9_cut_15 (by decide) ?_
      exact zr_i hY P0 hx hb hr hlocks h Z dX9_cut_16

set_option maxHeartbeats 4000000 in
set_option maxRecDepth 100000 in
theorem kX0_add {g : zG} (l : Launch) (hO : zinjX g) (a1 : Int32) (a2 : Int32) (a3 : Int32) (S : zSt) (r : Int32) (S' : zSt) (h : fX0_add a1 a2 a3 S = some (r, S')) : zMi (zYX g) l yX0_add vX0_add { frames := 0, cells := 0, slots := 0, locals := 0 } ([.ref (zad g 5), .int a1, .int a2, .int a3] : List Value) S r S' := by
  have hY := zOkX hO
  refine Met.ofW (cc := cX0_add) (maxL := 5) (ret := (some .int)) (by decide) rfl ?_
  intro p e s m args below meth c s₁ B hml hv
  obtain ⟨rfl, hP⟩ := hv
  have hx := B.exec
  have hb := B.bytes
  have hr := B.returns
  have hts := atoms_spec (ws := vX0_add) B.pre
  have hT : ∀ w ∈ zTB, w.before ([.ref (zad g 5), .int a1, .int a2, .int a3] : List Value).toArray s = true := fun w h => hts w (List.mem_cons_of_mem _ h)
  have hown : s.vm.findClass RX0 = some m.cls := findClass_of_methodNamed B.named
  have hlocks := B.notSynchronized
  have P0 := hP.2
  have Z : zZ (zYX g) S s s.heap [] := ⟨hP.1, va_S.rf⟩
  have hf : ∀ w ∈ u_ws RX0 TX0 9, w.before ([.ref (zad g 5), .int a1, .int a2, .int a3] : List Value).toArray s = true := fun w hw => hT w (mU_X0 w hw)
  have L34 := hT _ mF_X0_34
  have L9 := hT _ mF_X0_9
  have L15 := hT _ mF_X0_15
  have L18 := hT _ mF_X0_18
  have L21 := hT _ mF_X0_21
  have L37 := hT _ mF_X0_37
  have L24 := hT _ mF_X0_24
  have L28 := hT _ mF_X0_28
  have L31 := hT _ mF_X0_31
  have B42 : ∀ (x1 : Int32) (x2 : Int32) (x3 : Int32) (x4 : Int32) (S : zSt), fX0_add_42 x1 x2 x3 x4 S = some (r, S') → ∀ (H : Heap) (locs : List Loc), zZ (zYX g) S s H locs → ∀ ls : Array Slot, lv_has ls 5 [(0, .ref (zad g 5)), (1, .int x1), (2, .int x2), (3, .int x3), (4, .int x4)] → W p l e (headSpec vX0_add { frames := 0, cells := 0, slots := 0, locals := 0 }).room s m ([.ref (zad g 5), .int a1, .int a2, .int a3] : List Value).toArray below meth c H locs 0 0 (MQ below (zQi (zYX g) r S') ([.ref (zad g 5), .int a1, .int a2, .int a3] : List Value).toArray s 0 0 (zYX g).2.2.1) (F0 m 42 ls []) := by
    intro x1 x2 x3 x4 S h H locs Z ls hl
    unfold fX0_add_42 at h
    refine lv_iload hx hb dX0_add_42 (lv_at hl 4 rfl) ?_
    refine lv_sipush (v := (nI 400)) hx hb dX0_add_44 (by decide) ?_
    refine lv_icmp_lt (tgt := 52) hx hb dX0_add_47 (by decide) (fun q => ?_) (fun q => ?_)
    · have h := zi_t q h
      refine lv_aload_n hx hb dX0_add_52 rfl (lv_at hl 0 rfl) ?_
      refine zgX0_0 hx hb hf hown P0 Z L9 dX0_add_53 ?_
      refine lv_iload hx hb dX0_add_56 (lv_at hl 4 rfl) ?_
      refine lv_iload_n hx hb dX0_add_58 rfl (lv_at hl 1 rfl) ?_
      obtain ⟨hin, h⟩ := zck_s h
      refine zsX_25 hO hx hb P0 Z hin dX0_add_59 (fun H locs Z => ?_)
      refine lv_aload_n hx hb dX0_add_60 rfl (lv_at hl 0 rfl) ?_
      refine zgX0_1 hx hb hf hown P0 Z L15 dX0_add_61 ?_
      refine lv_iload hx hb dX0_add_64 (lv_at hl 4 rfl) ?_
      refine lv_iload_n hx hb dX0_add_66 rfl (lv_at hl 2 rfl) ?_
      obtain ⟨hin, h⟩ := zck_s h
      refine zsX_26 hO hx hb P0 Z hin dX0_add_67 (fun H locs Z => ?_)
      refine lv_aload_n hx hb dX0_add_68 rfl (lv_at hl 0 rfl) ?_
      refine zgX0_2 hx hb hf hown P0 Z L18 dX0_add_69 ?_
      refine lv_iload hx hb dX0_add_72 (lv_at hl 4 rfl) ?_
      refine lv_iload_n hx hb dX0_add_74 rfl (lv_at hl 3 rfl) ?_
      obtain ⟨hin, h⟩ := zck_s h
      refine zsX_27 hO hx hb P0 Z hin dX0_add_75 (fun H locs Z => ?_)
      refine lv_aload_n hx hb dX0_add_76 rfl (lv_at hl 0 rfl) ?_
      refine zgX0_3 hx hb hf hown P0 Z L21 dX0_add_77 ?_
      refine lv_iload hx hb dX0_add_80 (lv_at hl 4 rfl) ?_
      refine lv_aload_n hx hb dX0_add_82 rfl (lv_at hl 0 rfl) ?_
      refine zgX0_8 (v := (zI S 18)) hx hb hf hown P0 Z L37 rfl dX0_add_83 ?_
      obtain ⟨hin, h⟩ := zck_s h
      refine zsX_28 hO hx hb P0 Z hin dX0_add_86 (fun H locs Z => ?_)
      refine lv_aload_n hx hb dX0_add_87 rfl (lv_at hl 0 rfl) ?_
      refine lv_iload hx hb dX0_add_88 (lv_at hl 4 rfl) ?_
      refine lv_iconst (v := (nI 1)) hx hb dX0_add_90 (by decide) ?_
      refine lv_iadd hx hb dX0_add_91 ?_
      refine zpX0_7 hO hx hb hf hown P0 Z L34 dX0_add_92 (fun H locs Z => ?_)
      refine lv_aload_n hx hb dX0_add_95 rfl (lv_at hl 0 rfl) ?_
      refine lv_dup hx hb dX0_add_96 rfl ?_
      refine zgX0_4 (v := (zI S 14)) hx hb hf hown P0 Z L24 rfl dX0_add_97 ?_
      refine lv_iconst (v := (nI 1)) hx hb dX0_add_100 (by decide) ?_
      refine lv_iadd hx hb dX0_add_101 ?_
      refine zpX0_4 hO hx hb hf hown P0 Z L24 dX0_add_102 (fun H locs Z => ?_)
      refine lv_aload_n hx hb dX0_add_105 rfl (lv_at hl 0 rfl) ?_
      refine lv_dup hx hb dX0_add_106 rfl ?_
      refine zgX0_5 (v := (zI S 15)) hx hb hf hown P0 Z L28 rfl dX0_add_107 ?_
      refine lv_iconst (v := (nI 1)) hx hb dX0_add_110 (by decide) ?_
      refine lv_iadd hx hb dX0_add_111 ?_
      refine zpX0_5 hO hx hb hf hown P0 Z L28 dX0_add_112 (fun H locs Z => ?_)
      refine lv_aload_n hx hb dX0_add_115 rfl (lv_at hl 0 rfl) ?_
      refine lv_aload_n hx hb dX0_add_116 rfl (lv_at hl 0 rfl) ?_
      refine zgX0_4 (v := ((zI S 14) + (nI 1))) hx hb hf hown P0 Z L24 rfl dX0_add_117 ?_
      refine lv_aload_n hx hb dX0_add_120 rfl (lv_at hl 0 rfl) ?_
      refine zgX0_6 (v := (zI S 16)) hx hb hf hown P0 Z L31 rfl dX0_add_121 ?_
      refine lv_icmp_le (tgt := 134) hx hb dX0_add_124 (by decide) (fun q => ?_) (fun q => ?_)
      · have h := zi_t q h
        refine lv_aload_n hx hb dX0_add_134 rfl (lv_at hl 0 rfl) ?_
        refine zgX0_6 (v := (zI S 16)) hx hb hf hown P0 Z L31 rfl dX0_add_135 ?_
        refine zpX0_6 hO hx hb hf hown P0 Z L31 dX0_add_138 (fun H locs Z => ?_)
        refine lv_iload hx hb dX0_add_141 (lv_at hl 4 rfl) ?_
        exact zr_i hY P0 hx hb hr hlocks h Z dX0_add_143
      · have h := zi_f q h
        refine lv_aload_n hx hb dX0_add_127 rfl (lv_at hl 0 rfl) ?_
        refine zgX0_4 (v := ((zI S 14) + (nI 1))) hx hb hf hown P0 Z L24 rfl dX0_add_128 ?_
        refine lv_goto (tgt := 138) hx hb dX0_add_131 (by decide) ?_
        refine zpX0_6 hO hx hb hf hown P0 Z L31 dX0_add_138 (fun H locs Z => ?_)
        refine lv_iload hx hb dX0_add_141 (lv_at hl 4 rfl) ?_
        exact zr_i hY P0 hx hb hr hlocks h Z dX0_add_143
    · have h := zi_f q h
      refine lv_iconst (v := (-1 : Int32)) hx hb dX0_add_50 (by decide) ?_
      exact zr_i hY P0 hx hb hr hlocks h Z dX0_add_51
  have B17 : ∀ (n : Nat) (x1 : Int32) (x2 : Int32) (x3 : Int32) (x4 : Int32) (S : zSt), fX0_add_17L n (x1, x2, x3, x4, S) = some (r, S') → ∀ (H : Heap) (locs : List Loc), zZ (zYX g) S s H locs → ∀ ls : Array Slot, lv_has ls 5 [(0, .ref (zad g 5)), (1, .int x1), (2, .int x2), (3, .int x3), (4, .int x4)] → W p l e (headSpec vX0_add { frames := 0, cells := 0, slots := 0, locals := 0 }).room s m ([.ref (zad g 5), .int a1, .int a2, .int a3] : List Value).toArray below meth c H locs 0 0 (MQ below (zQi (zYX g) r S') ([.ref (zad g 5), .int a1, .int a2, .int a3] : List Value).toArray s 0 0 (zYX g).2.2.1) (F0 m 17 ls []) := by
    intro n
    induction n with
    | zero => intro x1 x2 x3 x4 S h; exact absurd h (fun h => nomatch h)
    | succ n K17 =>
      intro x1 x2 x3 x4 S h H locs Z ls hl
      have h : fX0_add_17 (fX0_add_17L n) x1 x2 x3 x4 S = some (r, S') := h
      unfold fX0_add_17 at h
      refine lv_iload hx hb dX0_add_17 (lv_at hl 4 rfl) ?_
      refine lv_sipush (v := (nI 400)) hx hb dX0_add_19 (by decide) ?_
      refine lv_icmp_ge (tgt := 42) hx hb dX0_add_22 (by decide) (fun q => ?_) (fun q => ?_)
      · have h := zi_t q h
        exact B42 x1 x2 x3 x4 S h _ _ Z ls (lv_sub hl [0, 1, 2, 3, 4] rfl)
      · have h := zi_f q h
        refine lv_aload_n hx hb dX0_add_25 rfl (lv_at hl 0 rfl) ?_
        refine zgX0_0 hx hb hf hown P0 Z L9 dX0_add_26 ?_
        refine lv_iload hx hb dX0_add_29 (lv_at hl 4 rfl) ?_
        obtain ⟨v1, ev, hin, h⟩ := zld_s h
        refine zlX_25 hx hb P0 Z ev hin dX0_add_31 ?_
        refine lv_iconst (v := (-1 : Int32)) hx hb dX0_add_32 (by decide) ?_
        refine lv_icmp_eq (tgt := 42) hx hb dX0_add_33 (by decide) (fun q => ?_) (fun q => ?_)
        · have h := zi_t q h
          exact B42 x1 x2 x3 x4 S h _ _ Z ls (lv_sub hl [0, 1, 2, 3, 4] rfl)
        · have h := zi_f q h
          refine lv_iinc (v := (x4 + (nI 1))) (lv' := [(4, .int (x4 + (nI 1))), (0, .ref (zad g 5)), (1, .int x1), (2, .int x2), (3, .int x3)]) hx hb dX0_add_36 hl (k := 4) rfl rfl (by decide) rfl (fun ls hl => ?_)
          refine lv_goto (tgt := 17) hx hb dX0_add_39 (by decide) ?_
          exact K17 x1 x2 x3 (x4 + (nI 1)) S h _ _ Z ls (lv_sub hl [1, 2, 3, 4, 0] rfl)
  have hl := lv_entry ([.ref (zad g 5), .int a1, .int a2, .int a3] : List Value) (n := 5) (Nat.le_of_ble_eq_true rfl)
  rw [lg_entry_eq]
  generalize (lg_sl ([.ref (zad g 5), .int a1, .int a2, .int a3] : List Value) ++ List.replicate (5 - (lg_sl ([.ref (zad g 5), .int a1, .int a2, .int a3] : List Value)).length) Slot.unset).toArray = ls at hl ⊢
  have hl : lv_has ls 5 [(0, .ref (zad g 5)), (1, .int a1), (2, .int a2), (3, .int a3)] := hl
  unfold fX0_add at h
  refine lv_aload_n hx hb dX0_add_0 rfl (lv_at hl 0 rfl) ?_
  refine zgX0_7 (v := (zI S 17)) hx hb hf hown P0 Z L34 rfl dX0_add_1 ?_
  refine lv_if_ge (tgt := 11) hx hb dX0_add_4 (by decide) (fun q => ?_) (fun q => ?_)
  · have h := zi_t q h
    refine lv_aload_n hx hb dX0_add_11 rfl (lv_at hl 0 rfl) ?_
    refine zgX0_7 (v := (zI S 17)) hx hb hf hown P0 Z L34 rfl dX0_add_12 ?_
    refine lv_istore (lv' := [(4, .int (zI S 17)), (0, .ref (zad g 5)), (1, .int a1), (2, .int a2), (3, .int a3)]) hx hb dX0_add_15 hl (by decide) rfl (fun ls hl => ?_)
    exact B17 zFU a1 a2 a3 (zI S 17) S h _ _ Z ls (lv_sub hl [1, 2, 3, 4, 0] rfl)
  · have h := zi_f q h
    refine lv_iconst (v := (nI 0)) hx hb dX0_add_7 (by decide) ?_
    refine lv_goto (tgt := 15) hx hb dX0_add_8 (by decide) ?_
    refine lv_istore (lv' := [(4, .int (nI 0)), (0, .ref (zad g 5)), (1, .int a1), (2, .int a2), (3, .int a3)]) hx hb dX0_add_15 hl (by decide) rfl (fun ls hl => ?_)
    exact B17 zFU a1 a2 a3 (nI 0) S h _ _ Z ls (lv_sub hl [1, 2, 3, 4, 0] rfl)

set_option maxHeartbeats 4000000 in
set_option maxRecDepth 100000 in
theorem kX0_clear {g : zG} (l : Launch) (hO : zinjX g) (S : zSt) (r : Unit) (S' : zSt) (h : fX0_clear S = some (r, S')) : zMv (zYX g) l yX0_clear vX0_clear { frames := 0, cells := 0, slots := 0, locals := 0 } ([.ref (zad g 5)] : List Value) S S' := by
  have hY := zOkX hO
  refine Met.ofW (cc := cX0_clear) (maxL := 2) (ret := none) (by decide) rfl ?_
  intro p e s m args below meth c s₁ B hml hv
  obtain ⟨rfl, hP⟩ := hv
  have hx := B.exec
  have hb := B.bytes
  have hr := B.returns
  have hts := atoms_spec (ws := vX0_clear) B.pre
  have hT : ∀ w ∈ zTB, w.before ([.ref (zad g 5)] : List Value).toArray s = true := fun w h => hts w (List.mem_cons_of_mem _ h)
  have hown : s.vm.findClass RX0 = some m.cls := findClass_of_methodNamed B.named
  have hlocks := B.notSynchronized
  have P0 := hP.2
  have Z : zZ (zYX g) S s s.heap [] := ⟨hP.1, va_S.rf⟩
  have hf : ∀ w ∈ u_ws RX0 TX0 9, w.before ([.ref (zad g 5)] : List Value).toArray s = true := fun w hw => hT w (mU_X0 w hw)
  have L24 := hT _ mF_X0_24
  have L28 := hT _ mF_X0_28
  have L31 := hT _ mF_X0_31
  have L34 := hT _ mF_X0_34
  have L37 := hT _ mF_X0_37
  have L9 := hT _ mF_X0_9
  have B2 : ∀ (n : Nat) (x1 : Int32) (S : zSt), fX0_clear_2L n (x1, S) = some (r, S') → ∀ (H : Heap) (locs : List Loc), zZ (zYX g) S s H locs → ∀ ls : Array Slot, lv_has ls 2 [(0, .ref (zad g 5)), (1, .int x1)] → W p l e (headSpec vX0_clear { frames := 0, cells := 0, slots := 0, locals := 0 }).room s m ([.ref (zad g 5)] : List Value).toArray below meth c H locs 0 0 (MQ below (zQv (zYX g) S') ([.ref (zad g 5)] : List Value).toArray s 0 0 (zYX g).2.2.1) (F0 m 2 ls []) := by
    intro n
    induction n with
    | zero => intro x1 S h; exact absurd h (fun h => nomatch h)
    | succ n K2 =>
      intro x1 S h H locs Z ls hl
      have h : fX0_clear_2 (fX0_clear_2L n) x1 S = some (r, S') := h
      unfold fX0_clear_2 at h
      refine lv_iload_n hx hb dX0_clear_2 rfl (lv_at hl 1 rfl) ?_
      refine lv_sipush (v := (nI 400)) hx hb dX0_clear_3 (by decide) ?_
      refine lv_icmp_ge (tgt := 22) hx hb dX0_clear_6 (by decide) (fun q => ?_) (fun q => ?_)
      · have h := zi_t q h
        refine lv_aload_n hx hb dX0_clear_22 rfl (lv_at hl 0 rfl) ?_
        refine lv_iconst (v := (nI 0)) hx hb dX0_clear_23 (by decide) ?_
        refine zpX0_4 hO hx hb hf hown P0 Z L24 dX0_clear_24 (fun H locs Z => ?_)
        refine lv_aload_n hx hb dX0_clear_27 rfl (lv_at hl 0 rfl) ?_
        refine lv_iconst (v := (nI 0)) hx hb dX0_clear_28 (by decide) ?_
        refine zpX0_5 hO hx hb hf hown P0 Z L28 dX0_clear_29 (fun H locs Z => ?_)
        refine lv_aload_n hx hb dX0_clear_32 rfl (lv_at hl 0 rfl) ?_
        refine lv_iconst (v := (nI 0)) hx hb dX0_clear_33 (by decide) ?_
        refine zpX0_6 hO hx hb hf hown P0 Z L31 dX0_clear_34 (fun H locs Z => ?_)
        refine lv_aload_n hx hb dX0_clear_37 rfl (lv_at hl 0 rfl) ?_
        refine lv_iconst (v := (nI 0)) hx hb dX0_clear_38 (by decide) ?_
        refine zpX0_7 hO hx hb hf hown P0 Z L34 dX0_clear_39 (fun H locs Z => ?_)
        refine lv_aload_n hx hb dX0_clear_42 rfl (lv_at hl 0 rfl) ?_
        refine lv_bipush (v := (-3 : Int32)) hx hb dX0_clear_43 (by decide) ?_
        refine zpX0_8 hO hx hb hf hown P0 Z L37 dX0_clear_45 (fun H locs Z => ?_)
        exact zr_v hY P0 hx hb hr hlocks h Z dX0_clear_48
      · have h := zi_f q h
        refine lv_aload_n hx hb dX0_clear_9 rfl (lv_at hl 0 rfl) ?_
        refine zgX0_0 hx hb hf hown P0 Z L9 dX0_clear_10 ?_
        refine lv_iload_n hx hb dX0_clear_13 rfl (lv_at hl 1 rfl) ?_
        refine lv_iconst (v := (-1 : Int32)) hx hb dX0_clear_14 (by decide) ?_
        obtain ⟨hin, h⟩ := zck_s h
        refine zsX_25 hO hx hb P0 Z hin dX0_clear_15 (fun H locs Z => ?_)
        refine lv_iinc (v := (x1 + (nI 1))) (lv' := [(1, .int (x1 + (nI 1))), (0, .ref (zad g 5))]) hx hb dX0_clear_16 hl (k := 1) rfl rfl (by decide) rfl (fun ls hl => ?_)
        refine lv_goto (tgt := 2) hx hb dX0_clear_19 (by decide) ?_
        exact K2 (x1 + (nI 1)) (wA S 25 (x1.toNatClampNeg) (-1 : Int32)) h _ _ Z ls (lv_sub hl [1, 0] rfl)
  have hl := lv_entry ([.ref (zad g 5)] : List Value) (n := 2) (Nat.le_of_ble_eq_true rfl)
  rw [lg_entry_eq]
  generalize (lg_sl ([.ref (zad g 5)] : List Value) ++ List.replicate (2 - (lg_sl ([.ref (zad g 5)] : List Value)).length) Slot.unset).toArray = ls at hl ⊢
  have hl : lv_has ls 2 [(0, .ref (zad g 5))] := hl
  unfold fX0_clear at h
  refine lv_iconst (v := (nI 0)) hx hb dX0_clear_0 (by decide) ?_
  refine lv_istore_n (lv' := [(1, .int (nI 0)), (0, .ref (zad g 5))]) hx hb dX0_clear_1 rfl hl (by decide) rfl (fun ls hl => ?_)
  exact B2 zFU (nI 0) S h _ _ Z ls (lv_sub hl [1, 0] rfl)

set_option maxHeartbeats 4000000 in
set_option maxRecDepth 100000 in
theorem kX4_definitionOf {g : zG} (l : Launch) (hO : zinjX g) (a1 : Int64) (S : zSt) (r : Int32) (S' : zSt) (h : fX4_definitionOf a1 S = some (r, S')) : zMi (zYX g) l yX4_definitionOf vX4_definitionOf { frames := 0, cells := 0, slots := 0, locals := 0 } ([.ref (zad g 2), .long a1] : List Value) S r S' := by
  have hY := zOkX hO
  refine Met.ofW (cc := cX4_definitionOf) (maxL := 4) (ret := (some .int)) (by decide) rfl ?_
  intro p e s m args below meth c s₁ B hml hv
  obtain ⟨rfl, hP⟩ := hv
  have hx := B.exec
  have hb := B.bytes
  have hr := B.returns
  have hts := atoms_spec (ws := vX4_definitionOf) B.pre
  have hT : ∀ w ∈ zTB, w.before ([.ref (zad g 2), .long a1] : List Value).toArray s = true := fun w h => hts w (List.mem_cons_of_mem _ h)
  have hown : s.vm.findClass RX4 = some m.cls := findClass_of_methodNamed B.named
  have hlocks := B.notSynchronized
  have P0 := hP.2
  have Z : zZ (zYX g) S s s.heap [] := ⟨hP.1, va_S.rf⟩
  have hf : ∀ w ∈ u_ws RX4 TX4 12, w.before ([.ref (zad g 2), .long a1] : List Value).toArray s = true := fun w hw => hT w (mU_X4 w hw)
  have L28 := hT _ mF_X4_28
  have L9 := hT _ mF_X4_9
  have B2 : ∀ (n : Nat) (x1 : Int64) (x3 : Int32) (S : zSt), fX4_definitionOf_2L n (x1, x3, S) = some (r, S') → ∀ (H : Heap) (locs : List Loc), zZ (zYX g) S s H locs → ∀ ls : Array Slot, lv_has ls 4 [(0, .ref (zad g 2)), (1, .long x1), (3, .int x3)] → W p l e (headSpec vX4_definitionOf { frames := 0, cells := 0, slots := 0, locals := 0 }).room s m ([.ref (zad g 2), .long a1] : List Value).toArray below meth c H locs 0 0 (MQ below (zQi (zYX g) r S') ([.ref (zad g 2), .long a1] : List Value).toArray s 0 0 (zYX g).2.2.1) (F0 m 2 ls []) := by
    intro n
    induction n with
    | zero => intro x1 x3 S h; exact absurd h (fun h => nomatch h)
    | succ n K2 =>
      intro x1 x3 S h H locs Z ls hl
      have h : fX4_definitionOf_2 (fX4_definitionOf_2L n) x1 x3 S = some (r, S') := h
      unfold fX4_definitionOf_2 at h
      refine lv_iload_n hx hb dX4_definitionOf_2 rfl (lv_at hl 2 rfl) ?_
      refine lv_aload_n hx hb dX4_definitionOf_3 rfl (lv_at hl 0 rfl) ?_
      refine zgX4_5 (v := (zI S 6)) hx hb hf hown P0 Z L28 rfl dX4_definitionOf_4 ?_
      refine lv_icmp_ge (tgt := 35) hx hb dX4_definitionOf_7 (by decide) (fun q => ?_) (fun q => ?_)
      · have h := zi_t q h
        refine lv_iconst (v := (-1 : Int32)) hx hb dX4_definitionOf_35 (by decide) ?_
        exact zr_i hY P0 hx hb hr hlocks h Z dX4_definitionOf_36
      · have h := zi_f q h
        refine lv_iload_n hx hb dX4_definitionOf_10 rfl (lv_at hl 2 rfl) ?_
        refine lv_bipush (v := (nI 20)) hx hb dX4_definitionOf_11 (by decide) ?_
        refine lv_icmp_ge (tgt := 35) hx hb dX4_definitionOf_13 (by decide) (fun q => ?_) (fun q => ?_)
        · have h := zi_t q h
          refine lv_iconst (v := (-1 : Int32)) hx hb dX4_definitionOf_35 (by decide) ?_
          exact zr_i hY P0 hx hb hr hlocks h Z dX4_definitionOf_36
        · have h := zi_f q h
          refine lv_aload_n hx hb dX4_definitionOf_16 rfl (lv_at hl 0 rfl) ?_
          refine zgX4_0 hx hb hf hown P0 Z L9 dX4_definitionOf_17 ?_
          refine lv_iload_n hx hb dX4_definitionOf_20 rfl (lv_at hl 2 rfl) ?_
          obtain ⟨v1, ev, hin, h⟩ := zld_s h
          refine zlX_12 hx hb P0 Z ev hin dX4_definitionOf_21 ?_
          refine lv_lload_n hx hb dX4_definitionOf_22 rfl (lv_at hl 1 rfl) ?_
          refine W.lcmp hx hb dX4_definitionOf_23 ?_
          refine lv_if_ne (tgt := 29) hx hb dX4_definitionOf_24 (by decide) (fun q => ?_) (fun q => ?_)
          · have h := zi_f q h
            refine lv_iinc (v := (x3 + (nI 1))) (lv' := [(3, .int (x3 + (nI 1))), (0, .ref (zad g 2)), (1, .long x1)]) hx hb dX4_definitionOf_29 hl (k := 2) rfl rfl (by decide) rfl (fun ls hl => ?_)
            refine lv_goto (tgt := 2) hx hb dX4_definitionOf_32 (by decide) ?_
            exact K2 x1 (x3 + (nI 1)) S h _ _ Z ls (lv_sub hl [1, 2, 0] rfl)
          · have h := zi_t q h
            refine lv_iload_n hx hb dX4_definitionOf_27 rfl (lv_at hl 2 rfl) ?_
            exact zr_i hY P0 hx hb hr hlocks h Z dX4_definitionOf_28
  have hl := lv_entry ([.ref (zad g 2), .long a1] : List Value) (n := 4) (Nat.le_of_ble_eq_true rfl)
  rw [lg_entry_eq]
  generalize (lg_sl ([.ref (zad g 2), .long a1] : List Value) ++ List.replicate (4 - (lg_sl ([.ref (zad g 2), .long a1] : List Value)).length) Slot.unset).toArray = ls at hl ⊢
  have hl : lv_has ls 4 [(0, .ref (zad g 2)), (1, .long a1)] := hl
  unfold fX4_definitionOf at h
  refine lv_iconst (v := (nI 0)) hx hb dX4_definitionOf_0 (by decide) ?_
  refine lv_istore_n (lv' := [(3, .int (nI 0)), (0, .ref (zad g 2)), (1, .long a1)]) hx hb dX4_definitionOf_1 rfl hl (by decide) rfl (fun ls hl => ?_)
  exact B2 zFU a1 (nI 0) S h _ _ Z ls (lv_sub hl [1, 2, 0] rfl)

set_option maxHeartbeats 4000000 in
set_option maxRecDepth 100000 in
theorem kX4_size {g : zG} (l : Launch) (hO : zinjX g) (S : zSt) (r : Int32) (S' : zSt) (h : fX4_size S = some (r, S')) : zMi (zYX g) l yX4_size vX4_size { frames := 0, cells := 0, slots := 0, locals := 0 } ([.ref (zad g 2)] : List Value) S r S' := by
  have hY := zOkX hO
  refine Met.ofW (cc := cX4_size) (maxL := 1) (ret := (some .int)) (by decide) rfl ?_
  intro p e s m args below meth c s₁ B hml hv
  obtain ⟨rfl, hP⟩ := hv
  have hx := B.exec
  have hb := B.bytes
  have hr := B.returns
  have hts := atoms_spec (ws := vX4_size) B.pre
  have hT : ∀ w ∈ zTB, w.before ([.ref (zad g 2)] : List Value).toArray s = true := fun w h => hts w (List.mem_cons_of_mem _ h)
  have hown : s.vm.findClass RX4 = some m.cls := findClass_of_methodNamed B.named
  have hlocks := B.notSynchronized
  have P0 := hP.2
  have Z : zZ (zYX g) S s s.heap [] := ⟨hP.1, va_S.rf⟩
  have hf : ∀ w ∈ u_ws RX4 TX4 12, w.before ([.ref (zad g 2)] : List Value).toArray s = true := fun w hw => hT w (mU_X4 w hw)
  have L28 := hT _ mF_X4_28
  have hl := lv_entry ([.ref (zad g 2)] : List Value) (n := 1) (Nat.le_of_ble_eq_true rfl)
  rw [lg_entry_eq]
  generalize (lg_sl ([.ref (zad g 2)] : List Value) ++ List.replicate (1 - (lg_sl ([.ref (zad g 2)] : List Value)).length) Slot.unset).toArray = ls at hl ⊢
  have hl : lv_has ls 1 [(0, .ref (zad g 2))] := hl
  unfold fX4_size at h
  refine lv_aload_n hx hb dX4_size_0 rfl (lv_at hl 0 rfl) ?_
  refine zgX4_5 (v := (zI S 6)) hx hb hf hown P0 Z L28 rfl dX4_size_1 ?_
  exact zr_i hY P0 hx hb hr hlocks h Z dX4_size_4

set_option maxHeartbeats 4000000 in
set_option maxRecDepth 100000 in
theorem kX6_push {g : zG} (l : Launch) (hO : zinjX g) (a1 : Int32) (S : zSt) (r : Unit) (S' : zSt) (h : fX6_push a1 S = some (r, S')) : zMv (zYX g) l yX6_push vX6_push { frames := 0, cells := 0, slots := 0, locals := 0 } ([.ref (zad g 6), .int a1] : List Value) S S' := by
  have hY := zOkX hO
  refine Met.ofW (cc := cX6_push) (maxL := 2) (ret := none) (by decide) rfl ?_
  intro p e s m args below meth c s₁ B hml hv
  obtain ⟨rfl, hP⟩ := hv
  have hx := B.exec
  have hb := B.bytes
  have hr := B.returns
  have hts := atoms_spec (ws := vX6_push) B.pre
  have hT : ∀ w ∈ zTB, w.before ([.ref (zad g 6), .int a1] : List Value).toArray s = true := fun w h => hts w (List.mem_cons_of_mem _ h)
  have hown : s.vm.findClass RX6 = some m.cls := findClass_of_methodNamed B.named
  have hlocks := B.notSynchronized
  have P0 := hP.2
  have Z : zZ (zYX g) S s s.heap [] := ⟨hP.1, va_S.rf⟩
  have hf : ∀ w ∈ u_ws RX6 TX6 4, w.before ([.ref (zad g 6), .int a1] : List Value).toArray s = true := fun w hw => hT w (mU_X6 w hw)
  have L18 := hT _ mF_X6_18
  have L9 := hT _ mF_X6_9
  have hl := lv_entry ([.ref (zad g 6), .int a1] : List Value) (n := 2) (Nat.le_of_ble_eq_true rfl)
  rw [lg_entry_eq]
  generalize (lg_sl ([.ref (zad g 6), .int a1] : List Value) ++ List.replicate (2 - (lg_sl ([.ref (zad g 6), .int a1] : List Value)).length) Slot.unset).toArray = ls at hl ⊢
  have hl : lv_has ls 2 [(0, .ref (zad g 6)), (1, .int a1)] := hl
  unfold fX6_push at h
  refine lv_aload_n hx hb dX6_push_0 rfl (lv_at hl 0 rfl) ?_
  refine zgX6_2 (v := (zI S 19)) hx hb hf hown P0 Z L18 rfl dX6_push_1 ?_
  refine lv_if_lt (tgt := 37) hx hb dX6_push_4 (by decide) (fun q => ?_) (fun q => ?_)
  · have h := zi_t q h
    exact zr_v hY P0 hx hb hr hlocks h Z dX6_push_37
  · have h := zi_f q h
    refine lv_aload_n hx hb dX6_push_7 rfl (lv_at hl 0 rfl) ?_
    refine zgX6_2 (v := (zI S 19)) hx hb hf hown P0 Z L18 rfl dX6_push_8 ?_
    refine lv_sipush (v := (nI 600)) hx hb dX6_push_11 (by decide) ?_
    refine lv_icmp_ge (tgt := 37) hx hb dX6_push_14 (by decide) (fun q => ?_) (fun q => ?_)
    · have h := zi_t q h
      exact zr_v hY P0 hx hb hr hlocks h Z dX6_push_37
    · have h := zi_f q h
      refine lv_aload_n hx hb dX6_push_17 rfl (lv_at hl 0 rfl) ?_
      refine zgX6_0 hx hb hf hown P0 Z L9 dX6_push_18 ?_
      refine lv_aload_n hx hb dX6_push_21 rfl (lv_at hl 0 rfl) ?_
      refine zgX6_2 (v := (zI S 19)) hx hb hf hown P0 Z L18 rfl dX6_push_22 ?_
      refine lv_iload_n hx hb dX6_push_25 rfl (lv_at hl 1 rfl) ?_
      obtain ⟨hin, h⟩ := zck_s h
      refine zsX_29 hO hx hb P0 Z hin dX6_push_26 (fun H locs Z => ?_)
      refine lv_aload_n hx hb dX6_push_27 rfl (lv_at hl 0 rfl) ?_
      refine lv_dup hx hb dX6_push_28 rfl ?_
      refine zgX6_2 (v := (zI S 19)) hx hb hf hown P0 Z L18 rfl dX6_push_29 ?_
      refine lv_iconst (v := (nI 1)) hx hb dX6_push_32 (by decide) ?_
      refine lv_iadd hx hb dX6_push_33 ?_
      refine zpX6_2 hO hx hb hf hown P0 Z L18 dX6_push_34 (fun H locs Z => ?_)
      exact zr_v hY P0 hx hb hr hlocks h Z dX6_push_37

set_option maxHeartbeats 4000000 in
set_option maxRecDepth 100000 in
theorem kX6_begin {g : zG} (l : Launch) (hO : zinjX g) (a1 : Int32) (S : zSt) (r : Unit) (S' : zSt) (h : fX6_begin a1 S = some (r, S')) : zMv (zYX g) l yX6_begin vX6_begin { frames := 1, cells := 0, slots := 0, locals := 21 } ([.ref (zad g 6), .int a1] : List Value) S S' := by
  have hY := zOkX hO
  refine Met.ofW (cc := cX6_begin) (maxL := 2) (ret := none) (by decide) rfl ?_
  intro p e s m args below meth c s₁ B hml hv
  obtain ⟨rfl, hP⟩ := hv
  have hx := B.exec
  have hb := B.bytes
  have hr := B.returns
  have hts := atoms_spec (ws := vX6_begin) B.pre
  have hT : ∀ w ∈ zTB, w.before ([.ref (zad g 6), .int a1] : List Value).toArray s = true := fun w h => hts w (List.mem_cons_of_mem _ h)
  have hown : s.vm.findClass RX6 = some m.cls := findClass_of_methodNamed B.named
  have hlocks := B.notSynchronized
  have P0 := hP.2
  have Z : zZ (zYX g) S s s.heap [] := ⟨hP.1, va_S.rf⟩
  have hf : ∀ w ∈ u_ws RX6 TX6 4, w.before ([.ref (zad g 6), .int a1] : List Value).toArray s = true := fun w hw => hT w (mU_X6 w hw)
  have L18 := hT _ mF_X6_18
  have L22 := hT _ mF_X6_22
  have L15 := hT _ mF_X6_15
  have hl := lv_entry ([.ref (zad g 6), .int a1] : List Value) (n := 2) (Nat.le_of_ble_eq_true rfl)
  rw [lg_entry_eq]
  generalize (lg_sl ([.ref (zad g 6), .int a1] : List Value) ++ List.replicate (2 - (lg_sl ([.ref (zad g 6), .int a1] : List Value)).length) Slot.unset).toArray = ls at hl ⊢
  have hl : lv_has ls 2 [(0, .ref (zad g 6)), (1, .int a1)] := hl
  unfold fX6_begin at h
  refine lv_aload_n hx hb dX6_begin_0 rfl (lv_at hl 0 rfl) ?_
  refine lv_iconst (v := (nI 0)) hx hb dX6_begin_1 (by decide) ?_
  refine zpX6_2 hO hx hb hf hown P0 Z L18 dX6_begin_2 (fun H locs Z => ?_)
  refine lv_aload_n hx hb dX6_begin_5 rfl (lv_at hl 0 rfl) ?_
  refine lv_iconst (v := (nI 0)) hx hb dX6_begin_6 (by decide) ?_
  refine zpX6_3 hO hx hb hf hown P0 Z L22 dX6_begin_7 (fun H locs Z => ?_)
  refine lv_aload_n hx hb dX6_begin_10 rfl (lv_at hl 0 rfl) ?_
  refine zgX6_1 hx hb hf hown P0 Z L15 dX6_begin_11 ?_
  refine lv_iconst (v := (nI 0)) hx hb dX6_begin_14 (by decide) ?_
  refine lv_iconst (v := (nI 0)) hx hb dX6_begin_15 (by decide) ?_
  obtain ⟨hin, h⟩ := zck_s h
  refine zsX_30 hO hx hb P0 Z hin dX6_begin_16 (fun H locs Z => ?_)
  refine lv_aload_n hx hb dX6_begin_17 rfl (lv_at hl 0 rfl) ?_
  refine lv_iload_n hx hb dX6_begin_18 rfl (lv_at hl 1 rfl) ?_
  obtain ⟨r1, S2, ec, h⟩ := zbd_s h
  refine zc_Vv hY P0 ⟨hx, hb, hml, hown, hT⟩ (As := [.int a1]) (rest := []) (kX6_push l hO a1 (wA (wI (wI S 19 (nI 0)) 20 (nI 0)) 30 ((nI 0).toNatClampNeg) (nI 0)) r1 S2 ec) (cwV 1 hT (zgV mL_X6_25 mI_X6_push mS_X6_push mN_X6 mC_X6_push) rfl rfl rfl hdnX6_push ⟨Nat.le_of_ble_eq_true rfl, Nat.le_of_ble_eq_true rfl⟩) (zrecX_6 P0 Z) Z rfl hl.1 rfl (Nat.le_of_ble_eq_true rfl) dX6_begin_19 (fun H locs Z => ?_)
  exact zr_v hY P0 hx hb hr hlocks h Z dX6_begin_22

set_option maxHeartbeats 4000000 in
set_option maxRecDepth 100000 in
theorem kX2_begin {g : zG} (l : Launch) (hO : zinjX g) (S : zSt) (r : Unit) (S' : zSt) (h : fX2_begin S = some (r, S')) : zMv (zYX g) l yX2_begin vX2_begin { frames := 2, cells := 0, slots := 0, locals := 42 } ([.ref (zad g 7)] : List Value) S S' := by
  have hY := zOkX hO
  refine Met.ofW (cc := cX2_begin) (maxL := 2) (ret := none) (by decide) rfl ?_
  intro p e s m args below meth c s₁ B hml hv
  obtain ⟨rfl, hP⟩ := hv
  have hx := B.exec
  have hb := B.bytes
  have hr := B.returns
  have hts := atoms_spec (ws := vX2_begin) B.pre
  have hT : ∀ w ∈ zTB, w.before ([.ref (zad g 7)] : List Value).toArray s = true := fun w h => hts w (List.mem_cons_of_mem _ h)
  have hown : s.vm.findClass RX2 = some m.cls := findClass_of_methodNamed B.named
  have hlocks := B.notSynchronized
  have P0 := hP.2
  have Z : zZ (zYX g) S s s.heap [] := ⟨hP.1, va_S.rf⟩
  have hf : ∀ w ∈ u_ws RX2 TX2 11, w.before ([.ref (zad g 7)] : List Value).toArray s = true := fun w hw => hT w (mU_X2 w hw)
  have L38 := hT _ mF_X2_38
  have L42 := hT _ mF_X2_42
  have L34 := hT _ mF_X2_34
  have C72 := hT _ mK_X2_72
  have L18 := hT _ mF_X2_18
  have L9 := hT _ mF_X2_9
  have L15 := hT _ mF_X2_15
  have B9 : ∀ (n : Nat) (x1 : Int32) (S : zSt), fX2_begin_9L n (x1, S) = some (r, S') → ∀ (H : Heap) (locs : List Loc), zZ (zYX g) S s H locs → ∀ ls : Array Slot, lv_has ls 2 [(0, .ref (zad g 7)), (1, .int x1)] → W p l e (headSpec vX2_begin { frames := 2, cells := 0, slots := 0, locals := 42 }).room s m ([.ref (zad g 7)] : List Value).toArray below meth c H locs 0 0 (MQ below (zQv (zYX g) S') ([.ref (zad g 7)] : List Value).toArray s 0 0 (zYX g).2.2.1) (F0 m 9 ls []) := by
    intro n
    induction n with
    | zero => intro x1 S h; exact absurd h (fun h => nomatch h)
    | succ n K9 =>
      intro x1 S h H locs Z ls hl
      have h : fX2_begin_9 (fX2_begin_9L n) x1 S = some (r, S') := h
      unfold fX2_begin_9 at h
      refine lv_iload_n hx hb dX2_begin_9 rfl (lv_at hl 1 rfl) ?_
      refine lv_bipush (v := (nI 20)) hx hb dX2_begin_10 (by decide) ?_
      refine lv_icmp_ge (tgt := 58) hx hb dX2_begin_12 (by decide) (fun q => ?_) (fun q => ?_)
      · have h := zi_t q h
        refine lv_aload_n hx hb dX2_begin_58 rfl (lv_at hl 0 rfl) ?_
        refine zgX2_2 hx hb hf hown P0 Z L42 dX2_begin_59 ?_
        refine lv_aload_n hx hb dX2_begin_62 rfl (lv_at hl 0 rfl) ?_
        refine zgX2_0 hx hb hf hown P0 Z L34 dX2_begin_63 ?_
        refine lv_ldc2 (v := (1835100526 : Int64)) hx hb hown C72 dX2_begin_66 ?_
        obtain ⟨r3, S4, ec, h⟩ := zbd_s h
        refine zc_Vi hY P0 ⟨hx, hb, hml, hown, hT⟩ (As := [.long (1835100526 : Int64)]) (rest := [.ref (zad g 6)]) (kX4_definitionOf l hO (1835100526 : Int64) S r3 S4 ec) (cwV 1 hT (zgV mL_X2_74 mI_X4_definitionOf mS_X4_definitionOf mN_X4 mC_X4_definitionOf) rfl rfl rfl hdnX4_definitionOf ⟨Nat.le_of_ble_eq_true rfl, Nat.le_of_ble_eq_true rfl⟩) (zrecX_2 P0 Z) Z rfl hl.1 rfl (Nat.le_of_ble_eq_true rfl) dX2_begin_69 (fun H locs Z => ?_)
        obtain ⟨r5, S6, ec, h⟩ := zbd_s h
        refine zc_Vv hY P0 ⟨hx, hb, hml, hown, hT⟩ (As := [.int r3]) (rest := []) (kX6_begin l hO r3 S4 r5 S6 ec) (cwV 1 hT (zgV mL_X2_78 mI_X6_begin mS_X6_begin mN_X6 mC_X6_begin) rfl rfl rfl hdnX6_begin ⟨Nat.le_of_ble_eq_true rfl, Nat.le_of_ble_eq_true rfl⟩) (zrecX_6 P0 Z) Z rfl hl.1 rfl (Nat.le_of_ble_eq_true rfl) dX2_begin_72 (fun H locs Z => ?_)
        refine lv_aload_n hx hb dX2_begin_75 rfl (lv_at hl 0 rfl) ?_
        refine lv_iconst (v := (nI 0)) hx hb dX2_begin_76 (by decide) ?_
        refine zpX2_6 hO hx hb hf hown P0 Z L18 dX2_begin_77 (fun H locs Z => ?_)
        exact zr_v hY P0 hx hb hr hlocks h Z dX2_begin_80
      · have h := zi_f q h
        refine lv_aload_n hx hb dX2_begin_15 rfl (lv_at hl 0 rfl) ?_
        refine zgX2_4 hx hb hf hown P0 Z L9 dX2_begin_16 ?_
        refine lv_iload_n hx hb dX2_begin_19 rfl (lv_at hl 1 rfl) ?_
        refine lv_iconst (v := (nI 0)) hx hb dX2_begin_20 (by decide) ?_
        obtain ⟨hin, h⟩ := zck_s h
        refine zsX_31 hO hx hb P0 Z hin dX2_begin_21 (fun H locs Z => ?_)
        refine lv_aload_n hx hb dX2_begin_22 rfl (lv_at hl 0 rfl) ?_
        refine zgX2_5 hx hb hf hown P0 Z L15 dX2_begin_23 ?_
        refine lv_iload_n hx hb dX2_begin_26 rfl (lv_at hl 1 rfl) ?_
        refine lv_iconst (v := (nI 0)) hx hb dX2_begin_27 (by decide) ?_
        obtain ⟨hin, h⟩ := zck_s h
        refine zsX_32 hO hx hb P0 Z hin dX2_begin_28 (fun H locs Z => ?_)
        refine lv_iload_n hx hb dX2_begin_29 rfl (lv_at hl 1 rfl) ?_
        refine lv_aload_n hx hb dX2_begin_30 rfl (lv_at hl 0 rfl) ?_
        refine zgX2_0 hx hb hf hown P0 Z L34 dX2_begin_31 ?_
        obtain ⟨r7, S8, ec, h⟩ := zbd_s h
        refine zc_Vi hY P0 ⟨hx, hb, hml, hown, hT⟩ (As := []) (rest := [.int x1]) (kX4_size l hO  (wA (wA S 31 (x1.toNatClampNeg) (nI 0)) 32 (x1.toNatClampNeg) (nI 0)) r7 S8 ec) (cwV 0 hT (zgV mL_X2_60 mI_X4_size mS_X4_size mN_X4 mC_X4_size) rfl rfl rfl hdnX4_size ⟨Nat.le_of_ble_eq_true rfl, Nat.le_of_ble_eq_true rfl⟩) (zrecX_2 P0 Z) Z rfl hl.1 rfl (Nat.le_of_ble_eq_true rfl) dX2_begin_34 (fun H locs Z => ?_)
        refine lv_icmp_ge (tgt := 52) hx hb dX2_begin_37 (by decide) (fun q => ?_) (fun q => ?_)
        · have h := zi_t q h
          refine lv_iinc (v := (x1 + (nI 1))) (lv' := [(1, .int (x1 + (nI 1))), (0, .ref (zad g 7))]) hx hb dX2_begin_52 hl (k := 1) rfl rfl (by decide) rfl (fun ls hl => ?_)
          refine lv_goto (tgt := 9) hx hb dX2_begin_55 (by decide) ?_
          exact K9 (x1 + (nI 1)) S8 h _ _ Z ls (lv_sub hl [1, 0] rfl)
        · have h := zi_f q h
          refine lv_aload_n hx hb dX2_begin_40 rfl (lv_at hl 0 rfl) ?_
          refine zgX2_1 hx hb hf hown P0 Z L38 dX2_begin_41 ?_
          refine lv_iconst (v := (nI 2)) hx hb dX2_begin_44 (by decide) ?_
          refine lv_iload_n hx hb dX2_begin_45 rfl (lv_at hl 1 rfl) ?_
          refine lv_bipush (v := (-3 : Int32)) hx hb dX2_begin_46 (by decide) ?_
          obtain ⟨r9, S10, ec, h⟩ := zbd_s h
          refine zc_Vi hY P0 ⟨hx, hb, hml, hown, hT⟩ (As := [.int (nI 2), .int x1, .int (-3 : Int32)]) (rest := []) (kX0_add l hO (nI 2) x1 (-3 : Int32) S8 r9 S10 ec) (cwV 3 hT (zgV mL_X2_66 mI_X0_add mS_X0_add mN_X0 mC_X0_add) rfl rfl rfl hdnX0_add ⟨Nat.le_of_ble_eq_true rfl, Nat.le_of_ble_eq_true rfl⟩) (zrecX_5 P0 Z) Z rfl hl.1 rfl (Nat.le_of_ble_eq_true rfl) dX2_begin_48 (fun H locs Z => ?_)
          refine lv_pop hx hb dX2_begin_51 rfl ?_
          refine lv_iinc (v := (x1 + (nI 1))) (lv' := [(1, .int (x1 + (nI 1))), (0, .ref (zad g 7))]) hx hb dX2_begin_52 hl (k := 1) rfl rfl (by decide) rfl (fun ls hl => ?_)
          refine lv_goto (tgt := 9) hx hb dX2_begin_55 (by decide) ?_
          exact K9 (x1 + (nI 1)) S10 h _ _ Z ls (lv_sub hl [1, 0] rfl)
  have hl := lv_entry ([.ref (zad g 7)] : List Value) (n := 2) (Nat.le_of_ble_eq_true rfl)
  rw [lg_entry_eq]
  generalize (lg_sl ([.ref (zad g 7)] : List Value) ++ List.replicate (2 - (lg_sl ([.ref (zad g 7)] : List Value)).length) Slot.unset).toArray = ls at hl ⊢
  have hl : lv_has ls 2 [(0, .ref (zad g 7))] := hl
  unfold fX2_begin at h
  refine lv_aload_n hx hb dX2_begin_0 rfl (lv_at hl 0 rfl) ?_
  refine zgX2_1 hx hb hf hown P0 Z L38 dX2_begin_1 ?_
  obtain ⟨r1, S2, ec, h⟩ := zbd_s h
  refine zc_Vv hY P0 ⟨hx, hb, hml, hown, hT⟩ (As := []) (rest := []) (kX0_clear l hO  S r1 S2 ec) (cwV 0 hT (zgV mL_X2_55 mI_X0_clear mS_X0_clear mN_X0 mC_X0_clear) rfl rfl rfl hdnX0_clear ⟨Nat.le_of_ble_eq_true rfl, Nat.le_of_ble_eq_true rfl⟩) (zrecX_5 P0 Z) Z rfl hl.1 rfl (Nat.le_of_ble_eq_true rfl) dX2_begin_4 (fun H locs Z => ?_)
  refine lv_iconst (v := (nI 0)) hx hb dX2_begin_7 (by decide) ?_
  refine lv_istore_n (lv' := [(1, .int (nI 0)), (0, .ref (zad g 7))]) hx hb dX2_begin_8 rfl hl (by decide) rfl (fun ls hl => ?_)
  exact B9 zFU (nI 0) S2 h _ _ Z ls (lv_sub hl [1, 0] rfl)

set_option maxHeartbeats 4000000 in
set_option maxRecDepth 100000 in
theorem kX5_faultFound {g : zG} (l : Launch) (hO : zinjX g) (S : zSt) (r : Int32) (S' : zSt) (h : fX5_faultFound S = some (r, S')) : zMi (zYX g) l yX5_faultFound vX5_faultFound { frames := 0, cells := 0, slots := 0, locals := 0 } ([.ref (zad g 3)] : List Value) S r S' := by
  have hY := zOkX hO
  refine Met.ofW (cc := cX5_faultFound) (maxL := 1) (ret := (some .int)) (by decide) rfl ?_
  intro p e s m args below meth c s₁ B hml hv
  obtain ⟨rfl, hP⟩ := hv
  have hx := B.exec
  have hb := B.bytes
  have hr := B.returns
  have hts := atoms_spec (ws := vX5_faultFound) B.pre
  have hT : ∀ w ∈ zTB, w.before ([.ref (zad g 3)] : List Value).toArray s = true := fun w h => hts w (List.mem_cons_of_mem _ h)
  have hown : s.vm.findClass RX5 = some m.cls := findClass_of_methodNamed B.named
  have hlocks := B.notSynchronized
  have P0 := hP.2
  have Z : zZ (zYX g) S s s.heap [] := ⟨hP.1, va_S.rf⟩
  have hf : ∀ w ∈ u_ws RX5 TX5 6, w.before ([.ref (zad g 3)] : List Value).toArray s = true := fun w hw => hT w (mU_X5 w hw)
  have L18 := hT _ mF_X5_18
  have hl := lv_entry ([.ref (zad g 3)] : List Value) (n := 1) (Nat.le_of_ble_eq_true rfl)
  rw [lg_entry_eq]
  generalize (lg_sl ([.ref (zad g 3)] : List Value) ++ List.replicate (1 - (lg_sl ([.ref (zad g 3)] : List Value)).length) Slot.unset).toArray = ls at hl ⊢
  have hl : lv_has ls 1 [(0, .ref (zad g 3))] := hl
  unfold fX5_faultFound at h
  refine lv_aload_n hx hb dX5_faultFound_0 rfl (lv_at hl 0 rfl) ?_
  refine zgX5_4 (v := (zI S 8)) hx hb hf hown P0 Z L18 rfl dX5_faultFound_1 ?_
  exact zr_i hY P0 hx hb hr hlocks h Z dX5_faultFound_4

set_option maxHeartbeats 4000000 in
set_option maxRecDepth 100000 in
theorem kX5_faultPlace {g : zG} (l : Launch) (hO : zinjX g) (S : zSt) (r : Int32) (S' : zSt) (h : fX5_faultPlace S = some (r, S')) : zMi (zYX g) l yX5_faultPlace vX5_faultPlace { frames := 0, cells := 0, slots := 0, locals := 0 } ([.ref (zad g 3)] : List Value) S r S' := by
  have hY := zOkX hO
  refine Met.ofW (cc := cX5_faultPlace) (maxL := 1) (ret := (some .int)) (by decide) rfl ?_
  intro p e s m args below meth c s₁ B hml hv
  obtain ⟨rfl, hP⟩ := hv
  have hx := B.exec
  have hb := B.bytes
  have hr := B.returns
  have hts := atoms_spec (ws := vX5_faultPlace) B.pre
  have hT : ∀ w ∈ zTB, w.before ([.ref (zad g 3)] : List Value).toArray s = true := fun w h => hts w (List.mem_cons_of_mem _ h)
  have hown : s.vm.findClass RX5 = some m.cls := findClass_of_methodNamed B.named
  have hlocks := B.notSynchronized
  have P0 := hP.2
  have Z : zZ (zYX g) S s s.heap [] := ⟨hP.1, va_S.rf⟩
  have hf : ∀ w ∈ u_ws RX5 TX5 6, w.before ([.ref (zad g 3)] : List Value).toArray s = true := fun w hw => hT w (mU_X5 w hw)
  have L22 := hT _ mF_X5_22
  have hl := lv_entry ([.ref (zad g 3)] : List Value) (n := 1) (Nat.le_of_ble_eq_true rfl)
  rw [lg_entry_eq]
  generalize (lg_sl ([.ref (zad g 3)] : List Value) ++ List.replicate (1 - (lg_sl ([.ref (zad g 3)] : List Value)).length) Slot.unset).toArray = ls at hl ⊢
  have hl : lv_has ls 1 [(0, .ref (zad g 3))] := hl
  unfold fX5_faultPlace at h
  refine lv_aload_n hx hb dX5_faultPlace_0 rfl (lv_at hl 0 rfl) ?_
  refine zgX5_5 (v := (zI S 9)) hx hb hf hown P0 Z L22 rfl dX5_faultPlace_1 ?_
  exact zr_i hY P0 hx hb hr hlocks h Z dX5_faultPlace_4

set_option maxHeartbeats 4000000 in
set_option maxRecDepth 100000 in
theorem kX4_clear {g : zG} (l : Launch) (hO : zinjX g) (S : zSt) (r : Unit) (S' : zSt) (h : fX4_clear S = some (r, S')) : zMv (zYX g) l yX4_clear vX4_clear { frames := 0, cells := 0, slots := 0, locals := 0 } ([.ref (zad g 2)] : List Value) S S' := by
  have hY := zOkX hO
  refine Met.ofW (cc := cX4_clear) (maxL := 1) (ret := none) (by decide) rfl ?_
  intro p e s m args below meth c s₁ B hml hv
  obtain ⟨rfl, hP⟩ := hv
  have hx := B.exec
  have hb := B.bytes
  have hr := B.returns
  have hts := atoms_spec (ws := vX4_clear) B.pre
  have hT : ∀ w ∈ zTB, w.before ([.ref (zad g 2)] : List Value).toArray s = true := fun w h => hts w (List.mem_cons_of_mem _ h)
  have hown : s.vm.findClass RX4 = some m.cls := findClass_of_methodNamed B.named
  have hlocks := B.notSynchronized
  have P0 := hP.2
  have Z : zZ (zYX g) S s s.heap [] := ⟨hP.1, va_S.rf⟩
  have hf : ∀ w ∈ u_ws RX4 TX4 12, w.before ([.ref (zad g 2)] : List Value).toArray s = true := fun w hw => hT w (mU_X4 w hw)
  have L28 := hT _ mF_X4_28
  have L47 := hT _ mF_X4_47
  have hl := lv_entry ([.ref (zad g 2)] : List Value) (n := 1) (Nat.le_of_ble_eq_true rfl)
  rw [lg_entry_eq]
  generalize (lg_sl ([.ref (zad g 2)] : List Value) ++ List.replicate (1 - (lg_sl ([.ref (zad g 2)] : List Value)).length) Slot.unset).toArray = ls at hl ⊢
  have hl : lv_has ls 1 [(0, .ref (zad g 2))] := hl
  unfold fX4_clear at h
  refine lv_aload_n hx hb dX4_clear_0 rfl (lv_at hl 0 rfl) ?_
  refine lv_iconst (v := (nI 0)) hx hb dX4_clear_1 (by decide) ?_
  refine zpX4_5 hO hx hb hf hown P0 Z L28 dX4_clear_2 (fun H locs Z => ?_)
  refine lv_aload_n hx hb dX4_clear_5 rfl (lv_at hl 0 rfl) ?_
  refine lv_iconst (v := (nI 0)) hx hb dX4_clear_6 (by decide) ?_
  refine zpX4_11 hO hx hb hf hown P0 Z L47 dX4_clear_7 (fun H locs Z => ?_)
  exact zr_v hY P0 hx hb hr hlocks h Z dX4_clear_10

set_option maxHeartbeats 4000000 in
set_option maxRecDepth 100000 in
theorem kX4_firstUntold {g : zG} (l : Launch) (hO : zinjX g) (S : zSt) (r : Int32) (S' : zSt) (h : fX4_firstUntold S = some (r, S')) : zMi (zYX g) l yX4_firstUntold vX4_firstUntold { frames := 0, cells := 0, slots := 0, locals := 0 } ([.ref (zad g 2)] : List Value) S r S' := by
  have hY := zOkX hO
  refine Met.ofW (cc := cX4_firstUntold) (maxL := 2) (ret := (some .int)) (by decide) rfl ?_
  intro p e s m args below meth c s₁ B hml hv
  obtain ⟨rfl, hP⟩ := hv
  have hx := B.exec
  have hb := B.bytes
  have hr := B.returns
  have hts := atoms_spec (ws := vX4_firstUntold) B.pre
  have hT : ∀ w ∈ zTB, w.before ([.ref (zad g 2)] : List Value).toArray s = true := fun w h => hts w (List.mem_cons_of_mem _ h)
  have hown : s.vm.findClass RX4 = some m.cls := findClass_of_methodNamed B.named
  have hlocks := B.notSynchronized
  have P0 := hP.2
  have Z : zZ (zYX g) S s s.heap [] := ⟨hP.1, va_S.rf⟩
  have hf : ∀ w ∈ u_ws RX4 TX4 12, w.before ([.ref (zad g 2)] : List Value).toArray s = true := fun w hw => hT w (mU_X4 w hw)
  have L47 := hT _ mF_X4_47
  have L32 := hT _ mF_X4_32
  have L44 := hT _ mF_X4_44
  have B2 : ∀ (n : Nat) (x1 : Int32) (S : zSt), fX4_firstUntold_2L n (x1, S) = some (r, S') → ∀ (H : Heap) (locs : List Loc), zZ (zYX g) S s H locs → ∀ ls : Array Slot, lv_has ls 2 [(0, .ref (zad g 2)), (1, .int x1)] → W p l e (headSpec vX4_firstUntold { frames := 0, cells := 0, slots := 0, locals := 0 }).room s m ([.ref (zad g 2)] : List Value).toArray below meth c H locs 0 0 (MQ below (zQi (zYX g) r S') ([.ref (zad g 2)] : List Value).toArray s 0 0 (zYX g).2.2.1) (F0 m 2 ls []) := by
    intro n
    induction n with
    | zero => intro x1 S h; exact absurd h (fun h => nomatch h)
    | succ n K2 =>
      intro x1 S h H locs Z ls hl
      have h : fX4_firstUntold_2 (fX4_firstUntold_2L n) x1 S = some (r, S') := h
      unfold fX4_firstUntold_2 at h
      refine lv_iload_n hx hb dX4_firstUntold_2 rfl (lv_at hl 1 rfl) ?_
      refine lv_aload_n hx hb dX4_firstUntold_3 rfl (lv_at hl 0 rfl) ?_
      refine zgX4_11 (v := (zI S 7)) hx hb hf hown P0 Z L47 rfl dX4_firstUntold_4 ?_
      refine lv_icmp_ge (tgt := 41) hx hb dX4_firstUntold_7 (by decide) (fun q => ?_) (fun q => ?_)
      · have h := zi_t q h
        refine lv_iconst (v := (-1 : Int32)) hx hb dX4_firstUntold_41 (by decide) ?_
        exact zr_i hY P0 hx hb hr hlocks h Z dX4_firstUntold_42
      · have h := zi_f q h
        refine lv_iload_n hx hb dX4_firstUntold_10 rfl (lv_at hl 1 rfl) ?_
        refine lv_sipush (v := (nI 800)) hx hb dX4_firstUntold_11 (by decide) ?_
        refine lv_icmp_ge (tgt := 41) hx hb dX4_firstUntold_14 (by decide) (fun q => ?_) (fun q => ?_)
        · have h := zi_t q h
          refine lv_iconst (v := (-1 : Int32)) hx hb dX4_firstUntold_41 (by decide) ?_
          exact zr_i hY P0 hx hb hr hlocks h Z dX4_firstUntold_42
        · have h := zi_f q h
          refine lv_aload_n hx hb dX4_firstUntold_17 rfl (lv_at hl 0 rfl) ?_
          refine zgX4_6 hx hb hf hown P0 Z L32 dX4_firstUntold_18 ?_
          refine lv_iload_n hx hb dX4_firstUntold_21 rfl (lv_at hl 1 rfl) ?_
          obtain ⟨v1, ev, hin, h⟩ := zld_s h
          refine zlX_17 hx hb P0 Z ev hin dX4_firstUntold_22 ?_
          refine lv_bipush (v := (nI 8)) hx hb dX4_firstUntold_23 (by decide) ?_
          refine lv_icmp_ne (tgt := 35) hx hb dX4_firstUntold_25 (by decide) (fun q => ?_) (fun q => ?_)
          · have h := zi_f q h
            refine lv_iinc (v := (x1 + (nI 1))) (lv' := [(1, .int (x1 + (nI 1))), (0, .ref (zad g 2))]) hx hb dX4_firstUntold_35 hl (k := 1) rfl rfl (by decide) rfl (fun ls hl => ?_)
            refine lv_goto (tgt := 2) hx hb dX4_firstUntold_38 (by decide) ?_
            exact K2 (x1 + (nI 1)) S h _ _ Z ls (lv_sub hl [1, 0] rfl)
          · have h := zi_t q h
            refine lv_aload_n hx hb dX4_firstUntold_28 rfl (lv_at hl 0 rfl) ?_
            refine zgX4_10 hx hb hf hown P0 Z L44 dX4_firstUntold_29 ?_
            refine lv_iload_n hx hb dX4_firstUntold_32 rfl (lv_at hl 1 rfl) ?_
            obtain ⟨v2, ev, hin, h⟩ := zld_s h
            refine zlX_21 hx hb P0 Z ev hin dX4_firstUntold_33 ?_
            exact zr_i hY P0 hx hb hr hlocks h Z dX4_firstUntold_34
  have hl := lv_entry ([.ref (zad g 2)] : List Value) (n := 2) (Nat.le_of_ble_eq_true rfl)
  rw [lg_entry_eq]
  generalize (lg_sl ([.ref (zad g 2)] : List Value) ++ List.replicate (2 - (lg_sl ([.ref (zad g 2)] : List Value)).length) Slot.unset).toArray = ls at hl ⊢
  have hl : lv_has ls 2 [(0, .ref (zad g 2))] := hl
  unfold fX4_firstUntold at h
  refine lv_iconst (v := (nI 0)) hx hb dX4_firstUntold_0 (by decide) ?_
  refine lv_istore_n (lv' := [(1, .int (nI 0)), (0, .ref (zad g 2))]) hx hb dX4_firstUntold_1 rfl hl (by decide) rfl (fun ls hl => ?_)
  exact B2 zFU (nI 0) S h _ _ Z ls (lv_sub hl [1, 0] rfl)

set_option maxHeartbeats 4000000 in
set_option maxRecDepth 100000 in
theorem kX4_isDefinition {g : zG} (l : Launch) (hO : zinjX g) (a0 : Int32) (S : zSt) (r : Int32) (S' : zSt) (h : fX4_isDefinition a0 S = some (r, S')) : zMi (zYX g) l yX4_isDefinition vX4_isDefinition { frames := 0, cells := 0, slots := 0, locals := 0 } ([.int a0] : List Value) S r S' := by
  have hY := zOkX hO
  refine Met.ofW (cc := cX4_isDefinition) (maxL := 1) (ret := (some .boolean)) (by decide) rfl ?_
  intro p e s m args below meth c s₁ B hml hv
  obtain ⟨rfl, hP⟩ := hv
  have hx := B.exec
  have hb := B.bytes
  have hr := B.returns
  have hts := atoms_spec (ws := vX4_isDefinition) B.pre
  have hT : ∀ w ∈ zTB, w.before ([.int a0] : List Value).toArray s = true := fun w h => hts w (List.mem_cons_of_mem _ h)
  have hown : s.vm.findClass RX4 = some m.cls := findClass_of_methodNamed B.named
  have hlocks := B.notSynchronized
  have P0 := hP.2
  have Z : zZ (zYX g) S s s.heap [] := ⟨hP.1, va_S.rf⟩
  have hl := lv_entry ([.int a0] : List Value) (n := 1) (Nat.le_of_ble_eq_true rfl)
  rw [lg_entry_eq]
  generalize (lg_sl ([.int a0] : List Value) ++ List.replicate (1 - (lg_sl ([.int a0] : List Value)).length) Slot.unset).toArray = ls at hl ⊢
  have hl : lv_has ls 1 [(0, .int a0)] := hl
  unfold fX4_isDefinition at h
  refine lv_iload_n hx hb dX4_isDefinition_0 rfl (lv_at hl 0 rfl) ?_
  refine lv_if_lt (tgt := 14) hx hb dX4_isDefinition_1 (by decide) (fun q => ?_) (fun q => ?_)
  · have h := zi_t q h
    refine lv_iconst (v := (nI 0)) hx hb dX4_isDefinition_14 (by decide) ?_
    exact zr_z hY P0 hx hb hr hlocks (by decide) h Z dX4_isDefinition_15
  · have h := zi_f q h
    refine lv_iload_n hx hb dX4_isDefinition_4 rfl (lv_at hl 0 rfl) ?_
    refine lv_bipush (v := (nI 20)) hx hb dX4_isDefinition_5 (by decide) ?_
    refine lv_icmp_ge (tgt := 14) hx hb dX4_isDefinition_7 (by decide) (fun q => ?_) (fun q => ?_)
    · have h := zi_t q h
      refine lv_iconst (v := (nI 0)) hx hb dX4_isDefinition_14 (by decide) ?_
      exact zr_z hY P0 hx hb hr hlocks (by decide) h Z dX4_isDefinition_15
    · have h := zi_f q h
      refine lv_iconst (v := (nI 1)) hx hb dX4_isDefinition_10 (by decide) ?_
      refine lv_goto (tgt := 15) hx hb dX4_isDefinition_11 (by decide) ?_
      exact zr_z hY P0 hx hb hr hlocks (by decide) h Z dX4_isDefinition_15

set_option maxHeartbeats 4000000 in
set_option maxRecDepth 100000 in
theorem kX4_parametersOf {g : zG} (l : Launch) (hO : zinjX g) (a1 : Int32) (S : zSt) (r : Int32) (S' : zSt) (h : fX4_parametersOf a1 S = some (r, S')) : zMi (zYX g) l yX4_parametersOf vX4_parametersOf { frames := 1, cells := 0, slots := 0, locals := 20 } ([.ref (zad g 2), .int a1] : List Value) S r S' := by
  have hY := zOkX hO
  refine Met.ofW (cc := cX4_parametersOf) (maxL := 2) (ret := (some .int)) (by decide) rfl ?_
  intro p e s m args below meth c s₁ B hml hv
  obtain ⟨rfl, hP⟩ := hv
  have hx := B.exec
  have hb := B.bytes
  have hr := B.returns
  have hts := atoms_spec (ws := vX4_parametersOf) B.pre
  have hT : ∀ w ∈ zTB, w.before ([.ref (zad g 2), .int a1] : List Value).toArray s = true := fun w h => hts w (List.mem_cons_of_mem _ h)
  have hown : s.vm.findClass RX4 = some m.cls := findClass_of_methodNamed B.named
  have hlocks := B.notSynchronized
  have P0 := hP.2
  have Z : zZ (zYX g) S s s.heap [] := ⟨hP.1, va_S.rf⟩
  have hf : ∀ w ∈ u_ws RX4 TX4 12, w.before ([.ref (zad g 2), .int a1] : List Value).toArray s = true := fun w hw => hT w (mU_X4 w hw)
  have L15 := hT _ mF_X4_15
  have hl := lv_entry ([.ref (zad g 2), .int a1] : List Value) (n := 2) (Nat.le_of_ble_eq_true rfl)
  rw [lg_entry_eq]
  generalize (lg_sl ([.ref (zad g 2), .int a1] : List Value) ++ List.replicate (2 - (lg_sl ([.ref (zad g 2), .int a1] : List Value)).length) Slot.unset).toArray = ls at hl ⊢
  have hl : lv_has ls 2 [(0, .ref (zad g 2)), (1, .int a1)] := hl
  unfold fX4_parametersOf at h
  refine lv_iload_n hx hb dX4_parametersOf_0 rfl (lv_at hl 1 rfl) ?_
  obtain ⟨r1, S2, ec, h⟩ := zbd_s h
  refine zc_Si hY P0 ⟨hx, hb, hml, hown, hT⟩ (As := [.int a1]) (rest := []) (kX4_isDefinition l hO a1 S r1 S2 ec) (va_cwS 1 hT (zgS mL_X4_60 mT_X4_isDefinition mN_X4 mC_X4_isDefinition) rfl rfl rfl hdnX4_isDefinition ⟨Nat.le_of_ble_eq_true rfl, Nat.le_of_ble_eq_true rfl⟩) Z rfl hl.1 rfl (Nat.le_of_ble_eq_true rfl) dX4_parametersOf_1 (fun H locs Z => ?_)
  refine lv_if_eq (tgt := 16) hx hb dX4_parametersOf_4 (by decide) (fun q => ?_) (fun q => ?_)
  · have h := zi_t q h
    refine lv_iconst (v := (nI 0)) hx hb dX4_parametersOf_16 (by decide) ?_
    exact zr_i hY P0 hx hb hr hlocks h Z dX4_parametersOf_17
  · have h := zi_f q h
    refine lv_aload_n hx hb dX4_parametersOf_7 rfl (lv_at hl 0 rfl) ?_
    refine zgX4_1 hx hb hf hown P0 Z L15 dX4_parametersOf_8 ?_
    refine lv_iload_n hx hb dX4_parametersOf_11 rfl (lv_at hl 1 rfl) ?_
    obtain ⟨v3, ev, hin, h⟩ := zld_s h
    refine zlX_13 hx hb P0 Z ev hin dX4_parametersOf_12 ?_
    refine lv_goto (tgt := 17) hx hb dX4_parametersOf_13 (by decide) ?_
    exact zr_i hY P0 hx hb hr hlocks h Z dX4_parametersOf_17

set_option maxHeartbeats 4000000 in
set_option maxRecDepth 100000 in
theorem kX4_tell {g : zG} (l : Launch) (hO : zinjX g) (a1 : Int32) (a2 : Int64) (a4 : Int32) (a5 : Int32) (S : zSt) (r : Unit) (S' : zSt) (h : fX4_tell a1 a2 a4 a5 S = some (r, S')) : zMv (zYX g) l yX4_tell vX4_tell { frames := 0, cells := 0, slots := 0, locals := 0 } ([.ref (zad g 2), .int a1, .long a2, .int a4, .int a5] : List Value) S S' := by
  have hY := zOkX hO
  refine Met.ofW (cc := cX4_tell) (maxL := 7) (ret := none) (by decide) rfl ?_
  intro p e s m args below meth c s₁ B hml hv
  obtain ⟨rfl, hP⟩ := hv
  have hx := B.exec
  have hb := B.bytes
  have hr := B.returns
  have hts := atoms_spec (ws := vX4_tell) B.pre
  have hT : ∀ w ∈ zTB, w.before ([.ref (zad g 2), .int a1, .long a2, .int a4, .int a5] : List Value).toArray s = true := fun w h => hts w (List.mem_cons_of_mem _ h)
  have hown : s.vm.findClass RX4 = some m.cls := findClass_of_methodNamed B.named
  have hlocks := B.notSynchronized
  have P0 := hP.2
  have Z : zZ (zYX g) S s s.heap [] := ⟨hP.1, va_S.rf⟩
  have hf : ∀ w ∈ u_ws RX4 TX4 12, w.before ([.ref (zad g 2), .int a1, .long a2, .int a4, .int a5] : List Value).toArray s = true := fun w hw => hT w (mU_X4 w hw)
  have L47 := hT _ mF_X4_47
  have L32 := hT _ mF_X4_32
  have L41 := hT _ mF_X4_41
  have L35 := hT _ mF_X4_35
  have B11 : ∀ (n : Nat) (x2 : Int64) (x4 : Int32) (x5 : Int32) (x6 : Int32) (S : zSt), fX4_tell_11L n (x2, x4, x5, x6, S) = some (r, S') → ∀ (H : Heap) (locs : List Loc), zZ (zYX g) S s H locs → ∀ ls : Array Slot, lv_has ls 7 [(0, .ref (zad g 2)), (2, .long x2), (4, .int x4), (5, .int x5), (6, .int x6)] → W p l e (headSpec vX4_tell { frames := 0, cells := 0, slots := 0, locals := 0 }).room s m ([.ref (zad g 2), .int a1, .long a2, .int a4, .int a5] : List Value).toArray below meth c H locs 0 0 (MQ below (zQv (zYX g) S') ([.ref (zad g 2), .int a1, .long a2, .int a4, .int a5] : List Value).toArray s 0 0 (zYX g).2.2.1) (F0 m 11 ls []) := by
    intro n
    induction n with
    | zero => intro x2 x4 x5 x6 S h; exact absurd h (fun h => nomatch h)
    | succ n K11 =>
      intro x2 x4 x5 x6 S h H locs Z ls hl
      have h : fX4_tell_11 (fX4_tell_11L n) x2 x4 x5 x6 S = some (r, S') := h
      unfold fX4_tell_11 at h
      refine lv_iload hx hb dX4_tell_11 (lv_at hl 4 rfl) ?_
      refine lv_aload_n hx hb dX4_tell_13 rfl (lv_at hl 0 rfl) ?_
      refine zgX4_11 (v := (zI S 7)) hx hb hf hown P0 Z L47 rfl dX4_tell_14 ?_
      refine lv_icmp_ge (tgt := 76) hx hb dX4_tell_17 (by decide) (fun q => ?_) (fun q => ?_)
      · have h := zi_t q h
        exact zr_v hY P0 hx hb hr hlocks h Z dX4_tell_76
      · have h := zi_f q h
        refine lv_iload hx hb dX4_tell_20 (lv_at hl 4 rfl) ?_
        refine lv_sipush (v := (nI 800)) hx hb dX4_tell_22 (by decide) ?_
        refine lv_icmp_ge (tgt := 76) hx hb dX4_tell_25 (by decide) (fun q => ?_) (fun q => ?_)
        · have h := zi_t q h
          exact zr_v hY P0 hx hb hr hlocks h Z dX4_tell_76
        · have h := zi_f q h
          refine lv_aload_n hx hb dX4_tell_28 rfl (lv_at hl 0 rfl) ?_
          refine zgX4_6 hx hb hf hown P0 Z L32 dX4_tell_29 ?_
          refine lv_iload hx hb dX4_tell_32 (lv_at hl 4 rfl) ?_
          obtain ⟨v1, ev, hin, h⟩ := zld_s h
          refine zlX_17 hx hb P0 Z ev hin dX4_tell_34 ?_
          refine lv_bipush (v := (nI 8)) hx hb dX4_tell_35 (by decide) ?_
          refine lv_icmp_ne (tgt := 70) hx hb dX4_tell_37 (by decide) (fun q => ?_) (fun q => ?_)
          · have h := zi_f q h
            refine lv_iinc (v := (x6 + (nI 1))) (lv' := [(6, .int (x6 + (nI 1))), (0, .ref (zad g 2)), (2, .long x2), (4, .int x4), (5, .int x5)]) hx hb dX4_tell_70 hl (k := 4) rfl rfl (by decide) rfl (fun ls hl => ?_)
            refine lv_goto (tgt := 11) hx hb dX4_tell_73 (by decide) ?_
            exact K11 x2 x4 x5 (x6 + (nI 1)) S h _ _ Z ls (lv_sub hl [1, 2, 3, 4, 0] rfl)
          · have h := zi_t q h
            refine lv_aload_n hx hb dX4_tell_40 rfl (lv_at hl 0 rfl) ?_
            refine zgX4_9 hx hb hf hown P0 Z L41 dX4_tell_41 ?_
            refine lv_iload hx hb dX4_tell_44 (lv_at hl 4 rfl) ?_
            obtain ⟨v2, ev, hin, h⟩ := zld_s h
            refine zlX_20 hx hb P0 Z ev hin dX4_tell_46 ?_
            refine lv_lload_n hx hb dX4_tell_47 rfl (lv_at hl 1 rfl) ?_
            refine W.lcmp hx hb dX4_tell_48 ?_
            refine lv_if_ne (tgt := 70) hx hb dX4_tell_49 (by decide) (fun q => ?_) (fun q => ?_)
            · have h := zi_f q h
              refine lv_iinc (v := (x6 + (nI 1))) (lv' := [(6, .int (x6 + (nI 1))), (0, .ref (zad g 2)), (2, .long x2), (4, .int x4), (5, .int x5)]) hx hb dX4_tell_70 hl (k := 4) rfl rfl (by decide) rfl (fun ls hl => ?_)
              refine lv_goto (tgt := 11) hx hb dX4_tell_73 (by decide) ?_
              exact K11 x2 x4 x5 (x6 + (nI 1)) S h _ _ Z ls (lv_sub hl [1, 2, 3, 4, 0] rfl)
            · have h := zi_t q h
              refine lv_aload_n hx hb dX4_tell_52 rfl (lv_at hl 0 rfl) ?_
              refine zgX4_6 hx hb hf hown P0 Z L32 dX4_tell_53 ?_
              refine lv_iload hx hb dX4_tell_56 (lv_at hl 4 rfl) ?_
              refine lv_iload hx hb dX4_tell_58 (lv_at hl 2 rfl) ?_
              obtain ⟨hin, h⟩ := zck_s h
              refine zsX_17 hO hx hb P0 Z hin dX4_tell_60 (fun H locs Z => ?_)
              refine lv_aload_n hx hb dX4_tell_61 rfl (lv_at hl 0 rfl) ?_
              refine zgX4_7 hx hb hf hown P0 Z L35 dX4_tell_62 ?_
              refine lv_iload hx hb dX4_tell_65 (lv_at hl 4 rfl) ?_
              refine lv_iload hx hb dX4_tell_67 (lv_at hl 3 rfl) ?_
              obtain ⟨hin, h⟩ := zck_s h
              refine zsX_18 hO hx hb P0 Z hin dX4_tell_69 (fun H locs Z => ?_)
              refine lv_iinc (v := (x6 + (nI 1))) (lv' := [(6, .int (x6 + (nI 1))), (0, .ref (zad g 2)), (2, .long x2), (4, .int x4), (5, .int x5)]) hx hb dX4_tell_70 hl (k := 4) rfl rfl (by decide) rfl (fun ls hl => ?_)
              refine lv_goto (tgt := 11) hx hb dX4_tell_73 (by decide) ?_
              exact K11 x2 x4 x5 (x6 + (nI 1)) (wA (wA S 17 (x6.toNatClampNeg) x4) 18 (x6.toNatClampNeg) x5) h _ _ Z ls (lv_sub hl [1, 2, 3, 4, 0] rfl)
  have hl := lv_entry ([.ref (zad g 2), .int a1, .long a2, .int a4, .int a5] : List Value) (n := 7) (Nat.le_of_ble_eq_true rfl)
  rw [lg_entry_eq]
  generalize (lg_sl ([.ref (zad g 2), .int a1, .long a2, .int a4, .int a5] : List Value) ++ List.replicate (7 - (lg_sl ([.ref (zad g 2), .int a1, .long a2, .int a4, .int a5] : List Value)).length) Slot.unset).toArray = ls at hl ⊢
  have hl : lv_has ls 7 [(0, .ref (zad g 2)), (1, .int a1), (2, .long a2), (4, .int a4), (5, .int a5)] := hl
  unfold fX4_tell at h
  refine lv_iload_n hx hb dX4_tell_0 rfl (lv_at hl 1 rfl) ?_
  refine lv_if_ge (tgt := 8) hx hb dX4_tell_1 (by decide) (fun q => ?_) (fun q => ?_)
  · have h := zi_t q h
    refine lv_iload_n hx hb dX4_tell_8 rfl (lv_at hl 1 rfl) ?_
    refine lv_istore (lv' := [(6, .int a1), (0, .ref (zad g 2)), (1, .int a1), (2, .long a2), (4, .int a4), (5, .int a5)]) hx hb dX4_tell_9 hl (by decide) rfl (fun ls hl => ?_)
    exact B11 zFU a2 a4 a5 a1 S h _ _ Z ls (lv_sub hl [1, 3, 4, 5, 0] rfl)
  · have h := zi_f q h
    refine lv_iconst (v := (nI 0)) hx hb dX4_tell_4 (by decide) ?_
    refine lv_goto (tgt := 9) hx hb dX4_tell_5 (by decide) ?_
    refine lv_istore (lv' := [(6, .int (nI 0)), (0, .ref (zad g 2)), (1, .int a1), (2, .long a2), (4, .int a4), (5, .int a5)]) hx hb dX4_tell_9 hl (by decide) rfl (fun ls hl => ?_)
    exact B11 zFU a2 a4 a5 (nI 0) S h _ _ Z ls (lv_sub hl [1, 3, 4, 5, 0] rfl)

set_option maxHeartbeats 4000000 in
set_option maxRecDepth 100000 in
theorem kX4_tellDefinitions {g : zG} (l : Launch) (hO : zinjX g) (S : zSt) (r : Unit) (S' : zSt) (h : fX4_tellDefinitions S = some (r, S')) : zMv (zYX g) l yX4_tellDefinitions vX4_tellDefinitions { frames := 1, cells := 0, slots := 0, locals := 26 } ([.ref (zad g 2)] : List Value) S S' := by
  have hY := zOkX hO
  refine Met.ofW (cc := cX4_tellDefinitions) (maxL := 2) (ret := none) (by decide) rfl ?_
  intro p e s m args below meth c s₁ B hml hv
  obtain ⟨rfl, hP⟩ := hv
  have hx := B.exec
  have hb := B.bytes
  have hr := B.returns
  have hts := atoms_spec (ws := vX4_tellDefinitions) B.pre
  have hT : ∀ w ∈ zTB, w.before ([.ref (zad g 2)] : List Value).toArray s = true := fun w h => hts w (List.mem_cons_of_mem _ h)
  have hown : s.vm.findClass RX4 = some m.cls := findClass_of_methodNamed B.named
  have hlocks := B.notSynchronized
  have P0 := hP.2
  have Z : zZ (zYX g) S s s.heap [] := ⟨hP.1, va_S.rf⟩
  have hf : ∀ w ∈ u_ws RX4 TX4 12, w.before ([.ref (zad g 2)] : List Value).toArray s = true := fun w hw => hT w (mU_X4 w hw)
  have L28 := hT _ mF_X4_28
  have L9 := hT _ mF_X4_9
  have B2 : ∀ (n : Nat) (x1 : Int32) (S : zSt), fX4_tellDefinitions_2L n (x1, S) = some (r, S') → ∀ (H : Heap) (locs : List Loc), zZ (zYX g) S s H locs → ∀ ls : Array Slot, lv_has ls 2 [(0, .ref (zad g 2)), (1, .int x1)] → W p l e (headSpec vX4_tellDefinitions { frames := 1, cells := 0, slots := 0, locals := 26 }).room s m ([.ref (zad g 2)] : List Value).toArray below meth c H locs 0 0 (MQ below (zQv (zYX g) S') ([.ref (zad g 2)] : List Value).toArray s 0 0 (zYX g).2.2.1) (F0 m 2 ls []) := by
    intro n
    induction n with
    | zero => intro x1 S h; exact absurd h (fun h => nomatch h)
    | succ n K2 =>
      intro x1 S h H locs Z ls hl
      have h : fX4_tellDefinitions_2 (fX4_tellDefinitions_2L n) x1 S = some (r, S') := h
      unfold fX4_tellDefinitions_2 at h
      refine lv_iload_n hx hb dX4_tellDefinitions_2 rfl (lv_at hl 1 rfl) ?_
      refine lv_aload_n hx hb dX4_tellDefinitions_3 rfl (lv_at hl 0 rfl) ?_
      refine zgX4_5 (v := (zI S 6)) hx hb hf hown P0 Z L28 rfl dX4_tellDefinitions_4 ?_
      refine lv_icmp_ge (tgt := 35) hx hb dX4_tellDefinitions_7 (by decide) (fun q => ?_) (fun q => ?_)
      · have h := zi_t q h
        exact zr_v hY P0 hx hb hr hlocks h Z dX4_tellDefinitions_35
      · have h := zi_f q h
        refine lv_iload_n hx hb dX4_tellDefinitions_10 rfl (lv_at hl 1 rfl) ?_
        refine lv_bipush (v := (nI 20)) hx hb dX4_tellDefinitions_11 (by decide) ?_
        refine lv_icmp_ge (tgt := 35) hx hb dX4_tellDefinitions_13 (by decide) (fun q => ?_) (fun q => ?_)
        · have h := zi_t q h
          exact zr_v hY P0 hx hb hr hlocks h Z dX4_tellDefinitions_35
        · have h := zi_f q h
          refine lv_aload_n hx hb dX4_tellDefinitions_16 rfl (lv_at hl 0 rfl) ?_
          refine lv_iconst (v := (nI 0)) hx hb dX4_tellDefinitions_17 (by decide) ?_
          refine lv_aload_n hx hb dX4_tellDefinitions_18 rfl (lv_at hl 0 rfl) ?_
          refine zgX4_0 hx hb hf hown P0 Z L9 dX4_tellDefinitions_19 ?_
          refine lv_iload_n hx hb dX4_tellDefinitions_22 rfl (lv_at hl 1 rfl) ?_
          obtain ⟨v1, ev, hin, h⟩ := zld_s h
          refine zlX_12 hx hb P0 Z ev hin dX4_tellDefinitions_23 ?_
          refine lv_iconst (v := (nI 2)) hx hb dX4_tellDefinitions_24 (by decide) ?_
          refine lv_iload_n hx hb dX4_tellDefinitions_25 rfl (lv_at hl 1 rfl) ?_
          obtain ⟨r2, S3, ec, h⟩ := zbd_s h
          refine zc_Vv hY P0 ⟨hx, hb, hml, hown, hT⟩ (As := [.int (nI 0), .long v1, .int (nI 2), .int x1]) (rest := []) (kX4_tell l hO (nI 0) v1 (nI 2) x1 S r2 S3 ec) (cwV 4 hT (zgV mL_X4_71 mI_X4_tell mS_X4_tell mN_X4 mC_X4_tell) rfl rfl rfl hdnX4_tell ⟨Nat.le_of_ble_eq_true rfl, Nat.le_of_ble_eq_true rfl⟩) (zrecX_2 P0 Z) Z rfl hl.1 rfl (Nat.le_of_ble_eq_true rfl) dX4_tellDefinitions_26 (fun H locs Z => ?_)
          refine lv_iinc (v := (x1 + (nI 1))) (lv' := [(1, .int (x1 + (nI 1))), (0, .ref (zad g 2))]) hx hb dX4_tellDefinitions_29 hl (k := 1) rfl rfl (by decide) rfl (fun ls hl => ?_)
          refine lv_goto (tgt := 2) hx hb dX4_tellDefinitions_32 (by decide) ?_
          exact K2 (x1 + (nI 1)) S3 h _ _ Z ls (lv_sub hl [1, 0] rfl)
  have hl := lv_entry ([.ref (zad g 2)] : List Value) (n := 2) (Nat.le_of_ble_eq_true rfl)
  rw [lg_entry_eq]
  generalize (lg_sl ([.ref (zad g 2)] : List Value) ++ List.replicate (2 - (lg_sl ([.ref (zad g 2)] : List Value)).length) Slot.unset).toArray = ls at hl ⊢
  have hl : lv_has ls 2 [(0, .ref (zad g 2))] := hl
  unfold fX4_tellDefinitions at h
  refine lv_iconst (v := (nI 0)) hx hb dX4_tellDefinitions_0 (by decide) ?_
  refine lv_istore_n (lv' := [(1, .int (nI 0)), (0, .ref (zad g 2))]) hx hb dX4_tellDefinitions_1 rfl hl (by decide) rfl (fun ls hl => ?_)
  exact B2 zFU (nI 0) S h _ _ Z ls (lv_sub hl [1, 0] rfl)

set_option maxHeartbeats 4000000 in
set_option maxRecDepth 100000 in
theorem kX5_fail {g : zG} (l : Launch) (hO : zinjX g) (a1 : Int32) (a2 : Int32) (S : zSt) (r : Int32) (S' : zSt) (h : fX5_fail a1 a2 S = some (r, S')) : zMi (zYX g) l yX5_fail vX5_fail { frames := 0, cells := 0, slots := 0, locals := 0 } ([.ref (zad g 3), .int a1, .int a2] : List Value) S r S' := by
  have hY := zOkX hO
  refine Met.ofW (cc := cX5_fail) (maxL := 3) (ret := (some .boolean)) (by decide) rfl ?_
  intro p e s m args below meth c s₁ B hml hv
  obtain ⟨rfl, hP⟩ := hv
  have hx := B.exec
  have hb := B.bytes
  have hr := B.returns
  have hts := atoms_spec (ws := vX5_fail) B.pre
  have hT : ∀ w ∈ zTB, w.before ([.ref (zad g 3), .int a1, .int a2] : List Value).toArray s = true := fun w h => hts w (List.mem_cons_of_mem _ h)
  have hown : s.vm.findClass RX5 = some m.cls := findClass_of_methodNamed B.named
  have hlocks := B.notSynchronized
  have P0 := hP.2
  have Z : zZ (zYX g) S s s.heap [] := ⟨hP.1, va_S.rf⟩
  have hf : ∀ w ∈ u_ws RX5 TX5 6, w.before ([.ref (zad g 3), .int a1, .int a2] : List Value).toArray s = true := fun w hw => hT w (mU_X5 w hw)
  have L18 := hT _ mF_X5_18
  have L22 := hT _ mF_X5_22
  have hl := lv_entry ([.ref (zad g 3), .int a1, .int a2] : List Value) (n := 3) (Nat.le_of_ble_eq_true rfl)
  rw [lg_entry_eq]
  generalize (lg_sl ([.ref (zad g 3), .int a1, .int a2] : List Value) ++ List.replicate (3 - (lg_sl ([.ref (zad g 3), .int a1, .int a2] : List Value)).length) Slot.unset).toArray = ls at hl ⊢
  have hl : lv_has ls 3 [(0, .ref (zad g 3)), (1, .int a1), (2, .int a2)] := hl
  unfold fX5_fail at h
  refine lv_aload_n hx hb dX5_fail_0 rfl (lv_at hl 0 rfl) ?_
  refine lv_iload_n hx hb dX5_fail_1 rfl (lv_at hl 1 rfl) ?_
  refine zpX5_4 hO hx hb hf hown P0 Z L18 dX5_fail_2 (fun H locs Z => ?_)
  refine lv_aload_n hx hb dX5_fail_5 rfl (lv_at hl 0 rfl) ?_
  refine lv_iload_n hx hb dX5_fail_6 rfl (lv_at hl 2 rfl) ?_
  refine zpX5_5 hO hx hb hf hown P0 Z L22 dX5_fail_7 (fun H locs Z => ?_)
  refine lv_iconst (v := (nI 0)) hx hb dX5_fail_10 (by decide) ?_
  exact zr_z hY P0 hx hb hr hlocks (by decide) h Z dX5_fail_11

set_option maxHeartbeats 4000000 in
set_option maxRecDepth 100000 in
theorem kX8_end {g : zG} (l : Launch) (hO : zinjX g) (S : zSt) (r : Int32) (S' : zSt) (h : fX8_end S = some (r, S')) : zMi (zYX g) l yX8_end vX8_end { frames := 1, cells := 0, slots := 0, locals := 20 } ([.ref (zad g 4)] : List Value) S r S' := by
  have hY := zOkX hO
  refine Met.ofW (cc := cX8_end) (maxL := 1) (ret := (some .int)) (by decide) rfl ?_
  intro p e s m args below meth c s₁ B hml hv
  obtain ⟨rfl, hP⟩ := hv
  have hx := B.exec
  have hb := B.bytes
  have hr := B.returns
  have hts := atoms_spec (ws := vX8_end) B.pre
  have hT : ∀ w ∈ zTB, w.before ([.ref (zad g 4)] : List Value).toArray s = true := fun w h => hts w (List.mem_cons_of_mem _ h)
  have hown : s.vm.findClass RX8 = some m.cls := findClass_of_methodNamed B.named
  have hlocks := B.notSynchronized
  have P0 := hP.2
  have Z : zZ (zYX g) S s s.heap [] := ⟨hP.1, va_S.rf⟩
  have hf : ∀ w ∈ u_ws RX8 TX8 7, w.before ([.ref (zad g 4)] : List Value).toArray s = true := fun w hw => hT w (mU_X8 w hw)
  have L32 := hT _ mF_X8_32
  have hl := lv_entry ([.ref (zad g 4)] : List Value) (n := 1) (Nat.le_of_ble_eq_true rfl)
  rw [lg_entry_eq]
  generalize (lg_sl ([.ref (zad g 4)] : List Value) ++ List.replicate (1 - (lg_sl ([.ref (zad g 4)] : List Value)).length) Slot.unset).toArray = ls at hl ⊢
  have hl : lv_has ls 1 [(0, .ref (zad g 4))] := hl
  unfold fX8_end at h
  refine lv_aload_n hx hb dX8_end_0 rfl (lv_at hl 0 rfl) ?_
  refine zgX8_0 hx hb hf hown P0 Z L32 dX8_end_1 ?_
  obtain ⟨r1, S2, ec, h⟩ := zbd_s h
  refine zc_Vi hY P0 ⟨hx, hb, hml, hown, hT⟩ (As := []) (rest := []) (kX7_size l hO  S r1 S2 ec) (cwV 0 hT (zgV mL_X8_48 mI_X7_size mS_X7_size mN_X7 mC_X7_size) rfl rfl rfl hdnX7_size ⟨Nat.le_of_ble_eq_true rfl, Nat.le_of_ble_eq_true rfl⟩) (zrecX_1 P0 Z) Z rfl hl.1 rfl (Nat.le_of_ble_eq_true rfl) dX8_end_4 (fun H locs Z => ?_)
  exact zr_i hY P0 hx hb hr hlocks h Z dX8_end_7

set_option maxHeartbeats 4000000 in
set_option maxRecDepth 100000 in
theorem kX5_checkNames {g : zG} (l : Launch) (hO : zinjX g) (S : zSt) (r : Unit) (S' : zSt) (h : fX5_checkNames S = some (r, S')) : zMv (zYX g) l yX5_checkNames vX5_checkNames { frames := 2, cells := 0, slots := 0, locals := 47 } ([.ref (zad g 3)] : List Value) S S' := by
  have hY := zOkX hO
  refine Met.ofW (cc := cX5_checkNames) (maxL := 3) (ret := none) (by decide) rfl ?_
  intro p e s m args below meth c s₁ B hml hv
  obtain ⟨rfl, hP⟩ := hv
  have hx := B.exec
  have hb := B.bytes
  have hr := B.returns
  have hts := atoms_spec (ws := vX5_checkNames) B.pre
  have hT : ∀ w ∈ zTB, w.before ([.ref (zad g 3)] : List Value).toArray s = true := fun w h => hts w (List.mem_cons_of_mem _ h)
  have hown : s.vm.findClass RX5 = some m.cls := findClass_of_methodNamed B.named
  have hlocks := B.notSynchronized
  have P0 := hP.2
  have Z : zZ (zYX g) S s s.heap [] := ⟨hP.1, va_S.rf⟩
  have hf : ∀ w ∈ u_ws RX5 TX5 6, w.before ([.ref (zad g 3)] : List Value).toArray s = true := fun w hw => hT w (mU_X5 w hw)
  have L29 := hT _ mF_X5_29
  have C60 := hT _ mK_X5_60
  have L25 := hT _ mF_X5_25
  have B57 : ∀ (S : zSt), fX5_checkNames_57 S = some (r, S') → ∀ (H : Heap) (locs : List Loc), zZ (zYX g) S s H locs → ∀ ls : Array Slot, lv_has ls 3 [(0, .ref (zad g 3))] → W p l e (headSpec vX5_checkNames { frames := 2, cells := 0, slots := 0, locals := 47 }).room s m ([.ref (zad g 3)] : List Value).toArray below meth c H locs 0 0 (MQ below (zQv (zYX g) S') ([.ref (zad g 3)] : List Value).toArray s 0 0 (zYX g).2.2.1) (F0 m 57 ls []) := by
    intro S h H locs Z ls hl
    unfold fX5_checkNames_57 at h
    refine lv_aload_n hx hb dX5_checkNames_57 rfl (lv_at hl 0 rfl) ?_
    refine lv_bipush (v := (nI 6)) hx hb dX5_checkNames_58 (by decide) ?_
    refine lv_aload_n hx hb dX5_checkNames_60 rfl (lv_at hl 0 rfl) ?_
    refine zgX5_0 hx hb hf hown P0 Z L25 dX5_checkNames_61 ?_
    obtain ⟨r11, S12, ec, h⟩ := zbd_s h
    refine zc_Vi hY P0 ⟨hx, hb, hml, hown, hT⟩ (As := []) (rest := [.int (nI 6), .ref (zad g 3)]) (kX8_end l hO  S r11 S12 ec) (cwV 0 hT (zgV mL_X5_74 mI_X8_end mS_X8_end mN_X8 mC_X8_end) rfl rfl rfl hdnX8_end ⟨Nat.le_of_ble_eq_true rfl, Nat.le_of_ble_eq_true rfl⟩) (zrecX_4 P0 Z) Z rfl hl.1 rfl (Nat.le_of_ble_eq_true rfl) dX5_checkNames_64 (fun H locs Z => ?_)
    obtain ⟨r13, S14, ec, h⟩ := zbd_s h
    refine zc_Vi hY P0 ⟨hx, hb, hml, hown, hT⟩ (As := [.int (nI 6), .int r11]) (rest := []) (kX5_fail l hO (nI 6) r11 S12 r13 S14 ec) (cwV 2 hT (zgV mL_X5_66 mI_X5_fail mS_X5_fail mN_X5 mC_X5_fail) rfl rfl rfl hdnX5_fail ⟨Nat.le_of_ble_eq_true rfl, Nat.le_of_ble_eq_true rfl⟩) (zrecX_3 P0 Z) Z rfl hl.1 rfl (Nat.le_of_ble_eq_true rfl) dX5_checkNames_67 (fun H locs Z => ?_)
    refine lv_pop hx hb dX5_checkNames_70 rfl ?_
    exact zr_v hY P0 hx hb hr hlocks h Z dX5_checkNames_71
  have hl := lv_entry ([.ref (zad g 3)] : List Value) (n := 3) (Nat.le_of_ble_eq_true rfl)
  rw [lg_entry_eq]
  generalize (lg_sl ([.ref (zad g 3)] : List Value) ++ List.replicate (3 - (lg_sl ([.ref (zad g 3)] : List Value)).length) Slot.unset).toArray = ls at hl ⊢
  have hl : lv_has ls 3 [(0, .ref (zad g 3))] := hl
  unfold fX5_checkNames at h
  refine lv_aload_n hx hb dX5_checkNames_0 rfl (lv_at hl 0 rfl) ?_
  refine zgX5_1 hx hb hf hown P0 Z L29 dX5_checkNames_1 ?_
  obtain ⟨r1, S2, ec, h⟩ := zbd_s h
  refine zc_Vv hY P0 ⟨hx, hb, hml, hown, hT⟩ (As := []) (rest := []) (kX4_tellDefinitions l hO  S r1 S2 ec) (cwV 0 hT (zgV mL_X5_54 mI_X4_tellDefinitions mS_X4_tellDefinitions mN_X4 mC_X4_tellDefinitions) rfl rfl rfl hdnX4_tellDefinitions ⟨Nat.le_of_ble_eq_true rfl, Nat.le_of_ble_eq_true rfl⟩) (zrecX_2 P0 Z) Z rfl hl.1 rfl (Nat.le_of_ble_eq_true rfl) dX5_checkNames_4 (fun H locs Z => ?_)
  refine lv_aload_n hx hb dX5_checkNames_7 rfl (lv_at hl 0 rfl) ?_
  refine zgX5_1 hx hb hf hown P0 Z L29 dX5_checkNames_8 ?_
  obtain ⟨r3, S4, ec, h⟩ := zbd_s h
  refine zc_Vi hY P0 ⟨hx, hb, hml, hown, hT⟩ (As := []) (rest := []) (kX4_firstUntold l hO  S2 r3 S4 ec) (cwV 0 hT (zgV mL_X5_57 mI_X4_firstUntold mS_X4_firstUntold mN_X4 mC_X4_firstUntold) rfl rfl rfl hdnX4_firstUntold ⟨Nat.le_of_ble_eq_true rfl, Nat.le_of_ble_eq_true rfl⟩) (zrecX_2 P0 Z) Z rfl hl.1 rfl (Nat.le_of_ble_eq_true rfl) dX5_checkNames_11 (fun H locs Z => ?_)
  refine lv_istore_n (lv' := [(1, .int r3), (0, .ref (zad g 3))]) hx hb dX5_checkNames_14 rfl hl (by decide) rfl (fun ls hl => ?_)
  refine lv_aload_n hx hb dX5_checkNames_15 rfl (lv_at hl 1 rfl) ?_
  refine zgX5_1 hx hb hf hown P0 Z L29 dX5_checkNames_16 ?_
  refine lv_ldc2 (v := (1835100526 : Int64)) hx hb hown C60 dX5_checkNames_19 ?_
  obtain ⟨r5, S6, ec, h⟩ := zbd_s h
  refine zc_Vi hY P0 ⟨hx, hb, hml, hown, hT⟩ (As := [.long (1835100526 : Int64)]) (rest := []) (kX4_definitionOf l hO (1835100526 : Int64) S4 r5 S6 ec) (cwV 1 hT (zgV mL_X5_62 mI_X4_definitionOf mS_X4_definitionOf mN_X4 mC_X4_definitionOf) rfl rfl rfl hdnX4_definitionOf ⟨Nat.le_of_ble_eq_true rfl, Nat.le_of_ble_eq_true rfl⟩) (zrecX_2 P0 Z) Z rfl hl.1 rfl (Nat.le_of_ble_eq_true rfl) dX5_checkNames_22 (fun H locs Z => ?_)
  refine lv_istore_n (lv' := [(2, .int r5), (1, .int r3), (0, .ref (zad g 3))]) hx hb dX5_checkNames_25 rfl hl (by decide) rfl (fun ls hl => ?_)
  refine lv_iload_n hx hb dX5_checkNames_26 rfl (lv_at hl 1 rfl) ?_
  refine lv_iconst (v := (-1 : Int32)) hx hb dX5_checkNames_27 (by decide) ?_
  refine lv_icmp_eq (tgt := 41) hx hb dX5_checkNames_28 (by decide) (fun q => ?_) (fun q => ?_)
  · have h := zi_t q h
    refine lv_iload_n hx hb dX5_checkNames_41 rfl (lv_at hl 0 rfl) ?_
    refine lv_iconst (v := (-1 : Int32)) hx hb dX5_checkNames_42 (by decide) ?_
    refine lv_icmp_eq (tgt := 57) hx hb dX5_checkNames_43 (by decide) (fun q => ?_) (fun q => ?_)
    · have h := zi_t q h
      exact B57 S6 h _ _ Z ls (lv_sub hl [2] rfl)
    · have h := zi_f q h
      refine lv_aload_n hx hb dX5_checkNames_46 rfl (lv_at hl 2 rfl) ?_
      refine zgX5_1 hx hb hf hown P0 Z L29 dX5_checkNames_47 ?_
      refine lv_iload_n hx hb dX5_checkNames_50 rfl (lv_at hl 0 rfl) ?_
      obtain ⟨r7, S8, ec, h⟩ := zbd_s h
      refine zc_Vi hY P0 ⟨hx, hb, hml, hown, hT⟩ (As := [.int r5]) (rest := []) (kX4_parametersOf l hO r5 S6 r7 S8 ec) (cwV 1 hT (zgV mL_X5_70 mI_X4_parametersOf mS_X4_parametersOf mN_X4 mC_X4_parametersOf) rfl rfl rfl hdnX4_parametersOf ⟨Nat.le_of_ble_eq_true rfl, Nat.le_of_ble_eq_true rfl⟩) (zrecX_2 P0 Z) Z rfl hl.1 rfl (Nat.le_of_ble_eq_true rfl) dX5_checkNames_51 (fun H locs Z => ?_)
      refine lv_if_le (tgt := 71) hx hb dX5_checkNames_54 (by decide) (fun q => ?_) (fun q => ?_)
      · have h := zi_t q h
        exact zr_v hY P0 hx hb hr hlocks h Z dX5_checkNames_71
      · have h := zi_f q h
        exact B57 S8 h _ _ Z ls (lv_sub hl [2] rfl)
  · have h := zi_f q h
    refine lv_aload_n hx hb dX5_checkNames_31 rfl (lv_at hl 2 rfl) ?_
    refine lv_iconst (v := (nI 5)) hx hb dX5_checkNames_32 (by decide) ?_
    refine lv_iload_n hx hb dX5_checkNames_33 rfl (lv_at hl 1 rfl) ?_
    obtain ⟨r9, S10, ec, h⟩ := zbd_s h
    refine zc_Vi hY P0 ⟨hx, hb, hml, hown, hT⟩ (As := [.int (nI 5), .int r3]) (rest := []) (kX5_fail l hO (nI 5) r3 S6 r9 S10 ec) (cwV 2 hT (zgV mL_X5_66 mI_X5_fail mS_X5_fail mN_X5 mC_X5_fail) rfl rfl rfl hdnX5_fail ⟨Nat.le_of_ble_eq_true rfl, Nat.le_of_ble_eq_true rfl⟩) (zrecX_3 P0 Z) Z rfl hl.1 rfl (Nat.le_of_ble_eq_true rfl) dX5_checkNames_34 (fun H locs Z => ?_)
    refine lv_pop hx hb dX5_checkNames_37 rfl ?_
    refine lv_goto (tgt := 71) hx hb dX5_checkNames_38 (by decide) ?_
    exact zr_v hY P0 hx hb hr hlocks h Z dX5_checkNames_71

set_option maxHeartbeats 4000000 in
set_option maxRecDepth 100000 in
theorem kX4_isDeed {g : zG} (l : Launch) (hO : zinjX g) (a0 : Int32) (S : zSt) (r : Int32) (S' : zSt) (h : fX4_isDeed a0 S = some (r, S')) : zMi (zYX g) l yX4_isDeed vX4_isDeed { frames := 0, cells := 0, slots := 0, locals := 0 } ([.int a0] : List Value) S r S' := by
  have hY := zOkX hO
  refine Met.ofW (cc := cX4_isDeed) (maxL := 1) (ret := (some .boolean)) (by decide) rfl ?_
  intro p e s m args below meth c s₁ B hml hv
  obtain ⟨rfl, hP⟩ := hv
  have hx := B.exec
  have hb := B.bytes
  have hr := B.returns
  have hts := atoms_spec (ws := vX4_isDeed) B.pre
  have hT : ∀ w ∈ zTB, w.before ([.int a0] : List Value).toArray s = true := fun w h => hts w (List.mem_cons_of_mem _ h)
  have hown : s.vm.findClass RX4 = some m.cls := findClass_of_methodNamed B.named
  have hlocks := B.notSynchronized
  have P0 := hP.2
  have Z : zZ (zYX g) S s s.heap [] := ⟨hP.1, va_S.rf⟩
  have hl := lv_entry ([.int a0] : List Value) (n := 1) (Nat.le_of_ble_eq_true rfl)
  rw [lg_entry_eq]
  generalize (lg_sl ([.int a0] : List Value) ++ List.replicate (1 - (lg_sl ([.int a0] : List Value)).length) Slot.unset).toArray = ls at hl ⊢
  have hl : lv_has ls 1 [(0, .int a0)] := hl
  unfold fX4_isDeed at h
  refine lv_iload_n hx hb dX4_isDeed_0 rfl (lv_at hl 0 rfl) ?_
  refine lv_if_lt (tgt := 15) hx hb dX4_isDeed_1 (by decide) (fun q => ?_) (fun q => ?_)
  · have h := zi_t q h
    refine lv_iconst (v := (nI 0)) hx hb dX4_isDeed_15 (by decide) ?_
    exact zr_z hY P0 hx hb hr hlocks (by decide) h Z dX4_isDeed_16
  · have h := zi_f q h
    refine lv_iload_n hx hb dX4_isDeed_4 rfl (lv_at hl 0 rfl) ?_
    refine lv_sipush (v := (nI 800)) hx hb dX4_isDeed_5 (by decide) ?_
    refine lv_icmp_ge (tgt := 15) hx hb dX4_isDeed_8 (by decide) (fun q => ?_) (fun q => ?_)
    · have h := zi_t q h
      refine lv_iconst (v := (nI 0)) hx hb dX4_isDeed_15 (by decide) ?_
      exact zr_z hY P0 hx hb hr hlocks (by decide) h Z dX4_isDeed_16
    · have h := zi_f q h
      refine lv_iconst (v := (nI 1)) hx hb dX4_isDeed_11 (by decide) ?_
      refine lv_goto (tgt := 16) hx hb dX4_isDeed_12 (by decide) ?_
      exact zr_z hY P0 hx hb hr hlocks (by decide) h Z dX4_isDeed_16

set_option maxHeartbeats 4000000 in
set_option maxRecDepth 100000 in
theorem kX4_aboutAt {g : zG} (l : Launch) (hO : zinjX g) (a1 : Int32) (S : zSt) (r : Int32) (S' : zSt) (h : fX4_aboutAt a1 S = some (r, S')) : zMi (zYX g) l yX4_aboutAt vX4_aboutAt { frames := 1, cells := 0, slots := 0, locals := 20 } ([.ref (zad g 2), .int a1] : List Value) S r S' := by
  have hY := zOkX hO
  refine Met.ofW (cc := cX4_aboutAt) (maxL := 2) (ret := (some .int)) (by decide) rfl ?_
  intro p e s m args below meth c s₁ B hml hv
  obtain ⟨rfl, hP⟩ := hv
  have hx := B.exec
  have hb := B.bytes
  have hr := B.returns
  have hts := atoms_spec (ws := vX4_aboutAt) B.pre
  have hT : ∀ w ∈ zTB, w.before ([.ref (zad g 2), .int a1] : List Value).toArray s = true := fun w h => hts w (List.mem_cons_of_mem _ h)
  have hown : s.vm.findClass RX4 = some m.cls := findClass_of_methodNamed B.named
  have hlocks := B.notSynchronized
  have P0 := hP.2
  have Z : zZ (zYX g) S s s.heap [] := ⟨hP.1, va_S.rf⟩
  have hf : ∀ w ∈ u_ws RX4 TX4 12, w.before ([.ref (zad g 2), .int a1] : List Value).toArray s = true := fun w hw => hT w (mU_X4 w hw)
  have L35 := hT _ mF_X4_35
  have hl := lv_entry ([.ref (zad g 2), .int a1] : List Value) (n := 2) (Nat.le_of_ble_eq_true rfl)
  rw [lg_entry_eq]
  generalize (lg_sl ([.ref (zad g 2), .int a1] : List Value) ++ List.replicate (2 - (lg_sl ([.ref (zad g 2), .int a1] : List Value)).length) Slot.unset).toArray = ls at hl ⊢
  have hl : lv_has ls 2 [(0, .ref (zad g 2)), (1, .int a1)] := hl
  unfold fX4_aboutAt at h
  refine lv_iload_n hx hb dX4_aboutAt_0 rfl (lv_at hl 1 rfl) ?_
  obtain ⟨r1, S2, ec, h⟩ := zbd_s h
  refine zc_Si hY P0 ⟨hx, hb, hml, hown, hT⟩ (As := [.int a1]) (rest := []) (kX4_isDeed l hO a1 S r1 S2 ec) (va_cwS 1 hT (zgS mL_X4_68 mT_X4_isDeed mN_X4 mC_X4_isDeed) rfl rfl rfl hdnX4_isDeed ⟨Nat.le_of_ble_eq_true rfl, Nat.le_of_ble_eq_true rfl⟩) Z rfl hl.1 rfl (Nat.le_of_ble_eq_true rfl) dX4_aboutAt_1 (fun H locs Z => ?_)
  refine lv_if_eq (tgt := 16) hx hb dX4_aboutAt_4 (by decide) (fun q => ?_) (fun q => ?_)
  · have h := zi_t q h
    refine lv_iconst (v := (nI 0)) hx hb dX4_aboutAt_16 (by decide) ?_
    exact zr_i hY P0 hx hb hr hlocks h Z dX4_aboutAt_17
  · have h := zi_f q h
    refine lv_aload_n hx hb dX4_aboutAt_7 rfl (lv_at hl 0 rfl) ?_
    refine zgX4_7 hx hb hf hown P0 Z L35 dX4_aboutAt_8 ?_
    refine lv_iload_n hx hb dX4_aboutAt_11 rfl (lv_at hl 1 rfl) ?_
    obtain ⟨v3, ev, hin, h⟩ := zld_s h
    refine zlX_18 hx hb P0 Z ev hin dX4_aboutAt_12 ?_
    refine lv_goto (tgt := 17) hx hb dX4_aboutAt_13 (by decide) ?_
    exact zr_i hY P0 hx hb hr hlocks h Z dX4_aboutAt_17

set_option maxHeartbeats 4000000 in
set_option maxRecDepth 100000 in
theorem kX4_deedAt {g : zG} (l : Launch) (hO : zinjX g) (a1 : Int32) (S : zSt) (r : Int32) (S' : zSt) (h : fX4_deedAt a1 S = some (r, S')) : zMi (zYX g) l yX4_deedAt vX4_deedAt { frames := 1, cells := 0, slots := 0, locals := 20 } ([.ref (zad g 2), .int a1] : List Value) S r S' := by
  have hY := zOkX hO
  refine Met.ofW (cc := cX4_deedAt) (maxL := 2) (ret := (some .int)) (by decide) rfl ?_
  intro p e s m args below meth c s₁ B hml hv
  obtain ⟨rfl, hP⟩ := hv
  have hx := B.exec
  have hb := B.bytes
  have hr := B.returns
  have hts := atoms_spec (ws := vX4_deedAt) B.pre
  have hT : ∀ w ∈ zTB, w.before ([.ref (zad g 2), .int a1] : List Value).toArray s = true := fun w h => hts w (List.mem_cons_of_mem _ h)
  have hown : s.vm.findClass RX4 = some m.cls := findClass_of_methodNamed B.named
  have hlocks := B.notSynchronized
  have P0 := hP.2
  have Z : zZ (zYX g) S s s.heap [] := ⟨hP.1, va_S.rf⟩
  have hf : ∀ w ∈ u_ws RX4 TX4 12, w.before ([.ref (zad g 2), .int a1] : List Value).toArray s = true := fun w hw => hT w (mU_X4 w hw)
  have L32 := hT _ mF_X4_32
  have hl := lv_entry ([.ref (zad g 2), .int a1] : List Value) (n := 2) (Nat.le_of_ble_eq_true rfl)
  rw [lg_entry_eq]
  generalize (lg_sl ([.ref (zad g 2), .int a1] : List Value) ++ List.replicate (2 - (lg_sl ([.ref (zad g 2), .int a1] : List Value)).length) Slot.unset).toArray = ls at hl ⊢
  have hl : lv_has ls 2 [(0, .ref (zad g 2)), (1, .int a1)] := hl
  unfold fX4_deedAt at h
  refine lv_iload_n hx hb dX4_deedAt_0 rfl (lv_at hl 1 rfl) ?_
  obtain ⟨r1, S2, ec, h⟩ := zbd_s h
  refine zc_Si hY P0 ⟨hx, hb, hml, hown, hT⟩ (As := [.int a1]) (rest := []) (kX4_isDeed l hO a1 S r1 S2 ec) (va_cwS 1 hT (zgS mL_X4_68 mT_X4_isDeed mN_X4 mC_X4_isDeed) rfl rfl rfl hdnX4_isDeed ⟨Nat.le_of_ble_eq_true rfl, Nat.le_of_ble_eq_true rfl⟩) Z rfl hl.1 rfl (Nat.le_of_ble_eq_true rfl) dX4_deedAt_1 (fun H locs Z => ?_)
  refine lv_if_eq (tgt := 16) hx hb dX4_deedAt_4 (by decide) (fun q => ?_) (fun q => ?_)
  · have h := zi_t q h
    refine lv_bipush (v := (nI 8)) hx hb dX4_deedAt_16 (by decide) ?_
    exact zr_i hY P0 hx hb hr hlocks h Z dX4_deedAt_18
  · have h := zi_f q h
    refine lv_aload_n hx hb dX4_deedAt_7 rfl (lv_at hl 0 rfl) ?_
    refine zgX4_6 hx hb hf hown P0 Z L32 dX4_deedAt_8 ?_
    refine lv_iload_n hx hb dX4_deedAt_11 rfl (lv_at hl 1 rfl) ?_
    obtain ⟨v3, ev, hin, h⟩ := zld_s h
    refine zlX_17 hx hb P0 Z ev hin dX4_deedAt_12 ?_
    refine lv_goto (tgt := 18) hx hb dX4_deedAt_13 (by decide) ?_
    exact zr_i hY P0 hx hb hr hlocks h Z dX4_deedAt_18

set_option maxHeartbeats 4000000 in
set_option maxRecDepth 100000 in
theorem kX4_countNodes {g : zG} (l : Launch) (hO : zinjX g) (a1 : Int32) (S : zSt) (r : Int32) (S' : zSt) (h : fX4_countNodes a1 S = some (r, S')) : zMi (zYX g) l yX4_countNodes vX4_countNodes { frames := 2, cells := 0, slots := 0, locals := 41 } ([.ref (zad g 2), .int a1] : List Value) S r S' := by
  have hY := zOkX hO
  refine Met.ofW (cc := cX4_countNodes) (maxL := 4) (ret := (some .int)) (by decide) rfl ?_
  intro p e s m args below meth c s₁ B hml hv
  obtain ⟨rfl, hP⟩ := hv
  have hx := B.exec
  have hb := B.bytes
  have hr := B.returns
  have hts := atoms_spec (ws := vX4_countNodes) B.pre
  have hT : ∀ w ∈ zTB, w.before ([.ref (zad g 2), .int a1] : List Value).toArray s = true := fun w h => hts w (List.mem_cons_of_mem _ h)
  have hown : s.vm.findClass RX4 = some m.cls := findClass_of_methodNamed B.named
  have hlocks := B.notSynchronized
  have P0 := hP.2
  have Z : zZ (zYX g) S s s.heap [] := ⟨hP.1, va_S.rf⟩
  have hf : ∀ w ∈ u_ws RX4 TX4 12, w.before ([.ref (zad g 2), .int a1] : List Value).toArray s = true := fun w hw => hT w (mU_X4 w hw)
  have L47 := hT _ mF_X4_47
  have B4 : ∀ (n : Nat) (x2 : Int32) (x3 : Int32) (S : zSt), fX4_countNodes_4L n (x2, x3, S) = some (r, S') → ∀ (H : Heap) (locs : List Loc), zZ (zYX g) S s H locs → ∀ ls : Array Slot, lv_has ls 4 [(0, .ref (zad g 2)), (2, .int x2), (3, .int x3)] → W p l e (headSpec vX4_countNodes { frames := 2, cells := 0, slots := 0, locals := 41 }).room s m ([.ref (zad g 2), .int a1] : List Value).toArray below meth c H locs 0 0 (MQ below (zQi (zYX g) r S') ([.ref (zad g 2), .int a1] : List Value).toArray s 0 0 (zYX g).2.2.1) (F0 m 4 ls []) := by
    intro n
    induction n with
    | zero => intro x2 x3 S h; exact absurd h (fun h => nomatch h)
    | succ n K4 =>
      intro x2 x3 S h H locs Z ls hl
      have h : fX4_countNodes_4 (fX4_countNodes_4L n) x2 x3 S = some (r, S') := h
      unfold fX4_countNodes_4 at h
      refine lv_iload_n hx hb dX4_countNodes_4 rfl (lv_at hl 2 rfl) ?_
      refine lv_aload_n hx hb dX4_countNodes_5 rfl (lv_at hl 0 rfl) ?_
      refine zgX4_11 (v := (zI S 7)) hx hb hf hown P0 Z L47 rfl dX4_countNodes_6 ?_
      refine lv_icmp_ge (tgt := 96) hx hb dX4_countNodes_9 (by decide) (fun q => ?_) (fun q => ?_)
      · have h := zi_t q h
        refine lv_iload_n hx hb dX4_countNodes_96 rfl (lv_at hl 1 rfl) ?_
        exact zr_i hY P0 hx hb hr hlocks h Z dX4_countNodes_97
      · have h := zi_f q h
        refine lv_aload_n hx hb dX4_countNodes_12 rfl (lv_at hl 0 rfl) ?_
        refine lv_iload_n hx hb dX4_countNodes_13 rfl (lv_at hl 2 rfl) ?_
        obtain ⟨r1, S2, ec, h⟩ := zbd_s h
        refine zc_Vi hY P0 ⟨hx, hb, hml, hown, hT⟩ (As := [.int x3]) (rest := []) (kX4_deedAt l hO x3 S r1 S2 ec) (cwV 1 hT (zgV mL_X4_54 mI_X4_deedAt mS_X4_deedAt mN_X4 mC_X4_deedAt) rfl rfl rfl hdnX4_deedAt ⟨Nat.le_of_ble_eq_true rfl, Nat.le_of_ble_eq_true rfl⟩) (zrecX_2 P0 Z) Z rfl hl.1 rfl (Nat.le_of_ble_eq_true rfl) dX4_countNodes_14 (fun H locs Z => ?_)
        by_cases q0 : r1 = (nI 0)
        · have h := zi_t q0 h
          refine ztbl (off := 43) (tgt := 60) hx hb q0 dX4_countNodes_17 (by decide) (by decide) (by decide) (by decide) ?_
          refine lv_iinc (v := (x2 + (nI 1))) (lv' := [(2, .int (x2 + (nI 1))), (0, .ref (zad g 2)), (3, .int x3)]) hx hb dX4_countNodes_60 hl (k := 1) rfl rfl (by decide) rfl (fun ls hl => ?_)
          refine lv_goto (tgt := 90) hx hb dX4_countNodes_63 (by decide) ?_
          refine lv_iinc (v := (x3 + (nI 1))) (lv' := [(3, .int (x3 + (nI 1))), (2, .int (x2 + (nI 1))), (0, .ref (zad g 2))]) hx hb dX4_countNodes_90 hl (k := 2) rfl rfl (by decide) rfl (fun ls hl => ?_)
          refine lv_goto (tgt := 4) hx hb dX4_countNodes_93 (by decide) ?_
          exact K4 (x2 + (nI 1)) (x3 + (nI 1)) S2 h _ _ Z ls (lv_sub hl [2, 1, 0] rfl)
        have h := zi_f q0 h
        by_cases q1 : r1 = (nI 1)
        · have h := zi_t q1 h
          refine ztbl (off := 43) (tgt := 60) hx hb q1 dX4_countNodes_17 (by decide) (by decide) (by decide) (by decide) ?_
          refine lv_iinc (v := (x2 + (nI 1))) (lv' := [(2, .int (x2 + (nI 1))), (0, .ref (zad g 2)), (3, .int x3)]) hx hb dX4_countNodes_60 hl (k := 1) rfl rfl (by decide) rfl (fun ls hl => ?_)
          refine lv_goto (tgt := 90) hx hb dX4_countNodes_63 (by decide) ?_
          refine lv_iinc (v := (x3 + (nI 1))) (lv' := [(3, .int (x3 + (nI 1))), (2, .int (x2 + (nI 1))), (0, .ref (zad g 2))]) hx hb dX4_countNodes_90 hl (k := 2) rfl rfl (by decide) rfl (fun ls hl => ?_)
          refine lv_goto (tgt := 4) hx hb dX4_countNodes_93 (by decide) ?_
          exact K4 (x2 + (nI 1)) (x3 + (nI 1)) S2 h _ _ Z ls (lv_sub hl [2, 1, 0] rfl)
        have h := zi_f q1 h
        by_cases q5 : r1 = (nI 5)
        · have h := zi_t q5 h
          refine ztbl (off := 49) (tgt := 66) hx hb q5 dX4_countNodes_17 (by decide) (by decide) (by decide) (by decide) ?_
          refine lv_iload_n hx hb dX4_countNodes_66 rfl (lv_at hl 1 rfl) ?_
          refine lv_aload_n hx hb dX4_countNodes_67 rfl (lv_at hl 0 rfl) ?_
          refine lv_iload_n hx hb dX4_countNodes_68 rfl (lv_at hl 2 rfl) ?_
          obtain ⟨r3, S4, ec, h⟩ := zbd_s h
          refine zc_Vi hY P0 ⟨hx, hb, hml, hown, hT⟩ (As := [.int x3]) (rest := [.int x2]) (kX4_aboutAt l hO x3 S2 r3 S4 ec) (cwV 1 hT (zgV mL_X4_57 mI_X4_aboutAt mS_X4_aboutAt mN_X4 mC_X4_aboutAt) rfl rfl rfl hdnX4_aboutAt ⟨Nat.le_of_ble_eq_true rfl, Nat.le_of_ble_eq_true rfl⟩) (zrecX_2 P0 Z) Z rfl hl.1 rfl (Nat.le_of_ble_eq_true rfl) dX4_countNodes_69 (fun H locs Z => ?_)
          refine lv_iconst (v := (nI 1)) hx hb dX4_countNodes_72 (by decide) ?_
          refine lv_isub hx hb dX4_countNodes_73 ?_
          refine lv_iadd hx hb dX4_countNodes_74 ?_
          refine lv_istore_n (lv' := [(2, .int (x2 + (r3 - (nI 1)))), (0, .ref (zad g 2)), (3, .int x3)]) hx hb dX4_countNodes_75 rfl hl (by decide) rfl (fun ls hl => ?_)
          refine lv_goto (tgt := 90) hx hb dX4_countNodes_76 (by decide) ?_
          refine lv_iinc (v := (x3 + (nI 1))) (lv' := [(3, .int (x3 + (nI 1))), (2, .int (x2 + (r3 - (nI 1)))), (0, .ref (zad g 2))]) hx hb dX4_countNodes_90 hl (k := 2) rfl rfl (by decide) rfl (fun ls hl => ?_)
          refine lv_goto (tgt := 4) hx hb dX4_countNodes_93 (by decide) ?_
          exact K4 (x2 + (r3 - (nI 1))) (x3 + (nI 1)) S4 h _ _ Z ls (lv_sub hl [2, 1, 0] rfl)
        have h := zi_f q5 h
        by_cases q6 : r1 = (nI 6)
        · have h := zi_t q6 h
          refine ztbl (off := 62) (tgt := 79) hx hb q6 dX4_countNodes_17 (by decide) (by decide) (by decide) (by decide) ?_
          refine lv_iload_n hx hb dX4_countNodes_79 rfl (lv_at hl 1 rfl) ?_
          refine lv_aload_n hx hb dX4_countNodes_80 rfl (lv_at hl 0 rfl) ?_
          refine lv_iload_n hx hb dX4_countNodes_81 rfl (lv_at hl 2 rfl) ?_
          obtain ⟨r5, S6, ec, h⟩ := zbd_s h
          refine zc_Vi hY P0 ⟨hx, hb, hml, hown, hT⟩ (As := [.int x3]) (rest := [.int x2]) (kX4_aboutAt l hO x3 S2 r5 S6 ec) (cwV 1 hT (zgV mL_X4_57 mI_X4_aboutAt mS_X4_aboutAt mN_X4 mC_X4_aboutAt) rfl rfl rfl hdnX4_aboutAt ⟨Nat.le_of_ble_eq_true rfl, Nat.le_of_ble_eq_true rfl⟩) (zrecX_2 P0 Z) Z rfl hl.1 rfl (Nat.le_of_ble_eq_true rfl) dX4_countNodes_82 (fun H locs Z => ?_)
          refine lv_iadd hx hb dX4_countNodes_85 ?_
          refine lv_istore_n (lv' := [(2, .int (x2 + r5)), (0, .ref (zad g 2)), (3, .int x3)]) hx hb dX4_countNodes_86 rfl hl (by decide) rfl (fun ls hl => ?_)
          refine lv_goto (tgt := 90) hx hb dX4_countNodes_87 (by decide) ?_
          refine lv_iinc (v := (x3 + (nI 1))) (lv' := [(3, .int (x3 + (nI 1))), (2, .int (x2 + r5)), (0, .ref (zad g 2))]) hx hb dX4_countNodes_90 hl (k := 2) rfl rfl (by decide) rfl (fun ls hl => ?_)
          refine lv_goto (tgt := 4) hx hb dX4_countNodes_93 (by decide) ?_
          exact K4 (x2 + r5) (x3 + (nI 1)) S6 h _ _ Z ls (lv_sub hl [2, 1, 0] rfl)
        have h := zi_f q6 h
        by_cases q2 : r1 = (nI 2)
        · refine ztbl (off := 73) (tgt := 90) hx hb q2 dX4_countNodes_17 (by decide) (by decide) (by decide) (by decide) ?_
          refine lv_iinc (v := (x3 + (nI 1))) (lv' := [(3, .int (x3 + (nI 1))), (0, .ref (zad g 2)), (2, .int x2)]) hx hb dX4_countNodes_90 hl (k := 2) rfl rfl (by decide) rfl (fun ls hl => ?_)
          refine lv_goto (tgt := 4) hx hb dX4_countNodes_93 (by decide) ?_
          exact K4 x2 (x3 + (nI 1)) S2 h _ _ Z ls (lv_sub hl [1, 2, 0] rfl)
        by_cases q3 : r1 = (nI 3)
        · refine ztbl (off := 73) (tgt := 90) hx hb q3 dX4_countNodes_17 (by decide) (by decide) (by decide) (by decide) ?_
          refine lv_iinc (v := (x3 + (nI 1))) (lv' := [(3, .int (x3 + (nI 1))), (0, .ref (zad g 2)), (2, .int x2)]) hx hb dX4_countNodes_90 hl (k := 2) rfl rfl (by decide) rfl (fun ls hl => ?_)
          refine lv_goto (tgt := 4) hx hb dX4_countNodes_93 (by decide) ?_
          exact K4 x2 (x3 + (nI 1)) S2 h _ _ Z ls (lv_sub hl [1, 2, 0] rfl)
        by_cases q4 : r1 = (nI 4)
        · refine ztbl (off := 73) (tgt := 90) hx hb q4 dX4_countNodes_17 (by decide) (by decide) (by decide) (by decide) ?_
          refine lv_iinc (v := (x3 + (nI 1))) (lv' := [(3, .int (x3 + (nI 1))), (0, .ref (zad g 2)), (2, .int x2)]) hx hb dX4_countNodes_90 hl (k := 2) rfl rfl (by decide) rfl (fun ls hl => ?_)
          refine lv_goto (tgt := 4) hx hb dX4_countNodes_93 (by decide) ?_
          exact K4 x2 (x3 + (nI 1)) S2 h _ _ Z ls (lv_sub hl [1, 2, 0] rfl)
        have u0 : ¬ r1.toInt = 0 := lv_neT q0 (by decide)
        have u1 : ¬ r1.toInt = 1 := lv_neT q1 (by decide)
        have u2 : ¬ r1.toInt = 2 := lv_neT q2 (by decide)
        have u3 : ¬ r1.toInt = 3 := lv_neT q3 (by decide)
        have u4 : ¬ r1.toInt = 4 := lv_neT q4 (by decide)
        have u5 : ¬ r1.toInt = 5 := lv_neT q5 (by decide)
        have u6 : ¬ r1.toInt = 6 := lv_neT q6 (by decide)
        refine lv_tableOut (tgt := 90) hx hb dX4_countNodes_17 (by omega) (by decide) ?_
        refine lv_iinc (v := (x3 + (nI 1))) (lv' := [(3, .int (x3 + (nI 1))), (0, .ref (zad g 2)), (2, .int x2)]) hx hb dX4_countNodes_90 hl (k := 2) rfl rfl (by decide) rfl (fun ls hl => ?_)
        refine lv_goto (tgt := 4) hx hb dX4_countNodes_93 (by decide) ?_
        exact K4 x2 (x3 + (nI 1)) S2 h _ _ Z ls (lv_sub hl [1, 2, 0] rfl)
  have hl := lv_entry ([.ref (zad g 2), .int a1] : List Value) (n := 4) (Nat.le_of_ble_eq_true rfl)
  rw [lg_entry_eq]
  generalize (lg_sl ([.ref (zad g 2), .int a1] : List Value) ++ List.replicate (4 - (lg_sl ([.ref (zad g 2), .int a1] : List Value)).length) Slot.unset).toArray = ls at hl ⊢
  have hl : lv_has ls 4 [(0, .ref (zad g 2)), (1, .int a1)] := hl
  unfold fX4_countNodes at h
  refine lv_iconst (v := (nI 0)) hx hb dX4_countNodes_0 (by decide) ?_
  refine lv_istore_n (lv' := [(2, .int (nI 0)), (0, .ref (zad g 2)), (1, .int a1)]) hx hb dX4_countNodes_1 rfl hl (by decide) rfl (fun ls hl => ?_)
  refine lv_iload_n hx hb dX4_countNodes_2 rfl (lv_at hl 2 rfl) ?_
  refine lv_istore_n (lv' := [(3, .int a1), (2, .int (nI 0)), (0, .ref (zad g 2)), (1, .int a1)]) hx hb dX4_countNodes_3 rfl hl (by decide) rfl (fun ls hl => ?_)
  exact B4 zFU (nI 0) a1 S h _ _ Z ls (lv_sub hl [2, 1, 0] rfl)

set_option maxHeartbeats 4000000 in
set_option maxRecDepth 100000 in
theorem kX4_closeDefinition {g : zG} (l : Launch) (hO : zinjX g) (a1 : Int32) (S : zSt) (r : Unit) (S' : zSt) (h : fX4_closeDefinition a1 S = some (r, S')) : zMv (zYX g) l yX4_closeDefinition vX4_closeDefinition { frames := 3, cells := 0, slots := 0, locals := 64 } ([.ref (zad g 2), .int a1] : List Value) S S' := by
  have hY := zOkX hO
  refine Met.ofW (cc := cX4_closeDefinition) (maxL := 3) (ret := none) (by decide) rfl ?_
  intro p e s m args below meth c s₁ B hml hv
  obtain ⟨rfl, hP⟩ := hv
  have hx := B.exec
  have hb := B.bytes
  have hr := B.returns
  have hts := atoms_spec (ws := vX4_closeDefinition) B.pre
  have hT : ∀ w ∈ zTB, w.before ([.ref (zad g 2), .int a1] : List Value).toArray s = true := fun w h => hts w (List.mem_cons_of_mem _ h)
  have hown : s.vm.findClass RX4 = some m.cls := findClass_of_methodNamed B.named
  have hlocks := B.notSynchronized
  have P0 := hP.2
  have Z : zZ (zYX g) S s s.heap [] := ⟨hP.1, va_S.rf⟩
  have hf : ∀ w ∈ u_ws RX4 TX4 12, w.before ([.ref (zad g 2), .int a1] : List Value).toArray s = true := fun w hw => hT w (mU_X4 w hw)
  have L28 := hT _ mF_X4_28
  have L15 := hT _ mF_X4_15
  have L22 := hT _ mF_X4_22
  have L47 := hT _ mF_X4_47
  have L25 := hT _ mF_X4_25
  have L19 := hT _ mF_X4_19
  have hl := lv_entry ([.ref (zad g 2), .int a1] : List Value) (n := 3) (Nat.le_of_ble_eq_true rfl)
  rw [lg_entry_eq]
  generalize (lg_sl ([.ref (zad g 2), .int a1] : List Value) ++ List.replicate (3 - (lg_sl ([.ref (zad g 2), .int a1] : List Value)).length) Slot.unset).toArray = ls at hl ⊢
  have hl : lv_has ls 3 [(0, .ref (zad g 2)), (1, .int a1)] := hl
  unfold fX4_closeDefinition at h
  refine lv_aload_n hx hb dX4_closeDefinition_0 rfl (lv_at hl 0 rfl) ?_
  refine zgX4_5 (v := (zI S 6)) hx hb hf hown P0 Z L28 rfl dX4_closeDefinition_1 ?_
  refine lv_iconst (v := (nI 1)) hx hb dX4_closeDefinition_4 (by decide) ?_
  refine lv_isub hx hb dX4_closeDefinition_5 ?_
  refine lv_istore_n (lv' := [(2, .int ((zI S 6) - (nI 1))), (0, .ref (zad g 2)), (1, .int a1)]) hx hb dX4_closeDefinition_6 rfl hl (by decide) rfl (fun ls hl => ?_)
  refine lv_iload_n hx hb dX4_closeDefinition_7 rfl (lv_at hl 0 rfl) ?_
  refine lv_if_lt (tgt := 50) hx hb dX4_closeDefinition_8 (by decide) (fun q => ?_) (fun q => ?_)
  · have h := zi_t q h
    exact zr_v hY P0 hx hb hr hlocks h Z dX4_closeDefinition_50
  · have h := zi_f q h
    refine lv_iload_n hx hb dX4_closeDefinition_11 rfl (lv_at hl 0 rfl) ?_
    refine lv_bipush (v := (nI 20)) hx hb dX4_closeDefinition_12 (by decide) ?_
    refine lv_icmp_ge (tgt := 50) hx hb dX4_closeDefinition_14 (by decide) (fun q => ?_) (fun q => ?_)
    · have h := zi_t q h
      exact zr_v hY P0 hx hb hr hlocks h Z dX4_closeDefinition_50
    · have h := zi_f q h
      refine lv_aload_n hx hb dX4_closeDefinition_17 rfl (lv_at hl 1 rfl) ?_
      refine zgX4_1 hx hb hf hown P0 Z L15 dX4_closeDefinition_18 ?_
      refine lv_iload_n hx hb dX4_closeDefinition_21 rfl (lv_at hl 0 rfl) ?_
      refine lv_iload_n hx hb dX4_closeDefinition_22 rfl (lv_at hl 2 rfl) ?_
      obtain ⟨hin, h⟩ := zck_s h
      refine zsX_13 hO hx hb P0 Z hin dX4_closeDefinition_23 (fun H locs Z => ?_)
      refine lv_aload_n hx hb dX4_closeDefinition_24 rfl (lv_at hl 1 rfl) ?_
      refine zgX4_3 hx hb hf hown P0 Z L22 dX4_closeDefinition_25 ?_
      refine lv_iload_n hx hb dX4_closeDefinition_28 rfl (lv_at hl 0 rfl) ?_
      refine lv_aload_n hx hb dX4_closeDefinition_29 rfl (lv_at hl 1 rfl) ?_
      refine zgX4_11 (v := (zI S 7)) hx hb hf hown P0 Z L47 rfl dX4_closeDefinition_30 ?_
      obtain ⟨hin, h⟩ := zck_s h
      refine zsX_15 hO hx hb P0 Z hin dX4_closeDefinition_33 (fun H locs Z => ?_)
      refine lv_aload_n hx hb dX4_closeDefinition_34 rfl (lv_at hl 1 rfl) ?_
      refine zgX4_4 hx hb hf hown P0 Z L25 dX4_closeDefinition_35 ?_
      refine lv_iload_n hx hb dX4_closeDefinition_38 rfl (lv_at hl 0 rfl) ?_
      refine lv_aload_n hx hb dX4_closeDefinition_39 rfl (lv_at hl 1 rfl) ?_
      refine lv_aload_n hx hb dX4_closeDefinition_40 rfl (lv_at hl 1 rfl) ?_
      refine zgX4_2 hx hb hf hown P0 Z L19 dX4_closeDefinition_41 ?_
      refine lv_iload_n hx hb dX4_closeDefinition_44 rfl (lv_at hl 0 rfl) ?_
      obtain ⟨v1, ev, hin, h⟩ := zld_s h
      refine zlX_14 hx hb P0 Z ev hin dX4_closeDefinition_45 ?_
      obtain ⟨r2, S3, ec, h⟩ := zbd_s h
      refine zc_Vi hY P0 ⟨hx, hb, hml, hown, hT⟩ (As := [.int v1]) (rest := [.int ((zI S 6) - (nI 1)), .ref (zad g 16)]) (kX4_countNodes l hO v1 (wA (wA S 13 (((zI S 6) - (nI 1)).toNatClampNeg) a1) 15 (((zI S 6) - (nI 1)).toNatClampNeg) (zI S 7)) r2 S3 ec) (cwV 1 hT (zgV mL_X4_50 mI_X4_countNodes mS_X4_countNodes mN_X4 mC_X4_countNodes) rfl rfl rfl hdnX4_countNodes ⟨Nat.le_of_ble_eq_true rfl, Nat.le_of_ble_eq_true rfl⟩) (zrecX_2 P0 Z) Z rfl hl.1 rfl (Nat.le_of_ble_eq_true rfl) dX4_closeDefinition_46 (fun H locs Z => ?_)
      obtain ⟨hin, h⟩ := zck_s h
      refine zsX_16 hO hx hb P0 Z hin dX4_closeDefinition_49 (fun H locs Z => ?_)
      exact zr_v hY P0 hx hb hr hlocks h Z dX4_closeDefinition_50
