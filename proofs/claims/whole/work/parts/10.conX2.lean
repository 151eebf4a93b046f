set_option maxHeartbeats 4000000 in
set_option maxRecDepth 100000 in
theorem kX5_readBinding {g : zG} (l : Launch) (hO : zinjX g) (oE : Int32 → zSt → Option (Int32 × zSt)) (F G : Nat) (hE : ∀ (x1 : Int32) (S : zSt) (r : Int32) (S' : zSt), oE x1 S = some (r, S') → zMi (zYX g) l yX5_readExpr vX5_readExpr { frames := F, cells := 0, slots := 0, locals := G } ([.ref (zad g 3), .int x1] : List Value) S r S') (a1 : Int32) (a2 : Int32) (S : zSt) (r : Int32) (S' : zSt) (h : fX5_readBinding oE a1 a2 S = some (r, S')) : zMi (zYX g) l yX5_readBinding vX5_readBinding { frames := F + 4, cells := 0, slots := 0, locals := G + 83 } ([.ref (zad g 3), .int a1, .int a2] : List Value) S r S' := by
  have hY := zOkX hO
  refine Met.ofW (cc := cX5_readBinding) (maxL := 5) (ret := (some .boolean)) (by decide) rfl ?_
  intro p e s m args below meth c s₁ B hml hv
  obtain ⟨rfl, hP⟩ := hv
  have hx := B.exec
  have hb := B.bytes
  have hr := B.returns
  have hts := atoms_spec (ws := vX5_readBinding) B.pre
  have hT : ∀ w ∈ zTB, w.before ([.ref (zad g 3), .int a1, .int a2] : List Value).toArray s = true := fun w h => hts w (List.mem_cons_of_mem _ h)
  have hown : s.vm.findClass RX5 = some m.cls := findClass_of_methodNamed B.named
  have hlocks := B.notSynchronized
  have P0 := hP.2
  have Z : zZ (zYX g) S s s.heap [] := ⟨hP.1, va_S.rf⟩
  have hf : ∀ w ∈ u_ws RX5 TX5 6, w.before ([.ref (zad g 3), .int a1, .int a2] : List Value).toArray s = true := fun w hw => hT w (mU_X5 w hw)
  have L25 := hT _ mF_X5_25
  have L15 := hT _ mF_X5_15
  have L29 := hT _ mF_X5_29
  have B47 : ∀ (S : zSt), fX5_readBinding_47 oE S = some (r, S') → ∀ (H : Heap) (locs : List Loc), zZ (zYX g) S s H locs → ∀ ls : Array Slot, lv_has ls 5 [(0, .ref (zad g 3))] → W p l e (headSpec vX5_readBinding { frames := F + 4, cells := 0, slots := 0, locals := G + 83 }).room s m ([.ref (zad g 3), .int a1, .int a2] : List Value).toArray below meth c H locs 0 0 (MQ below (zQi (zYX g) r S') ([.ref (zad g 3), .int a1, .int a2] : List Value).toArray s 0 0 (zYX g).2.2.1) (F0 m 47 ls []) := by
    intro S h H locs Z ls hl
    unfold fX5_readBinding_47 at h
    refine lv_aload_n hx hb dX5_readBinding_47 rfl (lv_at hl 0 rfl) ?_
    refine lv_iconst (v := (nI 3)) hx hb dX5_readBinding_48 (by decide) ?_
    refine lv_aload_n hx hb dX5_readBinding_49 rfl (lv_at hl 0 rfl) ?_
    refine zgX5_0 hx hb hf hown P0 Z L25 dX5_readBinding_50 ?_
    obtain ⟨r25, S26, ec, h⟩ := zbd_s h
    refine zc_Vi hY P0 ⟨hx, hb, hml, hown, hT⟩ (As := []) (rest := [.int (nI 3), .ref (zad g 3)]) (kX8_place l hO  S r25 S26 ec) (cwV 0 hT (zgV mL_X5_83 mI_X8_place mS_X8_place mN_X8 mC_X8_place) rfl rfl rfl hdnX8_place ⟨(by omega : 0 + 1 ≤ F + 4), (by omega : 8 + (1 + 11) + (0) ≤ G + 83)⟩) (zrecX_4 P0 Z) Z rfl hl.1 rfl (Nat.le_of_ble_eq_true rfl) dX5_readBinding_53 (fun H locs Z => ?_)
    obtain ⟨r27, S28, ec, h⟩ := zbd_s h
    refine zc_Vi hY P0 ⟨hx, hb, hml, hown, hT⟩ (As := [.int (nI 3), .int r25]) (rest := []) (kX5_fail l hO (nI 3) r25 S26 r27 S28 ec) (cwV 2 hT (zgV mL_X5_66 mI_X5_fail mS_X5_fail mN_X5 mC_X5_fail) rfl rfl rfl hdnX5_fail ⟨(by omega : 0 + 1 ≤ F + 4), (by omega : 8 + (3 + 11) + (0) ≤ G + 83)⟩) (zrecX_3 P0 Z) Z rfl hl.1 rfl (Nat.le_of_ble_eq_true rfl) dX5_readBinding_56 (fun H locs Z => ?_)
    obtain ⟨hn, h⟩ := zbo_s h
    exact zr_z hY P0 hx hb hr hlocks hn h Z dX5_readBinding_59
  have hl := lv_entry ([.ref (zad g 3), .int a1, .int a2] : List Value) (n := 5) (Nat.le_of_ble_eq_true rfl)
  rw [lg_entry_eq]
  generalize (lg_sl ([.ref (zad g 3), .int a1, .int a2] : List Value) ++ List.replicate (5 - (lg_sl ([.ref (zad g 3), .int a1, .int a2] : List Value)).length) Slot.unset).toArray = ls at hl ⊢
  have hl : lv_has ls 5 [(0, .ref (zad g 3)), (1, .int a1), (2, .int a2)] := hl
  unfold fX5_readBinding at h
  refine lv_iload_n hx hb dX5_readBinding_0 rfl (lv_at hl 1 rfl) ?_
  refine lv_bipush (v := (nI 6)) hx hb dX5_readBinding_1 (by decide) ?_
  refine lv_imul hx hb dX5_readBinding_3 ?_
  refine lv_istore_n (lv' := [(3, .int (a1 * (nI 6))), (0, .ref (zad g 3)), (1, .int a1), (2, .int a2)]) hx hb dX5_readBinding_4 rfl hl (by decide) rfl (fun ls hl => ?_)
  refine lv_iload_n hx hb dX5_readBinding_5 rfl (lv_at hl 0 rfl) ?_
  refine lv_iload_n hx hb dX5_readBinding_6 rfl (lv_at hl 3 rfl) ?_
  refine lv_iadd hx hb dX5_readBinding_7 ?_
  refine lv_istore (lv' := [(4, .int ((a1 * (nI 6)) + a2)), (3, .int (a1 * (nI 6))), (0, .ref (zad g 3)), (1, .int a1), (2, .int a2)]) hx hb dX5_readBinding_8 hl (by decide) rfl (fun ls hl => ?_)
  refine lv_aload_n hx hb dX5_readBinding_10 rfl (lv_at hl 2 rfl) ?_
  refine zgX5_0 hx hb hf hown P0 Z L25 dX5_readBinding_11 ?_
  obtain ⟨r1, S2, ec, h⟩ := zbd_s h
  refine zc_Vi hY P0 ⟨hx, hb, hml, hown, hT⟩ (As := []) (rest := []) (kX8_kind l hO  S r1 S2 ec) (cwV 0 hT (zgV mL_X5_47 mI_X8_kind mS_X8_kind mN_X8 mC_X8_kind) rfl rfl rfl hdnX8_kind ⟨(by omega : 0 + 1 ≤ F + 4), (by omega : 8 + (1 + 11) + (0) ≤ G + 83)⟩) (zrecX_4 P0 Z) Z rfl hl.1 rfl (Nat.le_of_ble_eq_true rfl) dX5_readBinding_14 (fun H locs Z => ?_)
  refine lv_iconst (v := (nI 2)) hx hb dX5_readBinding_17 (by decide) ?_
  refine lv_icmp_eq (tgt := 26) hx hb dX5_readBinding_18 (by decide) (fun q => ?_) (fun q => ?_)
  · have h := zi_t q h
    refine lv_iload_n hx hb dX5_readBinding_26 rfl (lv_at hl 4 rfl) ?_
    refine lv_bipush (v := (nI 6)) hx hb dX5_readBinding_27 (by decide) ?_
    refine lv_icmp_ge (tgt := 47) hx hb dX5_readBinding_29 (by decide) (fun q => ?_) (fun q => ?_)
    · have h := zi_t q h
      exact B47 S2 h _ _ Z ls (lv_sub hl [2] rfl)
    · have h := zi_f q h
      refine lv_iload hx hb dX5_readBinding_32 (lv_at hl 0 rfl) ?_
      refine lv_if_lt (tgt := 47) hx hb dX5_readBinding_34 (by decide) (fun q => ?_) (fun q => ?_)
      · have h := zi_t q h
        exact B47 S2 h _ _ Z ls (lv_sub hl [2] rfl)
      · have h := zi_f q h
        refine lv_iload hx hb dX5_readBinding_37 (lv_at hl 0 rfl) ?_
        refine lv_aload_n hx hb dX5_readBinding_39 rfl (lv_at hl 2 rfl) ?_
        refine zgX5_3 hx hb hf hown P0 Z L15 dX5_readBinding_40 ?_
        refine zaX_23 hx hb P0 Z dX5_readBinding_43 ?_
        refine lv_icmp_lt (tgt := 60) hx hb dX5_readBinding_44 (by decide) (fun q => ?_) (fun q => ?_)
        · have h := zi_t q h
          refine lv_aload_n hx hb dX5_readBinding_60 rfl (lv_at hl 2 rfl) ?_
          refine zgX5_3 hx hb hf hown P0 Z L15 dX5_readBinding_61 ?_
          refine lv_iload_n hx hb dX5_readBinding_64 rfl (lv_at hl 1 rfl) ?_
          refine lv_iload hx hb dX5_readBinding_65 (lv_at hl 0 rfl) ?_
          refine lv_aload_n hx hb dX5_readBinding_67 rfl (lv_at hl 2 rfl) ?_
          refine zgX5_0 hx hb hf hown P0 Z L25 dX5_readBinding_68 ?_
          obtain ⟨r3, S4, ec, h⟩ := zbd_s h
          refine zc_Vl hY P0 ⟨hx, hb, hml, hown, hT⟩ (As := []) (rest := [.int ((a1 * (nI 6)) + a2), .int (a1 * (nI 6)), .ref (zad g 23)]) (kX8_name l hO  S2 r3 S4 ec) (cwV 0 hT (zgV mL_X5_86 mI_X8_name mS_X8_name mN_X8 mC_X8_name) rfl rfl rfl hdnX8_name ⟨(by omega : 0 + 1 ≤ F + 4), (by omega : 8 + (1 + 11) + (0) ≤ G + 83)⟩) (zrecX_4 P0 Z) Z rfl hl.1 rfl (Nat.le_of_ble_eq_true rfl) dX5_readBinding_71 (fun H locs Z => ?_)
          obtain ⟨r5, S6, ec, h⟩ := zbd_s h
          refine zc_Si hY P0 ⟨hx, hb, hml, hown, hT⟩ (As := [.ref (zad g 23), .int (a1 * (nI 6)), .int ((a1 * (nI 6)) + a2), .long r3]) (rest := []) (kX5_has_23 l hO (a1 * (nI 6)) ((a1 * (nI 6)) + a2) r3 S4 r5 S6 ec) (va_cwS 4 hT (zgS mL_X5_118 mT_X5_has mN_X5 mC_X5_has) rfl rfl rfl hdnX5_has ⟨(by omega : 0 + 1 ≤ F + 4), (by omega : 8 + (6 + 11) + (0) ≤ G + 83)⟩) Z rfl hl.1 rfl (Nat.le_of_ble_eq_true rfl) dX5_readBinding_74 (fun H locs Z => ?_)
          refine lv_if_eq (tgt := 93) hx hb dX5_readBinding_77 (by decide) (fun q => ?_) (fun q => ?_)
          · have h := zi_t q h
            refine lv_aload_n hx hb dX5_readBinding_93 rfl (lv_at hl 2 rfl) ?_
            refine zgX5_3 hx hb hf hown P0 Z L15 dX5_readBinding_94 ?_
            refine lv_iload hx hb dX5_readBinding_97 (lv_at hl 0 rfl) ?_
            refine lv_aload_n hx hb dX5_readBinding_99 rfl (lv_at hl 2 rfl) ?_
            refine zgX5_0 hx hb hf hown P0 Z L25 dX5_readBinding_100 ?_
            obtain ⟨r7, S8, ec, h⟩ := zbd_s h
            refine zc_Vl hY P0 ⟨hx, hb, hml, hown, hT⟩ (As := []) (rest := [.int ((a1 * (nI 6)) + a2), .ref (zad g 23)]) (kX8_name l hO  S6 r7 S8 ec) (cwV 0 hT (zgV mL_X5_86 mI_X8_name mS_X8_name mN_X8 mC_X8_name) rfl rfl rfl hdnX8_name ⟨(by omega : 0 + 1 ≤ F + 4), (by omega : 8 + (1 + 11) + (0) ≤ G + 83)⟩) (zrecX_4 P0 Z) Z rfl hl.1 rfl (Nat.le_of_ble_eq_true rfl) dX5_readBinding_103 (fun H locs Z => ?_)
            obtain ⟨hin, h⟩ := zck_s h
            refine zsX_23 hO hx hb P0 Z hin dX5_readBinding_106 (fun H locs Z => ?_)
            refine lv_aload_n hx hb dX5_readBinding_107 rfl (lv_at hl 2 rfl) ?_
            refine zgX5_0 hx hb hf hown P0 Z L25 dX5_readBinding_108 ?_
            obtain ⟨r9, S10, ec, h⟩ := zbd_s h
            refine zc_Vv hY P0 ⟨hx, hb, hml, hown, hT⟩ (As := []) (rest := []) (kX8_advance l hO  (wB S8 23 (((a1 * (nI 6)) + a2).toNatClampNeg) r7) r9 S10 ec) (cwV 0 hT (zgV mL_X5_94 mI_X8_advance mS_X8_advance mN_X8 mC_X8_advance) rfl rfl rfl hdnX8_advance ⟨(by omega : 2 + 1 ≤ F + 4), (by omega : 8 + (2 + 11) + (41) ≤ G + 83)⟩) (zrecX_4 P0 Z) Z rfl hl.1 rfl (Nat.le_of_ble_eq_true rfl) dX5_readBinding_111 (fun H locs Z => ?_)
            refine lv_aload_n hx hb dX5_readBinding_114 rfl (lv_at hl 2 rfl) ?_
            refine lv_bipush (v := (nI 6)) hx hb dX5_readBinding_115 (by decide) ?_
            obtain ⟨r11, S12, ec, h⟩ := zbd_s h
            refine zc_Vi hY P0 ⟨hx, hb, hml, hown, hT⟩ (As := [.int (nI 6)]) (rest := []) (kX5_take l hO (nI 6) S10 r11 S12 ec) (cwV 1 hT (zgV mL_X5_103 mI_X5_take mS_X5_take mN_X5 mC_X5_take) rfl rfl rfl hdnX5_take ⟨(by omega : 3 + 1 ≤ F + 4), (by omega : 8 + (2 + 11) + (62) ≤ G + 83)⟩) (zrecX_3 P0 Z) Z rfl hl.1 rfl (Nat.le_of_ble_eq_true rfl) dX5_readBinding_117 (fun H locs Z => ?_)
            refine lv_if_eq (tgt := 142) hx hb dX5_readBinding_120 (by decide) (fun q => ?_) (fun q => ?_)
            · have h := zi_t q h
              refine lv_iconst (v := (nI 0)) hx hb dX5_readBinding_142 (by decide) ?_
              exact zr_z hY P0 hx hb hr hlocks (by decide) h Z dX5_readBinding_143
            · have h := zi_f q h
              refine lv_aload_n hx hb dX5_readBinding_123 rfl (lv_at hl 2 rfl) ?_
              refine lv_iload_n hx hb dX5_readBinding_124 rfl (lv_at hl 3 rfl) ?_
              refine lv_iconst (v := (nI 1)) hx hb dX5_readBinding_125 (by decide) ?_
              refine lv_iadd hx hb dX5_readBinding_126 ?_
              obtain ⟨r13, S14, ec, h⟩ := zbd_s h
              refine zc_Vi hY P0 ⟨hx, hb, hml, hown, hT⟩ (As := [.int (a1 + (nI 1))]) (rest := []) (hE (a1 + (nI 1)) S12 r13 S14 ec) (cwV 1 hT (zgV mL_X5_107 mI_X5_readExpr mS_X5_readExpr mN_X5 mC_X5_readExpr) rfl rfl rfl hdnX5_readExpr ⟨(by omega : F + 1 ≤ F + 4), (by omega : 8 + (2 + 11) + (G) ≤ G + 83)⟩) (zrecX_3 P0 Z) Z rfl hl.1 rfl (Nat.le_of_ble_eq_true rfl) dX5_readBinding_127 (fun H locs Z => ?_)
              refine lv_if_eq (tgt := 142) hx hb dX5_readBinding_130 (by decide) (fun q => ?_) (fun q => ?_)
              · have h := zi_t q h
                refine lv_iconst (v := (nI 0)) hx hb dX5_readBinding_142 (by decide) ?_
                exact zr_z hY P0 hx hb hr hlocks (by decide) h Z dX5_readBinding_143
              · have h := zi_f q h
                refine lv_aload_n hx hb dX5_readBinding_133 rfl (lv_at hl 2 rfl) ?_
                refine lv_bipush (v := (nI 7)) hx hb dX5_readBinding_134 (by decide) ?_
                obtain ⟨r15, S16, ec, h⟩ := zbd_s h
                refine zc_Vi hY P0 ⟨hx, hb, hml, hown, hT⟩ (As := [.int (nI 7)]) (rest := []) (kX5_take l hO (nI 7) S14 r15 S16 ec) (cwV 1 hT (zgV mL_X5_103 mI_X5_take mS_X5_take mN_X5 mC_X5_take) rfl rfl rfl hdnX5_take ⟨(by omega : 3 + 1 ≤ F + 4), (by omega : 8 + (2 + 11) + (62) ≤ G + 83)⟩) (zrecX_3 P0 Z) Z rfl hl.1 rfl (Nat.le_of_ble_eq_true rfl) dX5_readBinding_136 (fun H locs Z => ?_)
                refine lv_if_ne (tgt := 144) hx hb dX5_readBinding_139 (by decide) (fun q => ?_) (fun q => ?_)
                · have h := zi_f q h
                  refine lv_aload_n hx hb dX5_readBinding_144 rfl (lv_at hl 2 rfl) ?_
                  refine zgX5_1 hx hb hf hown P0 Z L29 dX5_readBinding_145 ?_
                  refine lv_bipush (v := (nI 7)) hx hb dX5_readBinding_148 (by decide) ?_
                  refine lv_iload hx hb dX5_readBinding_150 (lv_at hl 0 rfl) ?_
                  obtain ⟨r17, S18, ec, h⟩ := zbd_s h
                  refine zc_Vv hY P0 ⟨hx, hb, hml, hown, hT⟩ (As := [.int (nI 7), .int ((a1 * (nI 6)) + a2)]) (rest := []) (kX4_addDeed l hO (nI 7) ((a1 * (nI 6)) + a2) S16 r17 S18 ec) (cwV 2 hT (zgV mL_X5_128 mI_X4_addDeed mS_X4_addDeed mN_X4 mC_X4_addDeed) rfl rfl rfl hdnX4_addDeed ⟨(by omega : 1 + 1 ≤ F + 4), (by omega : 8 + (3 + 11) + (25) ≤ G + 83)⟩) (zrecX_2 P0 Z) Z rfl hl.1 rfl (Nat.le_of_ble_eq_true rfl) dX5_readBinding_152 (fun H locs Z => ?_)
                  refine lv_iconst (v := (nI 1)) hx hb dX5_readBinding_155 (by decide) ?_
                  exact zr_z hY P0 hx hb hr hlocks (by decide) h Z dX5_readBinding_156
                · have h := zi_t q h
                  refine lv_iconst (v := (nI 0)) hx hb dX5_readBinding_142 (by decide) ?_
                  exact zr_z hY P0 hx hb hr hlocks (by decide) h Z dX5_readBinding_143
          · have h := zi_f q h
            refine lv_aload_n hx hb dX5_readBinding_80 rfl (lv_at hl 2 rfl) ?_
            refine lv_iconst (v := (nI 4)) hx hb dX5_readBinding_81 (by decide) ?_
            refine lv_aload_n hx hb dX5_readBinding_82 rfl (lv_at hl 2 rfl) ?_
            refine zgX5_0 hx hb hf hown P0 Z L25 dX5_readBinding_83 ?_
            obtain ⟨r19, S20, ec, h⟩ := zbd_s h
            refine zc_Vi hY P0 ⟨hx, hb, hml, hown, hT⟩ (As := []) (rest := [.int (nI 4), .ref (zad g 3)]) (kX8_place l hO  S6 r19 S20 ec) (cwV 0 hT (zgV mL_X5_83 mI_X8_place mS_X8_place mN_X8 mC_X8_place) rfl rfl rfl hdnX8_place ⟨(by omega : 0 + 1 ≤ F + 4), (by omega : 8 + (1 + 11) + (0) ≤ G + 83)⟩) (zrecX_4 P0 Z) Z rfl hl.1 rfl (Nat.le_of_ble_eq_true rfl) dX5_readBinding_86 (fun H locs Z => ?_)
            obtain ⟨r21, S22, ec, h⟩ := zbd_s h
            refine zc_Vi hY P0 ⟨hx, hb, hml, hown, hT⟩ (As := [.int (nI 4), .int r19]) (rest := []) (kX5_fail l hO (nI 4) r19 S20 r21 S22 ec) (cwV 2 hT (zgV mL_X5_66 mI_X5_fail mS_X5_fail mN_X5 mC_X5_fail) rfl rfl rfl hdnX5_fail ⟨(by omega : 0 + 1 ≤ F + 4), (by omega : 8 + (3 + 11) + (0) ≤ G + 83)⟩) (zrecX_3 P0 Z) Z rfl hl.1 rfl (Nat.le_of_ble_eq_true rfl) dX5_readBinding_89 (fun H locs Z => ?_)
            obtain ⟨hn, h⟩ := zbo_s h
            exact zr_z hY P0 hx hb hr hlocks hn h Z dX5_readBinding_92
        · have h := zi_f q h
          exact B47 S2 h _ _ Z ls (lv_sub hl [2] rfl)
  · have h := zi_f q h
    refine lv_aload_n hx hb dX5_readBinding_21 rfl (lv_at hl 2 rfl) ?_
    obtain ⟨r23, S24, ec, h⟩ := zbd_s h
    refine zc_Vi hY P0 ⟨hx, hb, hml, hown, hT⟩ (As := []) (rest := []) (kX5_cannotStand l hO  S2 r23 S24 ec) (cwV 0 hT (zgV mL_X5_77 mI_X5_cannotStand mS_X5_cannotStand mN_X5 mC_X5_cannotStand) rfl rfl rfl hdnX5_cannotStand ⟨(by omega : 1 + 1 ≤ F + 4), (by omega : 8 + (2 + 11) + (22) ≤ G + 83)⟩) (zrecX_3 P0 Z) Z rfl hl.1 rfl (Nat.le_of_ble_eq_true rfl) dX5_readBinding_22 (fun H locs Z => ?_)
    obtain ⟨hn, h⟩ := zbo_s h
    exact zr_z hY P0 hx hb hr hlocks hn h Z dX5_readBinding_25

set_option maxHeartbeats 4000000 in
set_option maxRecDepth 100000 in
theorem kX5_readLet {g : zG} (l : Launch) (hO : zinjX g) (oE : Int32 → zSt → Option (Int32 × zSt)) (F G : Nat) (hE : ∀ (x1 : Int32) (S : zSt) (r : Int32) (S' : zSt), oE x1 S = some (r, S') → zMi (zYX g) l yX5_readExpr vX5_readExpr { frames := F, cells := 0, slots := 0, locals := G } ([.ref (zad g 3), .int x1] : List Value) S r S') (a1 : Int32) (S : zSt) (r : Int32) (S' : zSt) (h : fX5_readLet oE a1 S = some (r, S')) : zMi (zYX g) l yX5_readLet vX5_readLet { frames := F + 5, cells := 0, slots := 0, locals := G + 107 } ([.ref (zad g 3), .int a1] : List Value) S r S' := by
  have hY := zOkX hO
  refine Met.ofW (cc := cX5_readLet) (maxL := 7) (ret := (some .boolean)) (by decide) rfl ?_
  intro p e s m args below meth c s₁ B hml hv
  obtain ⟨rfl, hP⟩ := hv
  have hx := B.exec
  have hb := B.bytes
  have hr := B.returns
  have hts := atoms_spec (ws := vX5_readLet) B.pre
  have hT : ∀ w ∈ zTB, w.before ([.ref (zad g 3), .int a1] : List Value).toArray s = true := fun w h => hts w (List.mem_cons_of_mem _ h)
  have hown : s.vm.findClass RX5 = some m.cls := findClass_of_methodNamed B.named
  have hlocks := B.notSynchronized
  have P0 := hP.2
  have Z : zZ (zYX g) S s s.heap [] := ⟨hP.1, va_S.rf⟩
  have hf : ∀ w ∈ u_ws RX5 TX5 6, w.before ([.ref (zad g 3), .int a1] : List Value).toArray s = true := fun w hw => hT w (mU_X5 w hw)
  have L25 := hT _ mF_X5_25
  have L29 := hT _ mF_X5_29
  have L15 := hT _ mF_X5_15
  have B143 : ∀ (n : Nat) (x2 : Int32) (x3 : Int32) (x4 : Int32) (x6 : Int32) (S : zSt), fX5_readLet_143L oE n (x2, x3, x4, x6, S) = some (r, S') → ∀ (H : Heap) (locs : List Loc), zZ (zYX g) S s H locs → ∀ ls : Array Slot, lv_has ls 7 [(0, .ref (zad g 3)), (2, .int x2), (3, .int x3), (4, .int x4), (6, .int x6)] → W p l e (headSpec vX5_readLet { frames := F + 5, cells := 0, slots := 0, locals := G + 107 }).room s m ([.ref (zad g 3), .int a1] : List Value).toArray below meth c H locs 0 0 (MQ below (zQi (zYX g) r S') ([.ref (zad g 3), .int a1] : List Value).toArray s 0 0 (zYX g).2.2.1) (F0 m 143 ls []) := by
    intro n
    induction n with
    | zero => intro x2 x3 x4 x6 S h; exact absurd h (fun h => nomatch h)
    | succ n K143 =>
      intro x2 x3 x4 x6 S h H locs Z ls hl
      have h : fX5_readLet_143 oE (fX5_readLet_143L oE n) x2 x3 x4 x6 S = some (r, S') := h
      unfold fX5_readLet_143 at h
      refine lv_iload hx hb dX5_readLet_143 (lv_at hl 4 rfl) ?_
      refine lv_iload_n hx hb dX5_readLet_145 rfl (lv_at hl 1 rfl) ?_
      refine lv_iload hx hb dX5_readLet_146 (lv_at hl 3 rfl) ?_
      refine lv_iadd hx hb dX5_readLet_148 ?_
      refine lv_icmp_ge (tgt := 186) hx hb dX5_readLet_149 (by decide) (fun q => ?_) (fun q => ?_)
      · have h := zi_t q h
        refine lv_iconst (v := (nI 1)) hx hb dX5_readLet_186 (by decide) ?_
        exact zr_z hY P0 hx hb hr hlocks (by decide) h Z dX5_readLet_187
      · have h := zi_f q h
        refine lv_iload hx hb dX5_readLet_152 (lv_at hl 4 rfl) ?_
        refine lv_aload_n hx hb dX5_readLet_154 rfl (lv_at hl 0 rfl) ?_
        refine zgX5_3 hx hb hf hown P0 Z L15 dX5_readLet_155 ?_
        refine zaX_23 hx hb P0 Z dX5_readLet_158 ?_
        refine lv_icmp_ge (tgt := 186) hx hb dX5_readLet_159 (by decide) (fun q => ?_) (fun q => ?_)
        · have h := zi_t q h
          refine lv_iconst (v := (nI 1)) hx hb dX5_readLet_186 (by decide) ?_
          exact zr_z hY P0 hx hb hr hlocks (by decide) h Z dX5_readLet_187
        · have h := zi_f q h
          refine lv_aload_n hx hb dX5_readLet_162 rfl (lv_at hl 0 rfl) ?_
          refine zgX5_1 hx hb hf hown P0 Z L29 dX5_readLet_163 ?_
          refine lv_iload_n hx hb dX5_readLet_166 rfl (lv_at hl 2 rfl) ?_
          refine lv_aload_n hx hb dX5_readLet_167 rfl (lv_at hl 0 rfl) ?_
          refine zgX5_3 hx hb hf hown P0 Z L15 dX5_readLet_168 ?_
          refine lv_iload hx hb dX5_readLet_171 (lv_at hl 4 rfl) ?_
          obtain ⟨v23, ev, hin, h⟩ := zld_s h
          refine zlX_23 hx hb P0 Z ev hin dX5_readLet_173 ?_
          refine lv_iconst (v := (nI 4)) hx hb dX5_readLet_174 (by decide) ?_
          refine lv_iload hx hb dX5_readLet_175 (lv_at hl 4 rfl) ?_
          obtain ⟨r24, S25, ec, h⟩ := zbd_s h
          refine zc_Vv hY P0 ⟨hx, hb, hml, hown, hT⟩ (As := [.int x3, .long v23, .int (nI 4), .int x6]) (rest := []) (kX4_tell l hO x3 v23 (nI 4) x6 S r24 S25 ec) (cwV 4 hT (zgV mL_X5_110 mI_X4_tell mS_X4_tell mN_X4 mC_X4_tell) rfl rfl rfl hdnX4_tell ⟨(by omega : 0 + 1 ≤ F + 5), (by omega : 8 + (7 + 11) + (0) ≤ G + 107)⟩) (zrecX_2 P0 Z) Z rfl hl.1 rfl (Nat.le_of_ble_eq_true rfl) dX5_readLet_177 (fun H locs Z => ?_)
          refine lv_iinc (v := (x6 + (nI 1))) (lv' := [(6, .int (x6 + (nI 1))), (0, .ref (zad g 3)), (2, .int x2), (3, .int x3), (4, .int x4)]) hx hb dX5_readLet_180 hl (k := 4) rfl rfl (by decide) rfl (fun ls hl => ?_)
          refine lv_goto (tgt := 143) hx hb dX5_readLet_183 (by decide) ?_
          exact K143 x2 x3 x4 (x6 + (nI 1)) S25 h _ _ Z ls (lv_sub hl [1, 2, 3, 4, 0] rfl)
  have B102 : ∀ (x1 : Int32) (x2 : Int32) (x3 : Int32) (x4 : Int32) (x5 : Int32) (S : zSt), fX5_readLet_102 oE x1 x2 x3 x4 x5 S = some (r, S') → ∀ (H : Heap) (locs : List Loc), zZ (zYX g) S s H locs → ∀ ls : Array Slot, lv_has ls 7 [(0, .ref (zad g 3)), (1, .int x1), (2, .int x2), (3, .int x3), (4, .int x4), (5, .int x5)] → W p l e (headSpec vX5_readLet { frames := F + 5, cells := 0, slots := 0, locals := G + 107 }).room s m ([.ref (zad g 3), .int a1] : List Value).toArray below meth c H locs 0 0 (MQ below (zQi (zYX g) r S') ([.ref (zad g 3), .int a1] : List Value).toArray s 0 0 (zYX g).2.2.1) (F0 m 102 ls []) := by
    intro x1 x2 x3 x4 x5 S h H locs Z ls hl
    unfold fX5_readLet_102 at h
    refine lv_iload hx hb dX5_readLet_102 (lv_at hl 5 rfl) ?_
    refine lv_if_eq (tgt := 115) hx hb dX5_readLet_104 (by decide) (fun q => ?_) (fun q => ?_)
    · have h := zi_t q h
      refine lv_iconst (v := (nI 0)) hx hb dX5_readLet_115 (by decide) ?_
      exact zr_z hY P0 hx hb hr hlocks (by decide) h Z dX5_readLet_116
    · have h := zi_f q h
      refine lv_aload_n hx hb dX5_readLet_107 rfl (lv_at hl 0 rfl) ?_
      refine lv_iconst (v := (nI 5)) hx hb dX5_readLet_108 (by decide) ?_
      obtain ⟨r17, S18, ec, h⟩ := zbd_s h
      refine zc_Vi hY P0 ⟨hx, hb, hml, hown, hT⟩ (As := [.int (nI 5)]) (rest := []) (kX5_take l hO (nI 5) S r17 S18 ec) (cwV 1 hT (zgV mL_X5_103 mI_X5_take mS_X5_take mN_X5 mC_X5_take) rfl rfl rfl hdnX5_take ⟨(by omega : 3 + 1 ≤ F + 5), (by omega : 8 + (2 + 11) + (62) ≤ G + 107)⟩) (zrecX_3 P0 Z) Z rfl hl.1 rfl (Nat.le_of_ble_eq_true rfl) dX5_readLet_109 (fun H locs Z => ?_)
      refine lv_if_ne (tgt := 117) hx hb dX5_readLet_112 (by decide) (fun q => ?_) (fun q => ?_)
      · have h := zi_f q h
        refine lv_aload_n hx hb dX5_readLet_117 rfl (lv_at hl 0 rfl) ?_
        refine zgX5_1 hx hb hf hown P0 Z L29 dX5_readLet_118 ?_
        refine lv_iload_n hx hb dX5_readLet_121 rfl (lv_at hl 3 rfl) ?_
        refine lv_iload hx hb dX5_readLet_122 (lv_at hl 4 rfl) ?_
        refine lv_iload_n hx hb dX5_readLet_124 rfl (lv_at hl 2 rfl) ?_
        obtain ⟨r19, S20, ec, h⟩ := zbd_s h
        refine zc_Vv hY P0 ⟨hx, hb, hml, hown, hT⟩ (As := [.int x3, .int x4, .int x2]) (rest := []) (kX4_settlePointers l hO x3 x4 x2 S18 r19 S20 ec) (cwV 3 hT (zgV mL_X5_135 mI_X4_settlePointers mS_X4_settlePointers mN_X4 mC_X4_settlePointers) rfl rfl rfl hdnX4_settlePointers ⟨(by omega : 1 + 1 ≤ F + 5), (by omega : 8 + (4 + 11) + (20) ≤ G + 107)⟩) (zrecX_2 P0 Z) Z rfl hl.1 rfl (Nat.le_of_ble_eq_true rfl) dX5_readLet_125 (fun H locs Z => ?_)
        refine lv_aload_n hx hb dX5_readLet_128 rfl (lv_at hl 0 rfl) ?_
        refine lv_iload_n hx hb dX5_readLet_129 rfl (lv_at hl 1 rfl) ?_
        refine lv_iconst (v := (nI 1)) hx hb dX5_readLet_130 (by decide) ?_
        refine lv_iadd hx hb dX5_readLet_131 ?_
        obtain ⟨r21, S22, ec, h⟩ := zbd_s h
        refine zc_Vi hY P0 ⟨hx, hb, hml, hown, hT⟩ (As := [.int (x1 + (nI 1))]) (rest := []) (hE (x1 + (nI 1)) S20 r21 S22 ec) (cwV 1 hT (zgV mL_X5_107 mI_X5_readExpr mS_X5_readExpr mN_X5 mC_X5_readExpr) rfl rfl rfl hdnX5_readExpr ⟨(by omega : F + 1 ≤ F + 5), (by omega : 8 + (2 + 11) + (G) ≤ G + 107)⟩) (zrecX_3 P0 Z) Z rfl hl.1 rfl (Nat.le_of_ble_eq_true rfl) dX5_readLet_132 (fun H locs Z => ?_)
        refine lv_if_ne (tgt := 140) hx hb dX5_readLet_135 (by decide) (fun q => ?_) (fun q => ?_)
        · have h := zi_f q h
          refine lv_iload_n hx hb dX5_readLet_140 rfl (lv_at hl 2 rfl) ?_
          refine lv_istore (lv' := [(6, .int x2), (0, .ref (zad g 3)), (1, .int x1), (2, .int x2), (3, .int x3), (4, .int x4), (5, .int x5)]) hx hb dX5_readLet_141 hl (by decide) rfl (fun ls hl => ?_)
          exact B143 zFU x2 x3 x4 x2 S22 h _ _ Z ls (lv_sub hl [1, 3, 4, 5, 0] rfl)
        · have h := zi_t q h
          refine lv_iconst (v := (nI 0)) hx hb dX5_readLet_138 (by decide) ?_
          exact zr_z hY P0 hx hb hr hlocks (by decide) h Z dX5_readLet_139
      · have h := zi_t q h
        refine lv_iconst (v := (nI 0)) hx hb dX5_readLet_115 (by decide) ?_
        exact zr_z hY P0 hx hb hr hlocks (by decide) h Z dX5_readLet_116
  have B64 : ∀ (n : Nat) (x1 : Int32) (x2 : Int32) (x3 : Int32) (x4 : Int32) (x5 : Int32) (S : zSt), fX5_readLet_64L oE n (x1, x2, x3, x4, x5, S) = some (r, S') → ∀ (H : Heap) (locs : List Loc), zZ (zYX g) S s H locs → ∀ ls : Array Slot, lv_has ls 7 [(0, .ref (zad g 3)), (1, .int x1), (2, .int x2), (3, .int x3), (4, .int x4), (5, .int x5)] → W p l e (headSpec vX5_readLet { frames := F + 5, cells := 0, slots := 0, locals := G + 107 }).room s m ([.ref (zad g 3), .int a1] : List Value).toArray below meth c H locs 0 0 (MQ below (zQi (zYX g) r S') ([.ref (zad g 3), .int a1] : List Value).toArray s 0 0 (zYX g).2.2.1) (F0 m 64 ls []) := by
    intro n
    induction n with
    | zero => intro x1 x2 x3 x4 x5 S h; exact absurd h (fun h => nomatch h)
    | succ n K64 =>
      intro x1 x2 x3 x4 x5 S h H locs Z ls hl
      have h : fX5_readLet_64 oE (fX5_readLet_64L oE n) x1 x2 x3 x4 x5 S = some (r, S') := h
      unfold fX5_readLet_64 at h
      refine lv_iload hx hb dX5_readLet_64 (lv_at hl 5 rfl) ?_
      refine lv_if_eq (tgt := 102) hx hb dX5_readLet_66 (by decide) (fun q => ?_) (fun q => ?_)
      · have h := zi_t q h
        exact B102 x1 x2 x3 x4 x5 S h _ _ Z ls (lv_sub hl [0, 1, 2, 3, 4, 5] rfl)
      · have h := zi_f q h
        refine lv_iload hx hb dX5_readLet_69 (lv_at hl 4 rfl) ?_
        refine lv_bipush (v := (nI 6)) hx hb dX5_readLet_71 (by decide) ?_
        refine lv_icmp_gt (tgt := 102) hx hb dX5_readLet_73 (by decide) (fun q => ?_) (fun q => ?_)
        · have h := zi_t q h
          exact B102 x1 x2 x3 x4 x5 S h _ _ Z ls (lv_sub hl [0, 1, 2, 3, 4, 5] rfl)
        · have h := zi_f q h
          refine lv_aload_n hx hb dX5_readLet_76 rfl (lv_at hl 0 rfl) ?_
          refine zgX5_0 hx hb hf hown P0 Z L25 dX5_readLet_77 ?_
          obtain ⟨r13, S14, ec, h⟩ := zbd_s h
          refine zc_Vi hY P0 ⟨hx, hb, hml, hown, hT⟩ (As := []) (rest := []) (kX8_kind l hO  S r13 S14 ec) (cwV 0 hT (zgV mL_X5_47 mI_X8_kind mS_X8_kind mN_X8 mC_X8_kind) rfl rfl rfl hdnX8_kind ⟨(by omega : 0 + 1 ≤ F + 5), (by omega : 8 + (1 + 11) + (0) ≤ G + 107)⟩) (zrecX_4 P0 Z) Z rfl hl.1 rfl (Nat.le_of_ble_eq_true rfl) dX5_readLet_80 (fun H locs Z => ?_)
          refine lv_iconst (v := (nI 5)) hx hb dX5_readLet_83 (by decide) ?_
          refine lv_icmp_eq (tgt := 102) hx hb dX5_readLet_84 (by decide) (fun q => ?_) (fun q => ?_)
          · have h := zi_t q h
            exact B102 x1 x2 x3 x4 x5 S14 h _ _ Z ls (lv_sub hl [0, 1, 2, 3, 4, 5] rfl)
          · have h := zi_f q h
            refine lv_aload_n hx hb dX5_readLet_87 rfl (lv_at hl 0 rfl) ?_
            refine lv_iload_n hx hb dX5_readLet_88 rfl (lv_at hl 1 rfl) ?_
            refine lv_iload hx hb dX5_readLet_89 (lv_at hl 4 rfl) ?_
            obtain ⟨r15, S16, ec, h⟩ := zbd_s h
            refine zc_Vi hY P0 ⟨hx, hb, hml, hown, hT⟩ (As := [.int x1, .int x4]) (rest := []) (kX5_readBinding l hO oE F G hE x1 x4 S14 r15 S16 ec) (cwV 2 hT (zgV mL_X5_132 mI_X5_readBinding mS_X5_readBinding mN_X5 mC_X5_readBinding) rfl rfl rfl hdnX5_readBinding ⟨(by omega : F + 4 + 1 ≤ F + 5), (by omega : 8 + (5 + 11) + (G + 83) ≤ G + 107)⟩) (zrecX_3 P0 Z) Z rfl hl.1 rfl (Nat.le_of_ble_eq_true rfl) dX5_readLet_91 (fun H locs Z => ?_)
            refine lv_istore (lv' := [(5, .int r15), (0, .ref (zad g 3)), (1, .int x1), (2, .int x2), (3, .int x3), (4, .int x4)]) hx hb dX5_readLet_94 hl (by decide) rfl (fun ls hl => ?_)
            refine lv_iinc (v := (x4 + (nI 1))) (lv' := [(4, .int (x4 + (nI 1))), (5, .int r15), (0, .ref (zad g 3)), (1, .int x1), (2, .int x2), (3, .int x3)]) hx hb dX5_readLet_96 hl (k := 5) rfl rfl (by decide) rfl (fun ls hl => ?_)
            refine lv_goto (tgt := 64) hx hb dX5_readLet_99 (by decide) ?_
            exact K64 x1 x2 x3 (x4 + (nI 1)) r15 S16 h _ _ Z ls (lv_sub hl [2, 3, 4, 5, 0, 1] rfl)
  have hl := lv_entry ([.ref (zad g 3), .int a1] : List Value) (n := 7) (Nat.le_of_ble_eq_true rfl)
  rw [lg_entry_eq]
  generalize (lg_sl ([.ref (zad g 3), .int a1] : List Value) ++ List.replicate (7 - (lg_sl ([.ref (zad g 3), .int a1] : List Value)).length) Slot.unset).toArray = ls at hl ⊢
  have hl : lv_has ls 7 [(0, .ref (zad g 3)), (1, .int a1)] := hl
  unfold fX5_readLet at h
  refine lv_iload_n hx hb dX5_readLet_0 rfl (lv_at hl 1 rfl) ?_
  refine lv_bipush (v := (nI 12)) hx hb dX5_readLet_1 (by decide) ?_
  refine lv_icmp_lt (tgt := 19) hx hb dX5_readLet_3 (by decide) (fun q => ?_) (fun q => ?_)
  · have h := zi_t q h
    refine lv_aload_n hx hb dX5_readLet_19 rfl (lv_at hl 0 rfl) ?_
    refine zgX5_0 hx hb hf hown P0 Z L25 dX5_readLet_20 ?_
    obtain ⟨r1, S2, ec, h⟩ := zbd_s h
    refine zc_Vv hY P0 ⟨hx, hb, hml, hown, hT⟩ (As := []) (rest := []) (kX8_advance l hO  S r1 S2 ec) (cwV 0 hT (zgV mL_X5_94 mI_X8_advance mS_X8_advance mN_X8 mC_X8_advance) rfl rfl rfl hdnX8_advance ⟨(by omega : 2 + 1 ≤ F + 5), (by omega : 8 + (2 + 11) + (41) ≤ G + 107)⟩) (zrecX_4 P0 Z) Z rfl hl.1 rfl (Nat.le_of_ble_eq_true rfl) dX5_readLet_23 (fun H locs Z => ?_)
    refine lv_iload_n hx hb dX5_readLet_26 rfl (lv_at hl 1 rfl) ?_
    refine lv_bipush (v := (nI 6)) hx hb dX5_readLet_27 (by decide) ?_
    refine lv_imul hx hb dX5_readLet_29 ?_
    refine lv_istore_n (lv' := [(2, .int (a1 * (nI 6))), (0, .ref (zad g 3)), (1, .int a1)]) hx hb dX5_readLet_30 rfl hl (by decide) rfl (fun ls hl => ?_)
    refine lv_aload_n hx hb dX5_readLet_31 rfl (lv_at hl 1 rfl) ?_
    refine zgX5_1 hx hb hf hown P0 Z L29 dX5_readLet_32 ?_
    obtain ⟨r3, S4, ec, h⟩ := zbd_s h
    refine zc_Vi hY P0 ⟨hx, hb, hml, hown, hT⟩ (As := []) (rest := []) (kX4_deedCount l hO  S2 r3 S4 ec) (cwV 0 hT (zgV mL_X5_97 mI_X4_deedCount mS_X4_deedCount mN_X4 mC_X4_deedCount) rfl rfl rfl hdnX4_deedCount ⟨(by omega : 0 + 1 ≤ F + 5), (by omega : 8 + (1 + 11) + (0) ≤ G + 107)⟩) (zrecX_2 P0 Z) Z rfl hl.1 rfl (Nat.le_of_ble_eq_true rfl) dX5_readLet_35 (fun H locs Z => ?_)
    refine lv_istore_n (lv' := [(3, .int r3), (2, .int (a1 * (nI 6))), (0, .ref (zad g 3)), (1, .int a1)]) hx hb dX5_readLet_38 rfl hl (by decide) rfl (fun ls hl => ?_)
    refine lv_aload_n hx hb dX5_readLet_39 rfl (lv_at hl 2 rfl) ?_
    refine zgX5_1 hx hb hf hown P0 Z L29 dX5_readLet_40 ?_
    refine lv_bipush (v := (nI 6)) hx hb dX5_readLet_43 (by decide) ?_
    refine lv_iconst (v := (nI 0)) hx hb dX5_readLet_45 (by decide) ?_
    obtain ⟨r5, S6, ec, h⟩ := zbd_s h
    refine zc_Vv hY P0 ⟨hx, hb, hml, hown, hT⟩ (As := [.int (nI 6), .int (nI 0)]) (rest := []) (kX4_addDeed l hO (nI 6) (nI 0) S4 r5 S6 ec) (cwV 2 hT (zgV mL_X5_128 mI_X4_addDeed mS_X4_addDeed mN_X4 mC_X4_addDeed) rfl rfl rfl hdnX4_addDeed ⟨(by omega : 1 + 1 ≤ F + 5), (by omega : 8 + (3 + 11) + (25) ≤ G + 107)⟩) (zrecX_2 P0 Z) Z rfl hl.1 rfl (Nat.le_of_ble_eq_true rfl) dX5_readLet_46 (fun H locs Z => ?_)
    refine lv_iconst (v := (nI 0)) hx hb dX5_readLet_49 (by decide) ?_
    refine lv_istore (lv' := [(4, .int (nI 0)), (3, .int r3), (2, .int (a1 * (nI 6))), (0, .ref (zad g 3)), (1, .int a1)]) hx hb dX5_readLet_50 hl (by decide) rfl (fun ls hl => ?_)
    refine lv_aload_n hx hb dX5_readLet_52 rfl (lv_at hl 3 rfl) ?_
    refine lv_iload_n hx hb dX5_readLet_53 rfl (lv_at hl 4 rfl) ?_
    refine lv_iload hx hb dX5_readLet_54 (lv_at hl 0 rfl) ?_
    obtain ⟨r7, S8, ec, h⟩ := zbd_s h
    refine zc_Vi hY P0 ⟨hx, hb, hml, hown, hT⟩ (As := [.int a1, .int (nI 0)]) (rest := []) (kX5_readBinding l hO oE F G hE a1 (nI 0) S6 r7 S8 ec) (cwV 2 hT (zgV mL_X5_132 mI_X5_readBinding mS_X5_readBinding mN_X5 mC_X5_readBinding) rfl rfl rfl hdnX5_readBinding ⟨(by omega : F + 4 + 1 ≤ F + 5), (by omega : 8 + (5 + 11) + (G + 83) ≤ G + 107)⟩) (zrecX_3 P0 Z) Z rfl hl.1 rfl (Nat.le_of_ble_eq_true rfl) dX5_readLet_56 (fun H locs Z => ?_)
    refine lv_istore (lv' := [(5, .int r7), (4, .int (nI 0)), (3, .int r3), (2, .int (a1 * (nI 6))), (0, .ref (zad g 3)), (1, .int a1)]) hx hb dX5_readLet_59 hl (by decide) rfl (fun ls hl => ?_)
    refine lv_iconst (v := (nI 1)) hx hb dX5_readLet_61 (by decide) ?_
    refine lv_istore (lv' := [(4, .int (nI 1)), (5, .int r7), (3, .int r3), (2, .int (a1 * (nI 6))), (0, .ref (zad g 3)), (1, .int a1)]) hx hb dX5_readLet_62 hl (by decide) rfl (fun ls hl => ?_)
    exact B64 zFU a1 (a1 * (nI 6)) r3 (nI 1) r7 S8 h _ _ Z ls (lv_sub hl [4, 5, 3, 2, 0, 1] rfl)
  · have h := zi_f q h
    refine lv_aload_n hx hb dX5_readLet_6 rfl (lv_at hl 0 rfl) ?_
    refine lv_iconst (v := (nI 3)) hx hb dX5_readLet_7 (by decide) ?_
    refine lv_aload_n hx hb dX5_readLet_8 rfl (lv_at hl 0 rfl) ?_
    refine zgX5_0 hx hb hf hown P0 Z L25 dX5_readLet_9 ?_
    obtain ⟨r9, S10, ec, h⟩ := zbd_s h
    refine zc_Vi hY P0 ⟨hx, hb, hml, hown, hT⟩ (As := []) (rest := [.int (nI 3), .ref (zad g 3)]) (kX8_place l hO  S r9 S10 ec) (cwV 0 hT (zgV mL_X5_83 mI_X8_place mS_X8_place mN_X8 mC_X8_place) rfl rfl rfl hdnX8_place ⟨(by omega : 0 + 1 ≤ F + 5), (by omega : 8 + (1 + 11) + (0) ≤ G + 107)⟩) (zrecX_4 P0 Z) Z rfl hl.1 rfl (Nat.le_of_ble_eq_true rfl) dX5_readLet_12 (fun H locs Z => ?_)
    obtain ⟨r11, S12, ec, h⟩ := zbd_s h
    refine zc_Vi hY P0 ⟨hx, hb, hml, hown, hT⟩ (As := [.int (nI 3), .int r9]) (rest := []) (kX5_fail l hO (nI 3) r9 S10 r11 S12 ec) (cwV 2 hT (zgV mL_X5_66 mI_X5_fail mS_X5_fail mN_X5 mC_X5_fail) rfl rfl rfl hdnX5_fail ⟨(by omega : 0 + 1 ≤ F + 5), (by omega : 8 + (3 + 11) + (0) ≤ G + 107)⟩) (zrecX_3 P0 Z) Z rfl hl.1 rfl (Nat.le_of_ble_eq_true rfl) dX5_readLet_15 (fun H locs Z => ?_)
    obtain ⟨hn, h⟩ := zbo_s h
    exact zr_z hY P0 hx hb hr hlocks hn h Z dX5_readLet_18

set_option maxHeartbeats 4000000 in
set_option maxRecDepth 100000 in
theorem kX5_readExpr {g : zG} (l : Launch) (hO : zinjX g) (oE : Int32 → zSt → Option (Int32 × zSt)) (F G : Nat) (hE : ∀ (x1 : Int32) (S : zSt) (r : Int32) (S' : zSt), oE x1 S = some (r, S') → zMi (zYX g) l yX5_readExpr vX5_readExpr { frames := F, cells := 0, slots := 0, locals := G } ([.ref (zad g 3), .int x1] : List Value) S r S') (a1 : Int32) (S : zSt) (r : Int32) (S' : zSt) (h : fX5_readExpr oE a1 S = some (r, S')) : zMi (zYX g) l yX5_readExpr vX5_readExpr { frames := F + 7, cells := 0, slots := 0, locals := G + 147 } ([.ref (zad g 3), .int a1] : List Value) S r S' := by
  have hY := zOkX hO
  refine Met.ofW (cc := cX5_readExpr) (maxL := 2) (ret := (some .boolean)) (by decide) rfl ?_
  intro p e s m args below meth c s₁ B hml hv
  obtain ⟨rfl, hP⟩ := hv
  have hx := B.exec
  have hb := B.bytes
  have hr := B.returns
  have hts := atoms_spec (ws := vX5_readExpr) B.pre
  have hT : ∀ w ∈ zTB, w.before ([.ref (zad g 3), .int a1] : List Value).toArray s = true := fun w h => hts w (List.mem_cons_of_mem _ h)
  have hown : s.vm.findClass RX5 = some m.cls := findClass_of_methodNamed B.named
  have hlocks := B.notSynchronized
  have P0 := hP.2
  have Z : zZ (zYX g) S s s.heap [] := ⟨hP.1, va_S.rf⟩
  have hf : ∀ w ∈ u_ws RX5 TX5 6, w.before ([.ref (zad g 3), .int a1] : List Value).toArray s = true := fun w hw => hT w (mU_X5 w hw)
  have L25 := hT _ mF_X5_25
  have hl := lv_entry ([.ref (zad g 3), .int a1] : List Value) (n := 2) (Nat.le_of_ble_eq_true rfl)
  rw [lg_entry_eq]
  generalize (lg_sl ([.ref (zad g 3), .int a1] : List Value) ++ List.replicate (2 - (lg_sl ([.ref (zad g 3), .int a1] : List Value)).length) Slot.unset).toArray = ls at hl ⊢
  have hl : lv_has ls 2 [(0, .ref (zad g 3)), (1, .int a1)] := hl
  unfold fX5_readExpr at h
  refine lv_aload_n hx hb dX5_readExpr_0 rfl (lv_at hl 0 rfl) ?_
  refine zgX5_0 hx hb hf hown P0 Z L25 dX5_readExpr_1 ?_
  obtain ⟨r1, S2, ec, h⟩ := zbd_s h
  refine zc_Vi hY P0 ⟨hx, hb, hml, hown, hT⟩ (As := []) (rest := []) (kX8_kind l hO  S r1 S2 ec) (cwV 0 hT (zgV mL_X5_47 mI_X8_kind mS_X8_kind mN_X8 mC_X8_kind) rfl rfl rfl hdnX8_kind ⟨(by omega : 0 + 1 ≤ F + 7), (by omega : 8 + (1 + 11) + (0) ≤ G + 147)⟩) (zrecX_4 P0 Z) Z rfl hl.1 rfl (Nat.le_of_ble_eq_true rfl) dX5_readExpr_4 (fun H locs Z => ?_)
  refine lv_iconst (v := (nI 4)) hx hb dX5_readExpr_7 (by decide) ?_
  refine lv_icmp_ne (tgt := 19) hx hb dX5_readExpr_8 (by decide) (fun q => ?_) (fun q => ?_)
  · have h := zi_f q h
    refine lv_aload_n hx hb dX5_readExpr_19 rfl (lv_at hl 0 rfl) ?_
    refine lv_iload_n hx hb dX5_readExpr_20 rfl (lv_at hl 1 rfl) ?_
    obtain ⟨r3, S4, ec, h⟩ := zbd_s h
    refine zc_Vi hY P0 ⟨hx, hb, hml, hown, hT⟩ (As := [.int a1]) (rest := []) (kX5_readAtoms l hO oE F G hE a1 S2 r3 S4 ec) (cwV 1 hT (zgV mL_X5_125 mI_X5_readAtoms mS_X5_readAtoms mN_X5 mC_X5_readAtoms) rfl rfl rfl hdnX5_readAtoms ⟨(by omega : F + 6 + 1 ≤ F + 7), (by omega : 8 + (3 + 11) + (G + 125) ≤ G + 147)⟩) (zrecX_3 P0 Z) Z rfl hl.1 rfl (Nat.le_of_ble_eq_true rfl) dX5_readExpr_21 (fun H locs Z => ?_)
    obtain ⟨hn, h⟩ := zbo_s h
    exact zr_z hY P0 hx hb hr hlocks hn h Z dX5_readExpr_24
  · have h := zi_t q h
    refine lv_aload_n hx hb dX5_readExpr_11 rfl (lv_at hl 0 rfl) ?_
    refine lv_iload_n hx hb dX5_readExpr_12 rfl (lv_at hl 1 rfl) ?_
    obtain ⟨r5, S6, ec, h⟩ := zbd_s h
    refine zc_Vi hY P0 ⟨hx, hb, hml, hown, hT⟩ (As := [.int a1]) (rest := []) (kX5_readLet l hO oE F G hE a1 S2 r5 S6 ec) (cwV 1 hT (zgV mL_X5_122 mI_X5_readLet mS_X5_readLet mN_X5 mC_X5_readLet) rfl rfl rfl hdnX5_readLet ⟨(by omega : F + 5 + 1 ≤ F + 7), (by omega : 8 + (7 + 11) + (G + 107) ≤ G + 147)⟩) (zrecX_3 P0 Z) Z rfl hl.1 rfl (Nat.le_of_ble_eq_true rfl) dX5_readExpr_13 (fun H locs Z => ?_)
    refine lv_goto (tgt := 24) hx hb dX5_readExpr_16 (by decide) ?_
    obtain ⟨hn, h⟩ := zbo_s h
    exact zr_z hY P0 hx hb hr hlocks hn h Z dX5_readExpr_24

theorem kX5_E {g : zG} (l : Launch) (hO : zinjX g) : ∀ (d : Nat) (a1 : Int32) (S : zSt) (r : Int32) (S' : zSt), fX5_E d a1 S = some (r, S') → zMi (zYX g) l yX5_readExpr vX5_readExpr { frames := 7 * d, cells := 0, slots := 0, locals := 147 * d } ([.ref (zad g 3), .int a1] : List Value) S r S' := by
  intro d
  induction d with
  | zero => intro a1 S r S' h; exact absurd h (fun h => nomatch h)
  | succ d ih => intro a1 S r S' h; exact kX5_readExpr l hO (fX5_E d) (7 * d) (147 * d) ih a1 S r S' h

set_option maxHeartbeats 4000000 in
set_option maxRecDepth 100000 in
theorem kX5_has_22 {g : zG} (l : Launch) (hO : zinjX g) (a1 : Int32) (a2 : Int32) (a3 : Int64) (S : zSt) (r : Int32) (S' : zSt) (h : fX5_has_22 a1 a2 a3 S = some (r, S')) : zMi (zYX g) l yX5_has vX5_has { frames := 0, cells := 0, slots := 0, locals := 0 } ([.ref (zad g 22), .int a1, .int a2, .long a3] : List Value) S r S' := by
  have hY := zOkX hO
  refine Met.ofW (cc := cX5_has) (maxL := 6) (ret := (some .boolean)) (by decide) rfl ?_
  intro p e s m args below meth c s₁ B hml hv
  obtain ⟨rfl, hP⟩ := hv
  have hx := B.exec
  have hb := B.bytes
  have hr := B.returns
  have hts := atoms_spec (ws := vX5_has) B.pre
  have hT : ∀ w ∈ zTB, w.before ([.ref (zad g 22), .int a1, .int a2, .long a3] : List Value).toArray s = true := fun w h => hts w (List.mem_cons_of_mem _ h)
  have hown : s.vm.findClass RX5 = some m.cls := findClass_of_methodNamed B.named
  have hlocks := B.notSynchronized
  have P0 := hP.2
  have Z : zZ (zYX g) S s s.heap [] := ⟨hP.1, va_S.rf⟩
  have B11 : ∀ (n : Nat) (x2 : Int32) (x3 : Int64) (x5 : Int32) (S : zSt), fX5_has_22_11L n (x2, x3, x5, S) = some (r, S') → ∀ (H : Heap) (locs : List Loc), zZ (zYX g) S s H locs → ∀ ls : Array Slot, lv_has ls 6 [(0, .ref (zad g 22)), (2, .int x2), (3, .long x3), (5, .int x5)] → W p l e (headSpec vX5_has { frames := 0, cells := 0, slots := 0, locals := 0 }).room s m ([.ref (zad g 22), .int a1, .int a2, .long a3] : List Value).toArray below meth c H locs 0 0 (MQ below (zQi (zYX g) r S') ([.ref (zad g 22), .int a1, .int a2, .long a3] : List Value).toArray s 0 0 (zYX g).2.2.1) (F0 m 11 ls []) := by
    intro n
    induction n with
    | zero => intro x2 x3 x5 S h; exact absurd h (fun h => nomatch h)
    | succ n K11 =>
      intro x2 x3 x5 S h H locs Z ls hl
      have h : fX5_has_22_11 (fX5_has_22_11L n) x2 x3 x5 S = some (r, S') := h
      unfold fX5_has_22_11 at h
      refine lv_iload hx hb dX5_has_11 (lv_at hl 3 rfl) ?_
      refine lv_iload_n hx hb dX5_has_13 rfl (lv_at hl 1 rfl) ?_
      refine lv_icmp_ge (tgt := 41) hx hb dX5_has_14 (by decide) (fun q => ?_) (fun q => ?_)
      · have h := zi_t q h
        refine lv_iconst (v := (nI 0)) hx hb dX5_has_41 (by decide) ?_
        exact zr_z hY P0 hx hb hr hlocks (by decide) h Z dX5_has_42
      · have h := zi_f q h
        refine lv_iload hx hb dX5_has_17 (lv_at hl 3 rfl) ?_
        refine lv_aload_n hx hb dX5_has_19 rfl (lv_at hl 0 rfl) ?_
        refine zaX_22 hx hb P0 Z dX5_has_20 ?_
        refine lv_icmp_ge (tgt := 41) hx hb dX5_has_21 (by decide) (fun q => ?_) (fun q => ?_)
        · have h := zi_t q h
          refine lv_iconst (v := (nI 0)) hx hb dX5_has_41 (by decide) ?_
          exact zr_z hY P0 hx hb hr hlocks (by decide) h Z dX5_has_42
        · have h := zi_f q h
          refine lv_aload_n hx hb dX5_has_24 rfl (lv_at hl 0 rfl) ?_
          refine lv_iload hx hb dX5_has_25 (lv_at hl 3 rfl) ?_
          obtain ⟨v1, ev, hin, h⟩ := zld_s h
          refine zlX_22 hx hb P0 Z ev hin dX5_has_27 ?_
          refine lv_lload_n hx hb dX5_has_28 rfl (lv_at hl 2 rfl) ?_
          refine W.lcmp hx hb dX5_has_29 ?_
          refine lv_if_ne (tgt := 35) hx hb dX5_has_30 (by decide) (fun q => ?_) (fun q => ?_)
          · have h := zi_f q h
            refine lv_iinc (v := (x5 + (nI 1))) (lv' := [(5, .int (x5 + (nI 1))), (0, .ref (zad g 22)), (2, .int x2), (3, .long x3)]) hx hb dX5_has_35 hl (k := 3) rfl rfl (by decide) rfl (fun ls hl => ?_)
            refine lv_goto (tgt := 11) hx hb dX5_has_38 (by decide) ?_
            exact K11 x2 x3 (x5 + (nI 1)) S h _ _ Z ls (lv_sub hl [1, 2, 3, 0] rfl)
          · have h := zi_t q h
            refine lv_iconst (v := (nI 1)) hx hb dX5_has_33 (by decide) ?_
            exact zr_z hY P0 hx hb hr hlocks (by decide) h Z dX5_has_34
  have hl := lv_entry ([.ref (zad g 22), .int a1, .int a2, .long a3] : List Value) (n := 6) (Nat.le_of_ble_eq_true rfl)
  rw [lg_entry_eq]
  generalize (lg_sl ([.ref (zad g 22), .int a1, .int a2, .long a3] : List Value) ++ List.replicate (6 - (lg_sl ([.ref (zad g 22), .int a1, .int a2, .long a3] : List Value)).length) Slot.unset).toArray = ls at hl ⊢
  have hl : lv_has ls 6 [(0, .ref (zad g 22)), (1, .int a1), (2, .int a2), (3, .long a3)] := hl
  unfold fX5_has_22 at h
  refine lv_iload_n hx hb dX5_has_0 rfl (lv_at hl 1 rfl) ?_
  refine lv_if_ge (tgt := 8) hx hb dX5_has_1 (by decide) (fun q => ?_) (fun q => ?_)
  · have h := zi_t q h
    refine lv_iload_n hx hb dX5_has_8 rfl (lv_at hl 1 rfl) ?_
    refine lv_istore (lv' := [(5, .int a1), (0, .ref (zad g 22)), (1, .int a1), (2, .int a2), (3, .long a3)]) hx hb dX5_has_9 hl (by decide) rfl (fun ls hl => ?_)
    exact B11 zFU a2 a3 a1 S h _ _ Z ls (lv_sub hl [1, 3, 4, 0] rfl)
  · have h := zi_f q h
    refine lv_iconst (v := (nI 0)) hx hb dX5_has_4 (by decide) ?_
    refine lv_goto (tgt := 9) hx hb dX5_has_5 (by decide) ?_
    refine lv_istore (lv' := [(5, .int (nI 0)), (0, .ref (zad g 22)), (1, .int a1), (2, .int a2), (3, .long a3)]) hx hb dX5_has_9 hl (by decide) rfl (fun ls hl => ?_)
    exact B11 zFU a2 a3 (nI 0) S h _ _ Z ls (lv_sub hl [1, 3, 4, 0] rfl)

set_option maxHeartbeats 4000000 in
set_option maxRecDepth 100000 in
theorem kX5_readParameters {g : zG} (l : Launch) (hO : zinjX g) (S : zSt) (r : Int32) (S' : zSt) (h : fX5_readParameters S = some (r, S')) : zMi (zYX g) l yX5_readParameters vX5_readParameters { frames := 3, cells := 0, slots := 0, locals := 62 } ([.ref (zad g 3)] : List Value) S r S' := by
  have hY := zOkX hO
  refine Met.ofW (cc := cX5_readParameters) (maxL := 2) (ret := (some .int)) (by decide) rfl ?_
  intro p e s m args below meth c s₁ B hml hv
  obtain ⟨rfl, hP⟩ := hv
  have hx := B.exec
  have hb := B.bytes
  have hr := B.returns
  have hts := atoms_spec (ws := vX5_readParameters) B.pre
  have hT : ∀ w ∈ zTB, w.before ([.ref (zad g 3)] : List Value).toArray s = true := fun w h => hts w (List.mem_cons_of_mem _ h)
  have hown : s.vm.findClass RX5 = some m.cls := findClass_of_methodNamed B.named
  have hlocks := B.notSynchronized
  have P0 := hP.2
  have Z : zZ (zYX g) S s s.heap [] := ⟨hP.1, va_S.rf⟩
  have hf : ∀ w ∈ u_ws RX5 TX5 6, w.before ([.ref (zad g 3)] : List Value).toArray s = true := fun w hw => hT w (mU_X5 w hw)
  have L25 := hT _ mF_X5_25
  have L9 := hT _ mF_X5_9
  have B2 : ∀ (n : Nat) (x1 : Int32) (S : zSt), fX5_readParameters_2L n (x1, S) = some (r, S') → ∀ (H : Heap) (locs : List Loc), zZ (zYX g) S s H locs → ∀ ls : Array Slot, lv_has ls 2 [(0, .ref (zad g 3)), (1, .int x1)] → W p l e (headSpec vX5_readParameters { frames := 3, cells := 0, slots := 0, locals := 62 }).room s m ([.ref (zad g 3)] : List Value).toArray below meth c H locs 0 0 (MQ below (zQi (zYX g) r S') ([.ref (zad g 3)] : List Value).toArray s 0 0 (zYX g).2.2.1) (F0 m 2 ls []) := by
    intro n
    induction n with
    | zero => intro x1 S h; exact absurd h (fun h => nomatch h)
    | succ n K2 =>
      intro x1 S h H locs Z ls hl
      have h : fX5_readParameters_2 (fX5_readParameters_2L n) x1 S = some (r, S') := h
      unfold fX5_readParameters_2 at h
      refine lv_iload_n hx hb dX5_readParameters_2 rfl (lv_at hl 1 rfl) ?_
      refine lv_bipush (v := (nI 8)) hx hb dX5_readParameters_3 (by decide) ?_
      refine lv_icmp_gt (tgt := 103) hx hb dX5_readParameters_5 (by decide) (fun q => ?_) (fun q => ?_)
      · have h := zi_t q h
        refine lv_iload_n hx hb dX5_readParameters_103 rfl (lv_at hl 1 rfl) ?_
        exact zr_i hY P0 hx hb hr hlocks h Z dX5_readParameters_104
      · have h := zi_f q h
        refine lv_aload_n hx hb dX5_readParameters_8 rfl (lv_at hl 0 rfl) ?_
        refine zgX5_0 hx hb hf hown P0 Z L25 dX5_readParameters_9 ?_
        obtain ⟨r1, S2, ec, h⟩ := zbd_s h
        refine zc_Vi hY P0 ⟨hx, hb, hml, hown, hT⟩ (As := []) (rest := []) (kX8_kind l hO  S r1 S2 ec) (cwV 0 hT (zgV mL_X5_47 mI_X8_kind mS_X8_kind mN_X8 mC_X8_kind) rfl rfl rfl hdnX8_kind ⟨Nat.le_of_ble_eq_true rfl, Nat.le_of_ble_eq_true rfl⟩) (zrecX_4 P0 Z) Z rfl hl.1 rfl (Nat.le_of_ble_eq_true rfl) dX5_readParameters_12 (fun H locs Z => ?_)
        refine lv_iconst (v := (nI 2)) hx hb dX5_readParameters_15 (by decide) ?_
        refine lv_icmp_ne (tgt := 103) hx hb dX5_readParameters_16 (by decide) (fun q => ?_) (fun q => ?_)
        · have h := zi_f q h
          refine lv_iload_n hx hb dX5_readParameters_103 rfl (lv_at hl 1 rfl) ?_
          exact zr_i hY P0 hx hb hr hlocks h Z dX5_readParameters_104
        · have h := zi_t q h
          refine lv_iload_n hx hb dX5_readParameters_19 rfl (lv_at hl 1 rfl) ?_
          refine lv_aload_n hx hb dX5_readParameters_20 rfl (lv_at hl 0 rfl) ?_
          refine zgX5_2 hx hb hf hown P0 Z L9 dX5_readParameters_21 ?_
          refine zaX_22 hx hb P0 Z dX5_readParameters_24 ?_
          refine lv_icmp_lt (tgt := 43) hx hb dX5_readParameters_25 (by decide) (fun q => ?_) (fun q => ?_)
          · have h := zi_t q h
            refine lv_aload_n hx hb dX5_readParameters_43 rfl (lv_at hl 0 rfl) ?_
            refine zgX5_2 hx hb hf hown P0 Z L9 dX5_readParameters_44 ?_
            refine lv_iconst (v := (nI 0)) hx hb dX5_readParameters_47 (by decide) ?_
            refine lv_iload_n hx hb dX5_readParameters_48 rfl (lv_at hl 1 rfl) ?_
            refine lv_aload_n hx hb dX5_readParameters_49 rfl (lv_at hl 0 rfl) ?_
            refine zgX5_0 hx hb hf hown P0 Z L25 dX5_readParameters_50 ?_
            obtain ⟨r3, S4, ec, h⟩ := zbd_s h
            refine zc_Vl hY P0 ⟨hx, hb, hml, hown, hT⟩ (As := []) (rest := [.int x1, .int (nI 0), .ref (zad g 22)]) (kX8_name l hO  S2 r3 S4 ec) (cwV 0 hT (zgV mL_X5_86 mI_X8_name mS_X8_name mN_X8 mC_X8_name) rfl rfl rfl hdnX8_name ⟨Nat.le_of_ble_eq_true rfl, Nat.le_of_ble_eq_true rfl⟩) (zrecX_4 P0 Z) Z rfl hl.1 rfl (Nat.le_of_ble_eq_true rfl) dX5_readParameters_53 (fun H locs Z => ?_)
            obtain ⟨r5, S6, ec, h⟩ := zbd_s h
            refine zc_Si hY P0 ⟨hx, hb, hml, hown, hT⟩ (As := [.ref (zad g 22), .int (nI 0), .int x1, .long r3]) (rest := []) (kX5_has_22 l hO (nI 0) x1 r3 S4 r5 S6 ec) (va_cwS 4 hT (zgS mL_X5_118 mT_X5_has mN_X5 mC_X5_has) rfl rfl rfl hdnX5_has ⟨Nat.le_of_ble_eq_true rfl, Nat.le_of_ble_eq_true rfl⟩) Z rfl hl.1 rfl (Nat.le_of_ble_eq_true rfl) dX5_readParameters_56 (fun H locs Z => ?_)
            refine lv_if_eq (tgt := 77) hx hb dX5_readParameters_59 (by decide) (fun q => ?_) (fun q => ?_)
            · have h := zi_t q h
              refine lv_aload_n hx hb dX5_readParameters_77 rfl (lv_at hl 0 rfl) ?_
              refine zgX5_2 hx hb hf hown P0 Z L9 dX5_readParameters_78 ?_
              refine lv_iload_n hx hb dX5_readParameters_81 rfl (lv_at hl 1 rfl) ?_
              refine lv_aload_n hx hb dX5_readParameters_82 rfl (lv_at hl 0 rfl) ?_
              refine zgX5_0 hx hb hf hown P0 Z L25 dX5_readParameters_83 ?_
              obtain ⟨r7, S8, ec, h⟩ := zbd_s h
              refine zc_Vl hY P0 ⟨hx, hb, hml, hown, hT⟩ (As := []) (rest := [.int x1, .ref (zad g 22)]) (kX8_name l hO  S6 r7 S8 ec) (cwV 0 hT (zgV mL_X5_86 mI_X8_name mS_X8_name mN_X8 mC_X8_name) rfl rfl rfl hdnX8_name ⟨Nat.le_of_ble_eq_true rfl, Nat.le_of_ble_eq_true rfl⟩) (zrecX_4 P0 Z) Z rfl hl.1 rfl (Nat.le_of_ble_eq_true rfl) dX5_readParameters_86 (fun H locs Z => ?_)
              obtain ⟨hin, h⟩ := zck_s h
              refine zsX_22 hO hx hb P0 Z hin dX5_readParameters_89 (fun H locs Z => ?_)
              refine lv_aload_n hx hb dX5_readParameters_90 rfl (lv_at hl 0 rfl) ?_
              refine zgX5_0 hx hb hf hown P0 Z L25 dX5_readParameters_91 ?_
              obtain ⟨r9, S10, ec, h⟩ := zbd_s h
              refine zc_Vv hY P0 ⟨hx, hb, hml, hown, hT⟩ (As := []) (rest := []) (kX8_advance l hO  (wB S8 22 (x1.toNatClampNeg) r7) r9 S10 ec) (cwV 0 hT (zgV mL_X5_94 mI_X8_advance mS_X8_advance mN_X8 mC_X8_advance) rfl rfl rfl hdnX8_advance ⟨Nat.le_of_ble_eq_true rfl, Nat.le_of_ble_eq_true rfl⟩) (zrecX_4 P0 Z) Z rfl hl.1 rfl (Nat.le_of_ble_eq_true rfl) dX5_readParameters_94 (fun H locs Z => ?_)
              refine lv_iinc (v := (x1 + (nI 1))) (lv' := [(1, .int (x1 + (nI 1))), (0, .ref (zad g 3))]) hx hb dX5_readParameters_97 hl (k := 1) rfl rfl (by decide) rfl (fun ls hl => ?_)
              refine lv_goto (tgt := 2) hx hb dX5_readParameters_100 (by decide) ?_
              exact K2 (x1 + (nI 1)) S10 h _ _ Z ls (lv_sub hl [1, 0] rfl)
            · have h := zi_f q h
              refine lv_aload_n hx hb dX5_readParameters_62 rfl (lv_at hl 0 rfl) ?_
              refine lv_iconst (v := (nI 4)) hx hb dX5_readParameters_63 (by decide) ?_
              refine lv_aload_n hx hb dX5_readParameters_64 rfl (lv_at hl 0 rfl) ?_
              refine zgX5_0 hx hb hf hown P0 Z L25 dX5_readParameters_65 ?_
              obtain ⟨r11, S12, ec, h⟩ := zbd_s h
              refine zc_Vi hY P0 ⟨hx, hb, hml, hown, hT⟩ (As := []) (rest := [.int (nI 4), .ref (zad g 3)]) (kX8_place l hO  S6 r11 S12 ec) (cwV 0 hT (zgV mL_X5_83 mI_X8_place mS_X8_place mN_X8 mC_X8_place) rfl rfl rfl hdnX8_place ⟨Nat.le_of_ble_eq_true rfl, Nat.le_of_ble_eq_true rfl⟩) (zrecX_4 P0 Z) Z rfl hl.1 rfl (Nat.le_of_ble_eq_true rfl) dX5_readParameters_68 (fun H locs Z => ?_)
              obtain ⟨r13, S14, ec, h⟩ := zbd_s h
              refine zc_Vi hY P0 ⟨hx, hb, hml, hown, hT⟩ (As := [.int (nI 4), .int r11]) (rest := []) (kX5_fail l hO (nI 4) r11 S12 r13 S14 ec) (cwV 2 hT (zgV mL_X5_66 mI_X5_fail mS_X5_fail mN_X5 mC_X5_fail) rfl rfl rfl hdnX5_fail ⟨Nat.le_of_ble_eq_true rfl, Nat.le_of_ble_eq_true rfl⟩) (zrecX_3 P0 Z) Z rfl hl.1 rfl (Nat.le_of_ble_eq_true rfl) dX5_readParameters_71 (fun H locs Z => ?_)
              refine lv_pop hx hb dX5_readParameters_74 rfl ?_
              refine lv_iconst (v := (-1 : Int32)) hx hb dX5_readParameters_75 (by decide) ?_
              exact zr_i hY P0 hx hb hr hlocks h Z dX5_readParameters_76
          · have h := zi_f q h
            refine lv_aload_n hx hb dX5_readParameters_28 rfl (lv_at hl 0 rfl) ?_
            refine lv_iconst (v := (nI 3)) hx hb dX5_readParameters_29 (by decide) ?_
            refine lv_aload_n hx hb dX5_readParameters_30 rfl (lv_at hl 0 rfl) ?_
            refine zgX5_0 hx hb hf hown P0 Z L25 dX5_readParameters_31 ?_
            obtain ⟨r15, S16, ec, h⟩ := zbd_s h
            refine zc_Vi hY P0 ⟨hx, hb, hml, hown, hT⟩ (As := []) (rest := [.int (nI 3), .ref (zad g 3)]) (kX8_place l hO  S2 r15 S16 ec) (cwV 0 hT (zgV mL_X5_83 mI_X8_place mS_X8_place mN_X8 mC_X8_place) rfl rfl rfl hdnX8_place ⟨Nat.le_of_ble_eq_true rfl, Nat.le_of_ble_eq_true rfl⟩) (zrecX_4 P0 Z) Z rfl hl.1 rfl (Nat.le_of_ble_eq_true rfl) dX5_readParameters_34 (fun H locs Z => ?_)
            obtain ⟨r17, S18, ec, h⟩ := zbd_s h
            refine zc_Vi hY P0 ⟨hx, hb, hml, hown, hT⟩ (As := [.int (nI 3), .int r15]) (rest := []) (kX5_fail l hO (nI 3) r15 S16 r17 S18 ec) (cwV 2 hT (zgV mL_X5_66 mI_X5_fail mS_X5_fail mN_X5 mC_X5_fail) rfl rfl rfl hdnX5_fail ⟨Nat.le_of_ble_eq_true rfl, Nat.le_of_ble_eq_true rfl⟩) (zrecX_3 P0 Z) Z rfl hl.1 rfl (Nat.le_of_ble_eq_true rfl) dX5_readParameters_37 (fun H locs Z => ?_)
            refine lv_pop hx hb dX5_readParameters_40 rfl ?_
            refine lv_iconst (v := (-1 : Int32)) hx hb dX5_readParameters_41 (by decide) ?_
            exact zr_i hY P0 hx hb hr hlocks h Z dX5_readParameters_42
  have hl := lv_entry ([.ref (zad g 3)] : List Value) (n := 2) (Nat.le_of_ble_eq_true rfl)
  rw [lg_entry_eq]
  generalize (lg_sl ([.ref (zad g 3)] : List Value) ++ List.replicate (2 - (lg_sl ([.ref (zad g 3)] : List Value)).length) Slot.unset).toArray = ls at hl ⊢
  have hl : lv_has ls 2 [(0, .ref (zad g 3))] := hl
  unfold fX5_readParameters at h
  refine lv_iconst (v := (nI 0)) hx hb dX5_readParameters_0 (by decide) ?_
  refine lv_istore_n (lv' := [(1, .int (nI 0)), (0, .ref (zad g 3))]) hx hb dX5_readParameters_1 rfl hl (by decide) rfl (fun ls hl => ?_)
  exact B2 zFU (nI 0) S h _ _ Z ls (lv_sub hl [1, 0] rfl)

set_option maxHeartbeats 4000000 in
set_option maxRecDepth 100000 in
theorem kX5_readDefinition {g : zG} (l : Launch) (hO : zinjX g) (S : zSt) (r : Int32) (S' : zSt) (h : fX5_readDefinition S = some (r, S')) : zMi (zYX g) l yX5_readDefinition vX5_readDefinition { frames := 141, cells := 0, slots := 0, locals := 2961 } ([.ref (zad g 3)] : List Value) S r S' := by
  have hY := zOkX hO
  refine Met.ofW (cc := cX5_readDefinition) (maxL := 4) (ret := (some .boolean)) (by decide) rfl ?_
  intro p e s m args below meth c s₁ B hml hv
  obtain ⟨rfl, hP⟩ := hv
  have hx := B.exec
  have hb := B.bytes
  have hr := B.returns
  have hts := atoms_spec (ws := vX5_readDefinition) B.pre
  have hT : ∀ w ∈ zTB, w.before ([.ref (zad g 3)] : List Value).toArray s = true := fun w h => hts w (List.mem_cons_of_mem _ h)
  have hown : s.vm.findClass RX5 = some m.cls := findClass_of_methodNamed B.named
  have hlocks := B.notSynchronized
  have P0 := hP.2
  have Z : zZ (zYX g) S s s.heap [] := ⟨hP.1, va_S.rf⟩
  have hf : ∀ w ∈ u_ws RX5 TX5 6, w.before ([.ref (zad g 3)] : List Value).toArray s = true := fun w hw => hT w (mU_X5 w hw)
  have L25 := hT _ mF_X5_25
  have L29 := hT _ mF_X5_29
  have L9 := hT _ mF_X5_9
  have B177 : ∀ (x2 : Int32) (S : zSt), fX5_readDefinition_177 x2 S = some (r, S') → ∀ (H : Heap) (locs : List Loc), zZ (zYX g) S s H locs → ∀ ls : Array Slot, lv_has ls 4 [(0, .ref (zad g 3)), (2, .int x2)] → W p l e (headSpec vX5_readDefinition { frames := 141, cells := 0, slots := 0, locals := 2961 }).room s m ([.ref (zad g 3)] : List Value).toArray below meth c H locs 0 0 (MQ below (zQi (zYX g) r S') ([.ref (zad g 3)] : List Value).toArray s 0 0 (zYX g).2.2.1) (F0 m 177 ls []) := by
    intro x2 S h H locs Z ls hl
    unfold fX5_readDefinition_177 at h
    refine lv_aload_n hx hb dX5_readDefinition_177 rfl (lv_at hl 0 rfl) ?_
    refine zgX5_1 hx hb hf hown P0 Z L29 dX5_readDefinition_178 ?_
    refine lv_iload_n hx hb dX5_readDefinition_181 rfl (lv_at hl 1 rfl) ?_
    obtain ⟨r38, S39, ec, h⟩ := zbd_s h
    refine zc_Vv hY P0 ⟨hx, hb, hml, hown, hT⟩ (As := [.int x2]) (rest := []) (kX4_closeDefinition l hO x2 S r38 S39 ec) (cwV 1 hT (zgV mL_X5_114 mI_X4_closeDefinition mS_X4_closeDefinition mN_X4 mC_X4_closeDefinition) rfl rfl rfl hdnX4_closeDefinition ⟨Nat.le_of_ble_eq_true rfl, Nat.le_of_ble_eq_true rfl⟩) (zrecX_2 P0 Z) Z rfl hl.1 rfl (Nat.le_of_ble_eq_true rfl) dX5_readDefinition_182 (fun H locs Z => ?_)
    refine lv_iconst (v := (nI 1)) hx hb dX5_readDefinition_185 (by decide) ?_
    exact zr_z hY P0 hx hb hr hlocks (by decide) h Z dX5_readDefinition_186
  have B141 : ∀ (n : Nat) (x1 : Int32) (x2 : Int32) (x3 : Int32) (S : zSt), fX5_readDefinition_141L n (x1, x2, x3, S) = some (r, S') → ∀ (H : Heap) (locs : List Loc), zZ (zYX g) S s H locs → ∀ ls : Array Slot, lv_has ls 4 [(0, .ref (zad g 3)), (1, .int x1), (2, .int x2), (3, .int x3)] → W p l e (headSpec vX5_readDefinition { frames := 141, cells := 0, slots := 0, locals := 2961 }).room s m ([.ref (zad g 3)] : List Value).toArray below meth c H locs 0 0 (MQ below (zQi (zYX g) r S') ([.ref (zad g 3)] : List Value).toArray s 0 0 (zYX g).2.2.1) (F0 m 141 ls []) := by
    intro n
    induction n with
    | zero => intro x1 x2 x3 S h; exact absurd h (fun h => nomatch h)
    | succ n K141 =>
      intro x1 x2 x3 S h H locs Z ls hl
      have h : fX5_readDefinition_141 (fX5_readDefinition_141L n) x1 x2 x3 S = some (r, S') := h
      unfold fX5_readDefinition_141 at h
      refine lv_iload_n hx hb dX5_readDefinition_141 rfl (lv_at hl 3 rfl) ?_
      refine lv_iload_n hx hb dX5_readDefinition_142 rfl (lv_at hl 2 rfl) ?_
      refine lv_icmp_ge (tgt := 177) hx hb dX5_readDefinition_143 (by decide) (fun q => ?_) (fun q => ?_)
      · have h := zi_t q h
        exact B177 x2 S h _ _ Z ls (lv_sub hl [0, 2] rfl)
      · have h := zi_f q h
        refine lv_iload_n hx hb dX5_readDefinition_146 rfl (lv_at hl 3 rfl) ?_
        refine lv_aload_n hx hb dX5_readDefinition_147 rfl (lv_at hl 0 rfl) ?_
        refine zgX5_2 hx hb hf hown P0 Z L9 dX5_readDefinition_148 ?_
        refine zaX_22 hx hb P0 Z dX5_readDefinition_151 ?_
        refine lv_icmp_ge (tgt := 177) hx hb dX5_readDefinition_152 (by decide) (fun q => ?_) (fun q => ?_)
        · have h := zi_t q h
          exact B177 x2 S h _ _ Z ls (lv_sub hl [0, 2] rfl)
        · have h := zi_f q h
          refine lv_aload_n hx hb dX5_readDefinition_155 rfl (lv_at hl 0 rfl) ?_
          refine zgX5_1 hx hb hf hown P0 Z L29 dX5_readDefinition_156 ?_
          refine lv_iload_n hx hb dX5_readDefinition_159 rfl (lv_at hl 1 rfl) ?_
          refine lv_aload_n hx hb dX5_readDefinition_160 rfl (lv_at hl 0 rfl) ?_
          refine zgX5_2 hx hb hf hown P0 Z L9 dX5_readDefinition_161 ?_
          refine lv_iload_n hx hb dX5_readDefinition_164 rfl (lv_at hl 3 rfl) ?_
          obtain ⟨v35, ev, hin, h⟩ := zld_s h
          refine zlX_22 hx hb P0 Z ev hin dX5_readDefinition_165 ?_
          refine lv_iconst (v := (nI 3)) hx hb dX5_readDefinition_166 (by decide) ?_
          refine lv_iload_n hx hb dX5_readDefinition_167 rfl (lv_at hl 3 rfl) ?_
          obtain ⟨r36, S37, ec, h⟩ := zbd_s h
          refine zc_Vv hY P0 ⟨hx, hb, hml, hown, hT⟩ (As := [.int x1, .long v35, .int (nI 3), .int x3]) (rest := []) (kX4_tell l hO x1 v35 (nI 3) x3 S r36 S37 ec) (cwV 4 hT (zgV mL_X5_110 mI_X4_tell mS_X4_tell mN_X4 mC_X4_tell) rfl rfl rfl hdnX4_tell ⟨Nat.le_of_ble_eq_true rfl, Nat.le_of_ble_eq_true rfl⟩) (zrecX_2 P0 Z) Z rfl hl.1 rfl (Nat.le_of_ble_eq_true rfl) dX5_readDefinition_168 (fun H locs Z => ?_)
          refine lv_iinc (v := (x3 + (nI 1))) (lv' := [(3, .int (x3 + (nI 1))), (0, .ref (zad g 3)), (1, .int x1), (2, .int x2)]) hx hb dX5_readDefinition_171 hl (k := 3) rfl rfl (by decide) rfl (fun ls hl => ?_)
          refine lv_goto (tgt := 141) hx hb dX5_readDefinition_174 (by decide) ?_
          exact K141 x1 x2 (x3 + (nI 1)) S37 h _ _ Z ls (lv_sub hl [1, 2, 3, 0] rfl)
  have hl := lv_entry ([.ref (zad g 3)] : List Value) (n := 4) (Nat.le_of_ble_eq_true rfl)
  rw [lg_entry_eq]
  generalize (lg_sl ([.ref (zad g 3)] : List Value) ++ List.replicate (4 - (lg_sl ([.ref (zad g 3)] : List Value)).length) Slot.unset).toArray = ls at hl ⊢
  have hl : lv_has ls 4 [(0, .ref (zad g 3))] := hl
  unfold fX5_readDefinition at h
  refine lv_aload_n hx hb dX5_readDefinition_0 rfl (lv_at hl 0 rfl) ?_
  refine zgX5_0 hx hb hf hown P0 Z L25 dX5_readDefinition_1 ?_
  obtain ⟨r1, S2, ec, h⟩ := zbd_s h
  refine zc_Vi hY P0 ⟨hx, hb, hml, hown, hT⟩ (As := []) (rest := []) (kX8_kind l hO  S r1 S2 ec) (cwV 0 hT (zgV mL_X5_47 mI_X8_kind mS_X8_kind mN_X8 mC_X8_kind) rfl rfl rfl hdnX8_kind ⟨Nat.le_of_ble_eq_true rfl, Nat.le_of_ble_eq_true rfl⟩) (zrecX_4 P0 Z) Z rfl hl.1 rfl (Nat.le_of_ble_eq_true rfl) dX5_readDefinition_4 (fun H locs Z => ?_)
  refine lv_iconst (v := (nI 2)) hx hb dX5_readDefinition_7 (by decide) ?_
  refine lv_icmp_eq (tgt := 16) hx hb dX5_readDefinition_8 (by decide) (fun q => ?_) (fun q => ?_)
  · have h := zi_t q h
    refine lv_aload_n hx hb dX5_readDefinition_16 rfl (lv_at hl 0 rfl) ?_
    refine zgX5_1 hx hb hf hown P0 Z L29 dX5_readDefinition_17 ?_
    obtain ⟨r3, S4, ec, h⟩ := zbd_s h
    refine zc_Vi hY P0 ⟨hx, hb, hml, hown, hT⟩ (As := []) (rest := []) (kX4_size l hO  S2 r3 S4 ec) (cwV 0 hT (zgV mL_X5_80 mI_X4_size mS_X4_size mN_X4 mC_X4_size) rfl rfl rfl hdnX4_size ⟨Nat.le_of_ble_eq_true rfl, Nat.le_of_ble_eq_true rfl⟩) (zrecX_2 P0 Z) Z rfl hl.1 rfl (Nat.le_of_ble_eq_true rfl) dX5_readDefinition_20 (fun H locs Z => ?_)
    refine lv_bipush (v := (nI 20)) hx hb dX5_readDefinition_23 (by decide) ?_
    refine lv_icmp_ne (tgt := 41) hx hb dX5_readDefinition_25 (by decide) (fun q => ?_) (fun q => ?_)
    · have h := zi_f q h
      refine lv_aload_n hx hb dX5_readDefinition_41 rfl (lv_at hl 0 rfl) ?_
      refine zgX5_1 hx hb hf hown P0 Z L29 dX5_readDefinition_42 ?_
      refine lv_aload_n hx hb dX5_readDefinition_45 rfl (lv_at hl 0 rfl) ?_
      refine zgX5_0 hx hb hf hown P0 Z L25 dX5_readDefinition_46 ?_
      obtain ⟨r5, S6, ec, h⟩ := zbd_s h
      refine zc_Vl hY P0 ⟨hx, hb, hml, hown, hT⟩ (As := []) (rest := [.ref (zad g 2)]) (kX8_name l hO  S4 r5 S6 ec) (cwV 0 hT (zgV mL_X5_86 mI_X8_name mS_X8_name mN_X8 mC_X8_name) rfl rfl rfl hdnX8_name ⟨Nat.le_of_ble_eq_true rfl, Nat.le_of_ble_eq_true rfl⟩) (zrecX_4 P0 Z) Z rfl hl.1 rfl (Nat.le_of_ble_eq_true rfl) dX5_readDefinition_49 (fun H locs Z => ?_)
      obtain ⟨r7, S8, ec, h⟩ := zbd_s h
      refine zc_Vi hY P0 ⟨hx, hb, hml, hown, hT⟩ (As := [.long r5]) (rest := []) (kX4_definitionOf l hO r5 S6 r7 S8 ec) (cwV 1 hT (zgV mL_X5_62 mI_X4_definitionOf mS_X4_definitionOf mN_X4 mC_X4_definitionOf) rfl rfl rfl hdnX4_definitionOf ⟨Nat.le_of_ble_eq_true rfl, Nat.le_of_ble_eq_true rfl⟩) (zrecX_2 P0 Z) Z rfl hl.1 rfl (Nat.le_of_ble_eq_true rfl) dX5_readDefinition_52 (fun H locs Z => ?_)
      refine lv_iconst (v := (-1 : Int32)) hx hb dX5_readDefinition_55 (by decide) ?_
      refine lv_icmp_eq (tgt := 72) hx hb dX5_readDefinition_56 (by decide) (fun q => ?_) (fun q => ?_)
      · have h := zi_t q h
        refine lv_aload_n hx hb dX5_readDefinition_72 rfl (lv_at hl 0 rfl) ?_
        refine zgX5_1 hx hb hf hown P0 Z L29 dX5_readDefinition_73 ?_
        refine lv_aload_n hx hb dX5_readDefinition_76 rfl (lv_at hl 0 rfl) ?_
        refine zgX5_0 hx hb hf hown P0 Z L25 dX5_readDefinition_77 ?_
        obtain ⟨r9, S10, ec, h⟩ := zbd_s h
        refine zc_Vl hY P0 ⟨hx, hb, hml, hown, hT⟩ (As := []) (rest := [.ref (zad g 2)]) (kX8_name l hO  S8 r9 S10 ec) (cwV 0 hT (zgV mL_X5_86 mI_X8_name mS_X8_name mN_X8 mC_X8_name) rfl rfl rfl hdnX8_name ⟨Nat.le_of_ble_eq_true rfl, Nat.le_of_ble_eq_true rfl⟩) (zrecX_4 P0 Z) Z rfl hl.1 rfl (Nat.le_of_ble_eq_true rfl) dX5_readDefinition_80 (fun H locs Z => ?_)
        obtain ⟨r11, S12, ec, h⟩ := zbd_s h
        refine zc_Vv hY P0 ⟨hx, hb, hml, hown, hT⟩ (As := [.long r9]) (rest := []) (kX4_openDefinition l hO r9 S10 r11 S12 ec) (cwV 1 hT (zgV mL_X5_90 mI_X4_openDefinition mS_X4_openDefinition mN_X4 mC_X4_openDefinition) rfl rfl rfl hdnX4_openDefinition ⟨Nat.le_of_ble_eq_true rfl, Nat.le_of_ble_eq_true rfl⟩) (zrecX_2 P0 Z) Z rfl hl.1 rfl (Nat.le_of_ble_eq_true rfl) dX5_readDefinition_83 (fun H locs Z => ?_)
        refine lv_aload_n hx hb dX5_readDefinition_86 rfl (lv_at hl 0 rfl) ?_
        refine zgX5_0 hx hb hf hown P0 Z L25 dX5_readDefinition_87 ?_
        obtain ⟨r13, S14, ec, h⟩ := zbd_s h
        refine zc_Vv hY P0 ⟨hx, hb, hml, hown, hT⟩ (As := []) (rest := []) (kX8_advance l hO  S12 r13 S14 ec) (cwV 0 hT (zgV mL_X5_94 mI_X8_advance mS_X8_advance mN_X8 mC_X8_advance) rfl rfl rfl hdnX8_advance ⟨Nat.le_of_ble_eq_true rfl, Nat.le_of_ble_eq_true rfl⟩) (zrecX_4 P0 Z) Z rfl hl.1 rfl (Nat.le_of_ble_eq_true rfl) dX5_readDefinition_90 (fun H locs Z => ?_)
        refine lv_aload_n hx hb dX5_readDefinition_93 rfl (lv_at hl 0 rfl) ?_
        refine zgX5_1 hx hb hf hown P0 Z L29 dX5_readDefinition_94 ?_
        obtain ⟨r15, S16, ec, h⟩ := zbd_s h
        refine zc_Vi hY P0 ⟨hx, hb, hml, hown, hT⟩ (As := []) (rest := []) (kX4_deedCount l hO  S14 r15 S16 ec) (cwV 0 hT (zgV mL_X5_97 mI_X4_deedCount mS_X4_deedCount mN_X4 mC_X4_deedCount) rfl rfl rfl hdnX4_deedCount ⟨Nat.le_of_ble_eq_true rfl, Nat.le_of_ble_eq_true rfl⟩) (zrecX_2 P0 Z) Z rfl hl.1 rfl (Nat.le_of_ble_eq_true rfl) dX5_readDefinition_97 (fun H locs Z => ?_)
        refine lv_istore_n (lv' := [(1, .int r15), (0, .ref (zad g 3))]) hx hb dX5_readDefinition_100 rfl hl (by decide) rfl (fun ls hl => ?_)
        refine lv_aload_n hx hb dX5_readDefinition_101 rfl (lv_at hl 1 rfl) ?_
        obtain ⟨r17, S18, ec, h⟩ := zbd_s h
        refine zc_Vi hY P0 ⟨hx, hb, hml, hown, hT⟩ (As := []) (rest := []) (kX5_readParameters l hO  S16 r17 S18 ec) (cwV 0 hT (zgV mL_X5_100 mI_X5_readParameters mS_X5_readParameters mN_X5 mC_X5_readParameters) rfl rfl rfl hdnX5_readParameters ⟨Nat.le_of_ble_eq_true rfl, Nat.le_of_ble_eq_true rfl⟩) (zrecX_3 P0 Z) Z rfl hl.1 rfl (Nat.le_of_ble_eq_true rfl) dX5_readDefinition_102 (fun H locs Z => ?_)
        refine lv_istore_n (lv' := [(2, .int r17), (1, .int r15), (0, .ref (zad g 3))]) hx hb dX5_readDefinition_105 rfl hl (by decide) rfl (fun ls hl => ?_)
        refine lv_iload_n hx hb dX5_readDefinition_106 rfl (lv_at hl 0 rfl) ?_
        refine lv_iconst (v := (-1 : Int32)) hx hb dX5_readDefinition_107 (by decide) ?_
        refine lv_icmp_eq (tgt := 137) hx hb dX5_readDefinition_108 (by decide) (fun q => ?_) (fun q => ?_)
        · have h := zi_t q h
          refine lv_iconst (v := (nI 0)) hx hb dX5_readDefinition_137 (by decide) ?_
          exact zr_z hY P0 hx hb hr hlocks (by decide) h Z dX5_readDefinition_138
        · have h := zi_f q h
          refine lv_aload_n hx hb dX5_readDefinition_111 rfl (lv_at hl 2 rfl) ?_
          refine lv_bipush (v := (nI 6)) hx hb dX5_readDefinition_112 (by decide) ?_
          obtain ⟨r19, S20, ec, h⟩ := zbd_s h
          refine zc_Vi hY P0 ⟨hx, hb, hml, hown, hT⟩ (As := [.int (nI 6)]) (rest := []) (kX5_take l hO (nI 6) S18 r19 S20 ec) (cwV 1 hT (zgV mL_X5_103 mI_X5_take mS_X5_take mN_X5 mC_X5_take) rfl rfl rfl hdnX5_take ⟨Nat.le_of_ble_eq_true rfl, Nat.le_of_ble_eq_true rfl⟩) (zrecX_3 P0 Z) Z rfl hl.1 rfl (Nat.le_of_ble_eq_true rfl) dX5_readDefinition_114 (fun H locs Z => ?_)
          refine lv_if_eq (tgt := 137) hx hb dX5_readDefinition_117 (by decide) (fun q => ?_) (fun q => ?_)
          · have h := zi_t q h
            refine lv_iconst (v := (nI 0)) hx hb dX5_readDefinition_137 (by decide) ?_
            exact zr_z hY P0 hx hb hr hlocks (by decide) h Z dX5_readDefinition_138
          · have h := zi_f q h
            refine lv_aload_n hx hb dX5_readDefinition_120 rfl (lv_at hl 2 rfl) ?_
            refine lv_iconst (v := (nI 0)) hx hb dX5_readDefinition_121 (by decide) ?_
            obtain ⟨r21, S22, ec, h⟩ := zbd_s h
            refine zc_Vi hY P0 ⟨hx, hb, hml, hown, hT⟩ (As := [.int (nI 0)]) (rest := []) (kX5_E l hO 20 (nI 0) S20 r21 S22 ec) (cwV 1 hT (zgV mL_X5_107 mI_X5_readExpr mS_X5_readExpr mN_X5 mC_X5_readExpr) rfl rfl rfl hdnX5_readExpr ⟨Nat.le_of_ble_eq_true rfl, Nat.le_of_ble_eq_true rfl⟩) (zrecX_3 P0 Z) Z rfl hl.1 rfl (Nat.le_of_ble_eq_true rfl) dX5_readDefinition_122 (fun H locs Z => ?_)
            refine lv_if_eq (tgt := 137) hx hb dX5_readDefinition_125 (by decide) (fun q => ?_) (fun q => ?_)
            · have h := zi_t q h
              refine lv_iconst (v := (nI 0)) hx hb dX5_readDefinition_137 (by decide) ?_
              exact zr_z hY P0 hx hb hr hlocks (by decide) h Z dX5_readDefinition_138
            · have h := zi_f q h
              refine lv_aload_n hx hb dX5_readDefinition_128 rfl (lv_at hl 2 rfl) ?_
              refine lv_bipush (v := (nI 7)) hx hb dX5_readDefinition_129 (by decide) ?_
              obtain ⟨r23, S24, ec, h⟩ := zbd_s h
              refine zc_Vi hY P0 ⟨hx, hb, hml, hown, hT⟩ (As := [.int (nI 7)]) (rest := []) (kX5_take l hO (nI 7) S22 r23 S24 ec) (cwV 1 hT (zgV mL_X5_103 mI_X5_take mS_X5_take mN_X5 mC_X5_take) rfl rfl rfl hdnX5_take ⟨Nat.le_of_ble_eq_true rfl, Nat.le_of_ble_eq_true rfl⟩) (zrecX_3 P0 Z) Z rfl hl.1 rfl (Nat.le_of_ble_eq_true rfl) dX5_readDefinition_131 (fun H locs Z => ?_)
              refine lv_if_ne (tgt := 139) hx hb dX5_readDefinition_134 (by decide) (fun q => ?_) (fun q => ?_)
              · have h := zi_f q h
                refine lv_iconst (v := (nI 0)) hx hb dX5_readDefinition_139 (by decide) ?_
                refine lv_istore_n (lv' := [(3, .int (nI 0)), (2, .int r17), (1, .int r15), (0, .ref (zad g 3))]) hx hb dX5_readDefinition_140 rfl hl (by decide) rfl (fun ls hl => ?_)
                exact B141 zFU r15 r17 (nI 0) S24 h _ _ Z ls (lv_sub hl [3, 2, 1, 0] rfl)
              · have h := zi_t q h
                refine lv_iconst (v := (nI 0)) hx hb dX5_readDefinition_137 (by decide) ?_
                exact zr_z hY P0 hx hb hr hlocks (by decide) h Z dX5_readDefinition_138
      · have h := zi_f q h
        refine lv_aload_n hx hb dX5_readDefinition_59 rfl (lv_at hl 0 rfl) ?_
        refine lv_iconst (v := (nI 4)) hx hb dX5_readDefinition_60 (by decide) ?_
        refine lv_aload_n hx hb dX5_readDefinition_61 rfl (lv_at hl 0 rfl) ?_
        refine zgX5_0 hx hb hf hown P0 Z L25 dX5_readDefinition_62 ?_
        obtain ⟨r25, S26, ec, h⟩ := zbd_s h
        refine zc_Vi hY P0 ⟨hx, hb, hml, hown, hT⟩ (As := []) (rest := [.int (nI 4), .ref (zad g 3)]) (kX8_place l hO  S8 r25 S26 ec) (cwV 0 hT (zgV mL_X5_83 mI_X8_place mS_X8_place mN_X8 mC_X8_place) rfl rfl rfl hdnX8_place ⟨Nat.le_of_ble_eq_true rfl, Nat.le_of_ble_eq_true rfl⟩) (zrecX_4 P0 Z) Z rfl hl.1 rfl (Nat.le_of_ble_eq_true rfl) dX5_readDefinition_65 (fun H locs Z => ?_)
        obtain ⟨r27, S28, ec, h⟩ := zbd_s h
        refine zc_Vi hY P0 ⟨hx, hb, hml, hown, hT⟩ (As := [.int (nI 4), .int r25]) (rest := []) (kX5_fail l hO (nI 4) r25 S26 r27 S28 ec) (cwV 2 hT (zgV mL_X5_66 mI_X5_fail mS_X5_fail mN_X5 mC_X5_fail) rfl rfl rfl hdnX5_fail ⟨Nat.le_of_ble_eq_true rfl, Nat.le_of_ble_eq_true rfl⟩) (zrecX_3 P0 Z) Z rfl hl.1 rfl (Nat.le_of_ble_eq_true rfl) dX5_readDefinition_68 (fun H locs Z => ?_)
        obtain ⟨hn, h⟩ := zbo_s h
        exact zr_z hY P0 hx hb hr hlocks hn h Z dX5_readDefinition_71
    · have h := zi_t q h
      refine lv_aload_n hx hb dX5_readDefinition_28 rfl (lv_at hl 0 rfl) ?_
      refine lv_iconst (v := (nI 3)) hx hb dX5_readDefinition_29 (by decide) ?_
      refine lv_aload_n hx hb dX5_readDefinition_30 rfl (lv_at hl 0 rfl) ?_
      refine zgX5_0 hx hb hf hown P0 Z L25 dX5_readDefinition_31 ?_
      obtain ⟨r29, S30, ec, h⟩ := zbd_s h
      refine zc_Vi hY P0 ⟨hx, hb, hml, hown, hT⟩ (As := []) (rest := [.int (nI 3), .ref (zad g 3)]) (kX8_place l hO  S4 r29 S30 ec) (cwV 0 hT (zgV mL_X5_83 mI_X8_place mS_X8_place mN_X8 mC_X8_place) rfl rfl rfl hdnX8_place ⟨Nat.le_of_ble_eq_true rfl, Nat.le_of_ble_eq_true rfl⟩) (zrecX_4 P0 Z) Z rfl hl.1 rfl (Nat.le_of_ble_eq_true rfl) dX5_readDefinition_34 (fun H locs Z => ?_)
      obtain ⟨r31, S32, ec, h⟩ := zbd_s h
      refine zc_Vi hY P0 ⟨hx, hb, hml, hown, hT⟩ (As := [.int (nI 3), .int r29]) (rest := []) (kX5_fail l hO (nI 3) r29 S30 r31 S32 ec) (cwV 2 hT (zgV mL_X5_66 mI_X5_fail mS_X5_fail mN_X5 mC_X5_fail) rfl rfl rfl hdnX5_fail ⟨Nat.le_of_ble_eq_true rfl, Nat.le_of_ble_eq_true rfl⟩) (zrecX_3 P0 Z) Z rfl hl.1 rfl (Nat.le_of_ble_eq_true rfl) dX5_readDefinition_37 (fun H locs Z => ?_)
      obtain ⟨hn, h⟩ := zbo_s h
      exact zr_z hY P0 hx hb hr hlocks hn h Z dX5_readDefinition_40
  · have h := zi_f q h
    refine lv_aload_n hx hb dX5_readDefinition_11 rfl (lv_at hl 0 rfl) ?_
    obtain ⟨r33, S34, ec, h⟩ := zbd_s h
    refine zc_Vi hY P0 ⟨hx, hb, hml, hown, hT⟩ (As := []) (rest := []) (kX5_cannotStand l hO  S2 r33 S34 ec) (cwV 0 hT (zgV mL_X5_77 mI_X5_cannotStand mS_X5_cannotStand mN_X5 mC_X5_cannotStand) rfl rfl rfl hdnX5_cannotStand ⟨Nat.le_of_ble_eq_true rfl, Nat.le_of_ble_eq_true rfl⟩) (zrecX_3 P0 Z) Z rfl hl.1 rfl (Nat.le_of_ble_eq_true rfl) dX5_readDefinition_12 (fun H locs Z => ?_)
    obtain ⟨hn, h⟩ := zbo_s h
    exact zr_z hY P0 hx hb hr hlocks hn h Z dX5_readDefinition_15

set_option maxHeartbeats 4000000 in
set_option maxRecDepth 100000 in
theorem kX8_begin {g : zG} (l : Launch) (hO : zinjX g) (S : zSt) (r : Unit) (S' : zSt) (h : fX8_begin S = some (r, S')) : zMv (zYX g) l yX8_begin vX8_begin { frames := 3, cells := 0, slots := 0, locals := 62 } ([.ref (zad g 4)] : List Value) S S' := by
  have hY := zOkX hO
  refine Met.ofW (cc := cX8_begin) (maxL := 1) (ret := none) (by decide) rfl ?_
  intro p e s m args below meth c s₁ B hml hv
  obtain ⟨rfl, hP⟩ := hv
  have hx := B.exec
  have hb := B.bytes
  have hr := B.returns
  have hts := atoms_spec (ws := vX8_begin) B.pre
  have hT : ∀ w ∈ zTB, w.before ([.ref (zad g 4)] : List Value).toArray s = true := fun w h => hts w (List.mem_cons_of_mem _ h)
  have hown : s.vm.findClass RX8 = some m.cls := findClass_of_methodNamed B.named
  have hlocks := B.notSynchronized
  have P0 := hP.2
  have Z : zZ (zYX g) S s s.heap [] := ⟨hP.1, va_S.rf⟩
  have hf : ∀ w ∈ u_ws RX8 TX8 7, w.before ([.ref (zad g 4)] : List Value).toArray s = true := fun w hw => hT w (mU_X8 w hw)
  have L15 := hT _ mF_X8_15
  have hl := lv_entry ([.ref (zad g 4)] : List Value) (n := 1) (Nat.le_of_ble_eq_true rfl)
  rw [lg_entry_eq]
  generalize (lg_sl ([.ref (zad g 4)] : List Value) ++ List.replicate (1 - (lg_sl ([.ref (zad g 4)] : List Value)).length) Slot.unset).toArray = ls at hl ⊢
  have hl : lv_has ls 1 [(0, .ref (zad g 4))] := hl
  unfold fX8_begin at h
  refine lv_aload_n hx hb dX8_begin_0 rfl (lv_at hl 0 rfl) ?_
  refine lv_iconst (v := (nI 0)) hx hb dX8_begin_1 (by decide) ?_
  refine zpX8_2 hO hx hb hf hown P0 Z L15 dX8_begin_2 (fun H locs Z => ?_)
  refine lv_aload_n hx hb dX8_begin_5 rfl (lv_at hl 0 rfl) ?_
  obtain ⟨r1, S2, ec, h⟩ := zbd_s h
  refine zc_Vv hY P0 ⟨hx, hb, hml, hown, hT⟩ (As := []) (rest := []) (kX8_advance l hO  (wI S 10 (nI 0)) r1 S2 ec) (cwV 0 hT (zgV mL_X8_53 mI_X8_advance mS_X8_advance mN_X8 mC_X8_advance) rfl rfl rfl hdnX8_advance ⟨Nat.le_of_ble_eq_true rfl, Nat.le_of_ble_eq_true rfl⟩) (zrecX_4 P0 Z) Z rfl hl.1 rfl (Nat.le_of_ble_eq_true rfl) dX8_begin_6 (fun H locs Z => ?_)
  exact zr_v hY P0 hx hb hr hlocks h Z dX8_begin_9

set_option maxHeartbeats 4000000 in
set_option maxRecDepth 100000 in
theorem kX5_readProgram {g : zG} (l : Launch) (hO : zinjX g) (S : zSt) (r : Unit) (S' : zSt) (h : fX5_readProgram S = some (r, S')) : zMv (zYX g) l yX5_readProgram vX5_readProgram { frames := 142, cells := 0, slots := 0, locals := 2984 } ([.ref (zad g 3)] : List Value) S S' := by
  have hY := zOkX hO
  refine Met.ofW (cc := cX5_readProgram) (maxL := 3) (ret := none) (by decide) rfl ?_
  intro p e s m args below meth c s₁ B hml hv
  obtain ⟨rfl, hP⟩ := hv
  have hx := B.exec
  have hb := B.bytes
  have hr := B.returns
  have hts := atoms_spec (ws := vX5_readProgram) B.pre
  have hT : ∀ w ∈ zTB, w.before ([.ref (zad g 3)] : List Value).toArray s = true := fun w h => hts w (List.mem_cons_of_mem _ h)
  have hown : s.vm.findClass RX5 = some m.cls := findClass_of_methodNamed B.named
  have hlocks := B.notSynchronized
  have P0 := hP.2
  have Z : zZ (zYX g) S s s.heap [] := ⟨hP.1, va_S.rf⟩
  have hf : ∀ w ∈ u_ws RX5 TX5 6, w.before ([.ref (zad g 3)] : List Value).toArray s = true := fun w hw => hT w (mU_X5 w hw)
  have L18 := hT _ mF_X5_18
  have L22 := hT _ mF_X5_22
  have L29 := hT _ mF_X5_29
  have L25 := hT _ mF_X5_25
  have B62 : ∀ (x1 : Int32) (S : zSt), fX5_readProgram_62 x1 S = some (r, S') → ∀ (H : Heap) (locs : List Loc), zZ (zYX g) S s H locs → ∀ ls : Array Slot, lv_has ls 3 [(0, .ref (zad g 3)), (1, .int x1)] → W p l e (headSpec vX5_readProgram { frames := 142, cells := 0, slots := 0, locals := 2984 }).room s m ([.ref (zad g 3)] : List Value).toArray below meth c H locs 0 0 (MQ below (zQv (zYX g) S') ([.ref (zad g 3)] : List Value).toArray s 0 0 (zYX g).2.2.1) (F0 m 62 ls []) := by
    intro x1 S h H locs Z ls hl
    unfold fX5_readProgram_62 at h
    refine lv_iload_n hx hb dX5_readProgram_62 rfl (lv_at hl 1 rfl) ?_
    refine lv_if_eq (tgt := 70) hx hb dX5_readProgram_63 (by decide) (fun q => ?_) (fun q => ?_)
    · have h := zi_t q h
      exact zr_v hY P0 hx hb hr hlocks h Z dX5_readProgram_70
    · have h := zi_f q h
      refine lv_aload_n hx hb dX5_readProgram_66 rfl (lv_at hl 0 rfl) ?_
      obtain ⟨r11, S12, ec, h⟩ := zbd_s h
      refine zc_Vv hY P0 ⟨hx, hb, hml, hown, hT⟩ (As := []) (rest := []) (kX5_checkNames l hO  S r11 S12 ec) (cwV 0 hT (zgV mL_X5_51 mI_X5_checkNames mS_X5_checkNames mN_X5 mC_X5_checkNames) rfl rfl rfl hdnX5_checkNames ⟨Nat.le_of_ble_eq_true rfl, Nat.le_of_ble_eq_true rfl⟩) (zrecX_3 P0 Z) Z rfl hl.1 rfl (Nat.le_of_ble_eq_true rfl) dX5_readProgram_67 (fun H locs Z => ?_)
      exact zr_v hY P0 hx hb hr hlocks h Z dX5_readProgram_70
  have B31 : ∀ (n : Nat) (x1 : Int32) (x2 : Int32) (S : zSt), fX5_readProgram_31L n (x1, x2, S) = some (r, S') → ∀ (H : Heap) (locs : List Loc), zZ (zYX g) S s H locs → ∀ ls : Array Slot, lv_has ls 3 [(0, .ref (zad g 3)), (1, .int x1), (2, .int x2)] → W p l e (headSpec vX5_readProgram { frames := 142, cells := 0, slots := 0, locals := 2984 }).room s m ([.ref (zad g 3)] : List Value).toArray below meth c H locs 0 0 (MQ below (zQv (zYX g) S') ([.ref (zad g 3)] : List Value).toArray s 0 0 (zYX g).2.2.1) (F0 m 31 ls []) := by
    intro n
    induction n with
    | zero => intro x1 x2 S h; exact absurd h (fun h => nomatch h)
    | succ n K31 =>
      intro x1 x2 S h H locs Z ls hl
      have h : fX5_readProgram_31 (fX5_readProgram_31L n) x1 x2 S = some (r, S') := h
      unfold fX5_readProgram_31 at h
      refine lv_iload_n hx hb dX5_readProgram_31 rfl (lv_at hl 1 rfl) ?_
      refine lv_if_eq (tgt := 62) hx hb dX5_readProgram_32 (by decide) (fun q => ?_) (fun q => ?_)
      · have h := zi_t q h
        exact B62 x1 S h _ _ Z ls (lv_sub hl [0, 1] rfl)
      · have h := zi_f q h
        refine lv_iload_n hx hb dX5_readProgram_35 rfl (lv_at hl 2 rfl) ?_
        refine lv_bipush (v := (nI 20)) hx hb dX5_readProgram_36 (by decide) ?_
        refine lv_icmp_gt (tgt := 62) hx hb dX5_readProgram_38 (by decide) (fun q => ?_) (fun q => ?_)
        · have h := zi_t q h
          exact B62 x1 S h _ _ Z ls (lv_sub hl [0, 1] rfl)
        · have h := zi_f q h
          refine lv_aload_n hx hb dX5_readProgram_41 rfl (lv_at hl 0 rfl) ?_
          refine zgX5_0 hx hb hf hown P0 Z L25 dX5_readProgram_42 ?_
          obtain ⟨r7, S8, ec, h⟩ := zbd_s h
          refine zc_Vi hY P0 ⟨hx, hb, hml, hown, hT⟩ (As := []) (rest := []) (kX8_kind l hO  S r7 S8 ec) (cwV 0 hT (zgV mL_X5_47 mI_X8_kind mS_X8_kind mN_X8 mC_X8_kind) rfl rfl rfl hdnX8_kind ⟨Nat.le_of_ble_eq_true rfl, Nat.le_of_ble_eq_true rfl⟩) (zrecX_4 P0 Z) Z rfl hl.1 rfl (Nat.le_of_ble_eq_true rfl) dX5_readProgram_45 (fun H locs Z => ?_)
          refine lv_if_eq (tgt := 62) hx hb dX5_readProgram_48 (by decide) (fun q => ?_) (fun q => ?_)
          · have h := zi_t q h
            exact B62 x1 S8 h _ _ Z ls (lv_sub hl [0, 1] rfl)
          · have h := zi_f q h
            refine lv_aload_n hx hb dX5_readProgram_51 rfl (lv_at hl 0 rfl) ?_
            obtain ⟨r9, S10, ec, h⟩ := zbd_s h
            refine zc_Vi hY P0 ⟨hx, hb, hml, hown, hT⟩ (As := []) (rest := []) (kX5_readDefinition l hO  S8 r9 S10 ec) (cwV 0 hT (zgV mL_X5_43 mI_X5_readDefinition mS_X5_readDefinition mN_X5 mC_X5_readDefinition) rfl rfl rfl hdnX5_readDefinition ⟨Nat.le_of_ble_eq_true rfl, Nat.le_of_ble_eq_true rfl⟩) (zrecX_3 P0 Z) Z rfl hl.1 rfl (Nat.le_of_ble_eq_true rfl) dX5_readProgram_52 (fun H locs Z => ?_)
            refine lv_istore_n (lv' := [(1, .int r9), (0, .ref (zad g 3)), (2, .int x2)]) hx hb dX5_readProgram_55 rfl hl (by decide) rfl (fun ls hl => ?_)
            refine lv_iinc (v := (x2 + (nI 1))) (lv' := [(2, .int (x2 + (nI 1))), (1, .int r9), (0, .ref (zad g 3))]) hx hb dX5_readProgram_56 hl (k := 2) rfl rfl (by decide) rfl (fun ls hl => ?_)
            refine lv_goto (tgt := 31) hx hb dX5_readProgram_59 (by decide) ?_
            exact K31 r9 (x2 + (nI 1)) S10 h _ _ Z ls (lv_sub hl [2, 1, 0] rfl)
  have hl := lv_entry ([.ref (zad g 3)] : List Value) (n := 3) (Nat.le_of_ble_eq_true rfl)
  rw [lg_entry_eq]
  generalize (lg_sl ([.ref (zad g 3)] : List Value) ++ List.replicate (3 - (lg_sl ([.ref (zad g 3)] : List Value)).length) Slot.unset).toArray = ls at hl ⊢
  have hl : lv_has ls 3 [(0, .ref (zad g 3))] := hl
  unfold fX5_readProgram at h
  refine lv_aload_n hx hb dX5_readProgram_0 rfl (lv_at hl 0 rfl) ?_
  refine lv_iconst (v := (nI 0)) hx hb dX5_readProgram_1 (by decide) ?_
  refine zpX5_4 hO hx hb hf hown P0 Z L18 dX5_readProgram_2 (fun H locs Z => ?_)
  refine lv_aload_n hx hb dX5_readProgram_5 rfl (lv_at hl 0 rfl) ?_
  refine lv_iconst (v := (nI 0)) hx hb dX5_readProgram_6 (by decide) ?_
  refine zpX5_5 hO hx hb hf hown P0 Z L22 dX5_readProgram_7 (fun H locs Z => ?_)
  refine lv_aload_n hx hb dX5_readProgram_10 rfl (lv_at hl 0 rfl) ?_
  refine zgX5_1 hx hb hf hown P0 Z L29 dX5_readProgram_11 ?_
  obtain ⟨r1, S2, ec, h⟩ := zbd_s h
  refine zc_Vv hY P0 ⟨hx, hb, hml, hown, hT⟩ (As := []) (rest := []) (kX4_clear l hO  (wI (wI S 8 (nI 0)) 9 (nI 0)) r1 S2 ec) (cwV 0 hT (zgV mL_X5_33 mI_X4_clear mS_X4_clear mN_X4 mC_X4_clear) rfl rfl rfl hdnX4_clear ⟨Nat.le_of_ble_eq_true rfl, Nat.le_of_ble_eq_true rfl⟩) (zrecX_2 P0 Z) Z rfl hl.1 rfl (Nat.le_of_ble_eq_true rfl) dX5_readProgram_14 (fun H locs Z => ?_)
  refine lv_aload_n hx hb dX5_readProgram_17 rfl (lv_at hl 0 rfl) ?_
  refine zgX5_0 hx hb hf hown P0 Z L25 dX5_readProgram_18 ?_
  obtain ⟨r3, S4, ec, h⟩ := zbd_s h
  refine zc_Vv hY P0 ⟨hx, hb, hml, hown, hT⟩ (As := []) (rest := []) (kX8_begin l hO  S2 r3 S4 ec) (cwV 0 hT (zgV mL_X5_38 mI_X8_begin mS_X8_begin mN_X8 mC_X8_begin) rfl rfl rfl hdnX8_begin ⟨Nat.le_of_ble_eq_true rfl, Nat.le_of_ble_eq_true rfl⟩) (zrecX_4 P0 Z) Z rfl hl.1 rfl (Nat.le_of_ble_eq_true rfl) dX5_readProgram_21 (fun H locs Z => ?_)
  refine lv_aload_n hx hb dX5_readProgram_24 rfl (lv_at hl 0 rfl) ?_
  obtain ⟨r5, S6, ec, h⟩ := zbd_s h
  refine zc_Vi hY P0 ⟨hx, hb, hml, hown, hT⟩ (As := []) (rest := []) (kX5_readDefinition l hO  S4 r5 S6 ec) (cwV 0 hT (zgV mL_X5_43 mI_X5_readDefinition mS_X5_readDefinition mN_X5 mC_X5_readDefinition) rfl rfl rfl hdnX5_readDefinition ⟨Nat.le_of_ble_eq_true rfl, Nat.le_of_ble_eq_true rfl⟩) (zrecX_3 P0 Z) Z rfl hl.1 rfl (Nat.le_of_ble_eq_true rfl) dX5_readProgram_25 (fun H locs Z => ?_)
  refine lv_istore_n (lv' := [(1, .int r5), (0, .ref (zad g 3))]) hx hb dX5_readProgram_28 rfl hl (by decide) rfl (fun ls hl => ?_)
  refine lv_iconst (v := (nI 1)) hx hb dX5_readProgram_29 (by decide) ?_
  refine lv_istore_n (lv' := [(2, .int (nI 1)), (1, .int r5), (0, .ref (zad g 3))]) hx hb dX5_readProgram_30 rfl hl (by decide) rfl (fun ls hl => ?_)
  exact B31 zFU r5 (nI 1) S6 h _ _ Z ls (lv_sub hl [2, 1, 0] rfl)

set_option maxHeartbeats 4000000 in
set_option maxRecDepth 100000 in
theorem kX2_stepsDone {g : zG} (l : Launch) (hO : zinjX g) (S : zSt) (r : Int32) (S' : zSt) (h : fX2_stepsDone S = some (r, S')) : zMi (zYX g) l yX2_stepsDone vX2_stepsDone { frames := 0, cells := 0, slots := 0, locals := 0 } ([.ref (zad g 7)] : List Value) S r S' := by
  have hY := zOkX hO
  refine Met.ofW (cc := cX2_stepsDone) (maxL := 1) (ret := (some .int)) (by decide) rfl ?_
  intro p e s m args below meth c s₁ B hml hv
  obtain ⟨rfl, hP⟩ := hv
  have hx := B.exec
  have hb := B.bytes
  have hr := B.returns
  have hts := atoms_spec (ws := vX2_stepsDone) B.pre
  have hT : ∀ w ∈ zTB, w.before ([.ref (zad g 7)] : List Value).toArray s = true := fun w h => hts w (List.mem_cons_of_mem _ h)
  have hown : s.vm.findClass RX2 = some m.cls := findClass_of_methodNamed B.named
  have hlocks := B.notSynchronized
  have P0 := hP.2
  have Z : zZ (zYX g) S s s.heap [] := ⟨hP.1, va_S.rf⟩
  have hf : ∀ w ∈ u_ws RX2 TX2 11, w.before ([.ref (zad g 7)] : List Value).toArray s = true := fun w hw => hT w (mU_X2 w hw)
  have L18 := hT _ mF_X2_18
  have hl := lv_entry ([.ref (zad g 7)] : List Value) (n := 1) (Nat.le_of_ble_eq_true rfl)
  rw [lg_entry_eq]
  generalize (lg_sl ([.ref (zad g 7)] : List Value) ++ List.replicate (1 - (lg_sl ([.ref (zad g 7)] : List Value)).length) Slot.unset).toArray = ls at hl ⊢
  have hl : lv_has ls 1 [(0, .ref (zad g 7))] := hl
  unfold fX2_stepsDone at h
  refine lv_aload_n hx hb dX2_stepsDone_0 rfl (lv_at hl 0 rfl) ?_
  refine zgX2_6 (v := (zI S 21)) hx hb hf hown P0 Z L18 rfl dX2_stepsDone_1 ?_
  exact zr_i hY P0 hx hb hr hlocks h Z dX2_stepsDone_4

set_option maxHeartbeats 4000000 in
set_option maxRecDepth 100000 in
theorem kX9_forgetSweeps {g : zG} (l : Launch) (hO : zinjX g) (a1 : Int32) (S : zSt) (r : Unit) (S' : zSt) (h : fX9_forgetSweeps a1 S = some (r, S')) : zMv (zYX g) l yX9_forgetSweeps vX9_forgetSweeps { frames := 1, cells := 0, slots := 0, locals := 20 } ([.ref (zad g 0), .int a1] : List Value) S S' := by
  have hY := zOkX hO
  refine Met.ofW (cc := cX9_forgetSweeps) (maxL := 3) (ret := none) (by decide) rfl ?_
  intro p e s m args below meth c s₁ B hml hv
  obtain ⟨rfl, hP⟩ := hv
  have hx := B.exec
  have hb := B.bytes
  have hr := B.returns
  have hts := atoms_spec (ws := vX9_forgetSweeps) B.pre
  have hT : ∀ w ∈ zTB, w.before ([.ref (zad g 0), .int a1] : List Value).toArray s = true := fun w h => hts w (List.mem_cons_of_mem _ h)
  have hown : s.vm.findClass RX9 = some m.cls := findClass_of_methodNamed B.named
  have hlocks := B.notSynchronized
  have P0 := hP.2
  have Z : zZ (zYX g) S s s.heap [] := ⟨hP.1, va_S.rf⟩
  have hf : ∀ w ∈ u_ws RX9 TX9 13, w.before ([.ref (zad g 0), .int a1] : List Value).toArray s = true := fun w hw => hT w (mU_X9 w hw)
  have L56 := hT _ mF_X9_56
  have L67 := hT _ mF_X9_67
  have B2 : ∀ (n : Nat) (x2 : Int32) (S : zSt), fX9_forgetSweeps_2L n (x2, S) = some (r, S') → ∀ (H : Heap) (locs : List Loc), zZ (zYX g) S s H locs → ∀ ls : Array Slot, lv_has ls 3 [(0, .ref (zad g 0)), (2, .int x2)] → W p l e (headSpec vX9_forgetSweeps { frames := 1, cells := 0, slots := 0, locals := 20 }).room s m ([.ref (zad g 0), .int a1] : List Value).toArray below meth c H locs 0 0 (MQ below (zQv (zYX g) S') ([.ref (zad g 0), .int a1] : List Value).toArray s 0 0 (zYX g).2.2.1) (F0 m 2 ls []) := by
    intro n
    induction n with
    | zero => intro x2 S h; exact absurd h (fun h => nomatch h)
    | succ n K2 =>
      intro x2 S h H locs Z ls hl
      have h : fX9_forgetSweeps_2 (fX9_forgetSweeps_2L n) x2 S = some (r, S') := h
      unfold fX9_forgetSweeps_2 at h
      refine lv_iload_n hx hb dX9_forgetSweeps_2 rfl (lv_at hl 1 rfl) ?_
      refine lv_if_lt (tgt := 39) hx hb dX9_forgetSweeps_3 (by decide) (fun q => ?_) (fun q => ?_)
      · have h := zi_t q h
        exact zr_v hY P0 hx hb hr hlocks h Z dX9_forgetSweeps_39
      · have h := zi_f q h
        refine lv_iload_n hx hb dX9_forgetSweeps_6 rfl (lv_at hl 1 rfl) ?_
        refine lv_aload_n hx hb dX9_forgetSweeps_7 rfl (lv_at hl 0 rfl) ?_
        refine zgX9_5 hx hb hf hown P0 Z L56 dX9_forgetSweeps_8 ?_
        obtain ⟨r1, S2, ec, h⟩ := zbd_s h
        refine zc_Vi hY P0 ⟨hx, hb, hml, hown, hT⟩ (As := []) (rest := [.int x2]) (kX2_stepsDone l hO  S r1 S2 ec) (cwV 0 hT (zgV mL_X9_132 mI_X2_stepsDone mS_X2_stepsDone mN_X2 mC_X2_stepsDone) rfl rfl rfl hdnX2_stepsDone ⟨Nat.le_of_ble_eq_true rfl, Nat.le_of_ble_eq_true rfl⟩) (zrecX_7 P0 Z) Z rfl hl.1 rfl (Nat.le_of_ble_eq_true rfl) dX9_forgetSweeps_11 (fun H locs Z => ?_)
        refine lv_icmp_gt (tgt := 39) hx hb dX9_forgetSweeps_14 (by decide) (fun q => ?_) (fun q => ?_)
        · have h := zi_t q h
          exact zr_v hY P0 hx hb hr hlocks h Z dX9_forgetSweeps_39
        · have h := zi_f q h
          refine lv_iload_n hx hb dX9_forgetSweeps_17 rfl (lv_at hl 1 rfl) ?_
          refine lv_aload_n hx hb dX9_forgetSweeps_18 rfl (lv_at hl 0 rfl) ?_
          refine zgX9_7 hx hb hf hown P0 Z L67 dX9_forgetSweeps_19 ?_
          refine zaX_10 hx hb P0 Z dX9_forgetSweeps_22 ?_
          refine lv_icmp_ge (tgt := 39) hx hb dX9_forgetSweeps_23 (by decide) (fun q => ?_) (fun q => ?_)
          · have h := zi_t q h
            exact zr_v hY P0 hx hb hr hlocks h Z dX9_forgetSweeps_39
          · have h := zi_f q h
            refine lv_aload_n hx hb dX9_forgetSweeps_26 rfl (lv_at hl 0 rfl) ?_
            refine zgX9_7 hx hb hf hown P0 Z L67 dX9_forgetSweeps_27 ?_
            refine lv_iload_n hx hb dX9_forgetSweeps_30 rfl (lv_at hl 1 rfl) ?_
            refine lv_iconst (v := (nI 0)) hx hb dX9_forgetSweeps_31 (by decide) ?_
            obtain ⟨hin, h⟩ := zck_s h
            refine zsX_10 hO hx hb P0 Z hin dX9_forgetSweeps_32 (fun H locs Z => ?_)
            refine lv_iinc (v := (x2 + (nI 1))) (lv' := [(2, .int (x2 + (nI 1))), (0, .ref (zad g 0))]) hx hb dX9_forgetSweeps_33 hl (k := 1) rfl rfl (by decide) rfl (fun ls hl => ?_)
            refine lv_goto (tgt := 2) hx hb dX9_forgetSweeps_36 (by decide) ?_
            exact K2 (x2 + (nI 1)) (wA S2 10 (x2.toNatClampNeg) (vp_nar .boolean (nI 0))) h _ _ Z ls (lv_sub hl [1, 0] rfl)
  have hl := lv_entry ([.ref (zad g 0), .int a1] : List Value) (n := 3) (Nat.le_of_ble_eq_true rfl)
  rw [lg_entry_eq]
  generalize (lg_sl ([.ref (zad g 0), .int a1] : List Value) ++ List.replicate (3 - (lg_sl ([.ref (zad g 0), .int a1] : List Value)).length) Slot.unset).toArray = ls at hl ⊢
  have hl : lv_has ls 3 [(0, .ref (zad g 0)), (1, .int a1)] := hl
  unfold fX9_forgetSweeps at h
  refine lv_iload_n hx hb dX9_forgetSweeps_0 rfl (lv_at hl 1 rfl) ?_
  refine lv_istore_n (lv' := [(2, .int a1), (0, .ref (zad g 0)), (1, .int a1)]) hx hb dX9_forgetSweeps_1 rfl hl (by decide) rfl (fun ls hl => ?_)
  exact B2 zFU a1 S h _ _ Z ls (lv_sub hl [1, 0] rfl)

set_option maxHeartbeats 4000000 in
set_option maxRecDepth 100000 in
theorem kX9_goOn {g : zG} (l : Launch) (hO : zinjX g) (S : zSt) (r : Unit) (S' : zSt) (h : fX9_goOn S = some (r, S')) : zMv (zYX g) l yX9_goOn vX9_goOn { frames := 0, cells := 0, slots := 0, locals := 0 } ([.ref (zad g 0)] : List Value) S S' := by
  have hY := zOkX hO
  refine Met.ofW (cc := cX9_goOn) (maxL := 1) (ret := none) (by decide) rfl ?_
  intro p e s m args below meth c s₁ B hml hv
  obtain ⟨rfl, hP⟩ := hv
  have hx := B.exec
  have hb := B.bytes
  have hr := B.returns
  have hts := atoms_spec (ws := vX9_goOn) B.pre
  have hT : ∀ w ∈ zTB, w.before ([.ref (zad g 0)] : List Value).toArray s = true := fun w h => hts w (List.mem_cons_of_mem _ h)
  have hown : s.vm.findClass RX9 = some m.cls := findClass_of_methodNamed B.named
  have hlocks := B.notSynchronized
  have P0 := hP.2
  have Z : zZ (zYX g) S s s.heap [] := ⟨hP.1, va_S.rf⟩
  have hf : ∀ w ∈ u_ws RX9 TX9 13, w.before ([.ref (zad g 0)] : List Value).toArray s = true := fun w hw => hT w (mU_X9 w hw)
  have L79 := hT _ mF_X9_79
  have L82 := hT _ mF_X9_82
  have hl := lv_entry ([.ref (zad g 0)] : List Value) (n := 1) (Nat.le_of_ble_eq_true rfl)
  rw [lg_entry_eq]
  generalize (lg_sl ([.ref (zad g 0)] : List Value) ++ List.replicate (1 - (lg_sl ([.ref (zad g 0)] : List Value)).length) Slot.unset).toArray = ls at hl ⊢
  have hl : lv_has ls 1 [(0, .ref (zad g 0))] := hl
  unfold fX9_goOn at h
  refine lv_aload_n hx hb dX9_goOn_0 rfl (lv_at hl 0 rfl) ?_
  refine lv_iconst (v := (nI 0)) hx hb dX9_goOn_1 (by decide) ?_
  refine zpX9_10 hO hx hb hf hown P0 Z L79 dX9_goOn_2 (fun H locs Z => ?_)
  refine lv_aload_n hx hb dX9_goOn_5 rfl (lv_at hl 0 rfl) ?_
  refine lv_iconst (v := (nI 0)) hx hb dX9_goOn_6 (by decide) ?_
  refine zpX9_11 hO hx hb hf hown P0 Z L82 dX9_goOn_7 (fun H locs Z => ?_)
  exact zr_v hY P0 hx hb hr hlocks h Z dX9_goOn_10

set_option maxHeartbeats 4000000 in
set_option maxRecDepth 100000 in
theorem kX9_read {g : zG} (l : Launch) (hO : zinjX g) (S : zSt) (r : Int32) (S' : zSt) (h : fX9_read S = some (r, S')) : zMi (zYX g) l yX9_read vX9_read { frames := 143, cells := 0, slots := 0, locals := 3006 } ([.ref (zad g 0)] : List Value) S r S' := by
  have hY := zOkX hO
  refine Met.ofW (cc := cX9_read) (maxL := 1) (ret := (some .int)) (by decide) rfl ?_
  intro p e s m args below meth c s₁ B hml hv
  obtain ⟨rfl, hP⟩ := hv
  have hx := B.exec
  have hb := B.bytes
  have hr := B.returns
  have hts := atoms_spec (ws := vX9_read) B.pre
  have hT : ∀ w ∈ zTB, w.before ([.ref (zad g 0)] : List Value).toArray s = true := fun w h => hts w (List.mem_cons_of_mem _ h)
  have hown : s.vm.findClass RX9 = some m.cls := findClass_of_methodNamed B.named
  have hlocks := B.notSynchronized
  have P0 := hP.2
  have Z : zZ (zYX g) S s s.heap [] := ⟨hP.1, va_S.rf⟩
  have hf : ∀ w ∈ u_ws RX9 TX9 13, w.before ([.ref (zad g 0)] : List Value).toArray s = true := fun w hw => hT w (mU_X9 w hw)
  have L33 := hT _ mF_X9_33
  have L10 := hT _ mF_X9_10
  have L75 := hT _ mF_X9_75
  have L71 := hT _ mF_X9_71
  have L56 := hT _ mF_X9_56
  have L85 := hT _ mF_X9_85
  have L19 := hT _ mF_X9_19
  have B40 : ∀ (y0 : Int32) (S : zSt), fX9_read_40 y0 S = some (r, S') → ∀ (H : Heap) (locs : List Loc), zZ (zYX g) S s H locs → ∀ ls : Array Slot, lv_has ls 1 [(0, .ref (zad g 0))] → W p l e (headSpec vX9_read { frames := 143, cells := 0, slots := 0, locals := 3006 }).room s m ([.ref (zad g 0)] : List Value).toArray below meth c H locs 0 0 (MQ below (zQi (zYX g) r S') ([.ref (zad g 0)] : List Value).toArray s 0 0 (zYX g).2.2.1) (F0 m 40 ls [.int y0, .ref (zad g 0)]) := by
    intro y0 S h H locs Z ls hl
    unfold fX9_read_40 at h
    obtain ⟨hn, h⟩ := zbo_s h
    refine zpX9_8 hO hx hb hf hown P0 Z L71 hn dX9_read_40 (fun H locs Z => ?_)
    refine lv_aload_n hx hb dX9_read_43 rfl (lv_at hl 0 rfl) ?_
    refine zgX9_8 (v := y0) hx hb hf hown P0 Z L71 rfl dX9_read_44 ?_
    refine lv_if_ne (tgt := 61) hx hb dX9_read_47 (by decide) (fun q => ?_) (fun q => ?_)
    · have h := zi_f q h
      refine lv_aload_n hx hb dX9_read_61 rfl (lv_at hl 0 rfl) ?_
      refine lv_iconst (v := (nI 0)) hx hb dX9_read_62 (by decide) ?_
      obtain ⟨r7, S8, ec, h⟩ := zbd_s h
      refine zc_Vv hY P0 ⟨hx, hb, hml, hown, hT⟩ (As := [.int (nI 0)]) (rest := []) (kX9_forgetSweeps l hO (nI 0) (wI S 0 y0) r7 S8 ec) (cwV 1 hT (zgV mL_X9_109 mI_X9_forgetSweeps mS_X9_forgetSweeps mN_X9 mC_X9_forgetSweeps) rfl rfl rfl hdnX9_forgetSweeps ⟨Nat.le_of_ble_eq_true rfl, Nat.le_of_ble_eq_true rfl⟩) (zrecX_0 P0 Z) Z rfl hl.1 rfl (Nat.le_of_ble_eq_true rfl) dX9_read_63 (fun H locs Z => ?_)
      refine lv_aload_n hx hb dX9_read_66 rfl (lv_at hl 0 rfl) ?_
      refine zgX9_5 hx hb hf hown P0 Z L56 dX9_read_67 ?_
      obtain ⟨r9, S10, ec, h⟩ := zbd_s h
      refine zc_Vv hY P0 ⟨hx, hb, hml, hown, hT⟩ (As := []) (rest := []) (kX2_begin l hO  S8 r9 S10 ec) (cwV 0 hT (zgV mL_X9_112 mI_X2_begin mS_X2_begin mN_X2 mC_X2_begin) rfl rfl rfl hdnX2_begin ⟨Nat.le_of_ble_eq_true rfl, Nat.le_of_ble_eq_true rfl⟩) (zrecX_7 P0 Z) Z rfl hl.1 rfl (Nat.le_of_ble_eq_true rfl) dX9_read_70 (fun H locs Z => ?_)
      refine lv_aload_n hx hb dX9_read_73 rfl (lv_at hl 0 rfl) ?_
      obtain ⟨r11, S12, ec, h⟩ := zbd_s h
      refine zc_Vv hY P0 ⟨hx, hb, hml, hown, hT⟩ (As := []) (rest := []) (kX9_goOn l hO  S10 r11 S12 ec) (cwV 0 hT (zgV mL_X9_115 mI_X9_goOn mS_X9_goOn mN_X9 mC_X9_goOn) rfl rfl rfl hdnX9_goOn ⟨Nat.le_of_ble_eq_true rfl, Nat.le_of_ble_eq_true rfl⟩) (zrecX_0 P0 Z) Z rfl hl.1 rfl (Nat.le_of_ble_eq_true rfl) dX9_read_74 (fun H locs Z => ?_)
      refine lv_aload_n hx hb dX9_read_77 rfl (lv_at hl 0 rfl) ?_
      refine lv_iconst (v := (-1 : Int32)) hx hb dX9_read_78 (by decide) ?_
      refine zpX9_12 hO hx hb hf hown P0 Z L85 dX9_read_79 (fun H locs Z => ?_)
      refine lv_aload_n hx hb dX9_read_82 rfl (lv_at hl 0 rfl) ?_
      refine zgX9_1 hx hb hf hown P0 Z L19 dX9_read_83 ?_
      obtain ⟨r13, S14, ec, h⟩ := zbd_s h
      refine zc_Vi hY P0 ⟨hx, hb, hml, hown, hT⟩ (As := []) (rest := []) (kX4_size l hO  (wI S12 4 (-1 : Int32)) r13 S14 ec) (cwV 0 hT (zgV mL_X9_118 mI_X4_size mS_X4_size mN_X4 mC_X4_size) rfl rfl rfl hdnX4_size ⟨Nat.le_of_ble_eq_true rfl, Nat.le_of_ble_eq_true rfl⟩) (zrecX_2 P0 Z) Z rfl hl.1 rfl (Nat.le_of_ble_eq_true rfl) dX9_read_86 (fun H locs Z => ?_)
      exact zr_i hY P0 hx hb hr hlocks h Z dX9_read_89
    · have h := zi_t q h
      refine lv_bipush (v := (-10 : Int32)) hx hb dX9_read_50 (by decide) ?_
      refine lv_aload_n hx hb dX9_read_52 rfl (lv_at hl 0 rfl) ?_
      refine zgX9_2 hx hb hf hown P0 Z L33 dX9_read_53 ?_
      obtain ⟨r15, S16, ec, h⟩ := zbd_s h
      refine zc_Vi hY P0 ⟨hx, hb, hml, hown, hT⟩ (As := []) (rest := [.int (-10 : Int32)]) (kX5_faultPlace l hO  (wI S 0 y0) r15 S16 ec) (cwV 0 hT (zgV mL_X9_106 mI_X5_faultPlace mS_X5_faultPlace mN_X5 mC_X5_faultPlace) rfl rfl rfl hdnX5_faultPlace ⟨Nat.le_of_ble_eq_true rfl, Nat.le_of_ble_eq_true rfl⟩) (zrecX_3 P0 Z) Z rfl hl.1 rfl (Nat.le_of_ble_eq_true rfl) dX9_read_56 (fun H locs Z => ?_)
      refine lv_isub hx hb dX9_read_59 ?_
      exact zr_i hY P0 hx hb hr hlocks h Z dX9_read_60
  have hl := lv_entry ([.ref (zad g 0)] : List Value) (n := 1) (Nat.le_of_ble_eq_true rfl)
  rw [lg_entry_eq]
  generalize (lg_sl ([.ref (zad g 0)] : List Value) ++ List.replicate (1 - (lg_sl ([.ref (zad g 0)] : List Value)).length) Slot.unset).toArray = ls at hl ⊢
  have hl : lv_has ls 1 [(0, .ref (zad g 0))] := hl
  unfold fX9_read at h
  refine lv_aload_n hx hb dX9_read_0 rfl (lv_at hl 0 rfl) ?_
  refine zgX9_2 hx hb hf hown P0 Z L33 dX9_read_1 ?_
  obtain ⟨r1, S2, ec, h⟩ := zbd_s h
  refine zc_Vv hY P0 ⟨hx, hb, hml, hown, hT⟩ (As := []) (rest := []) (kX5_readProgram l hO  S r1 S2 ec) (cwV 0 hT (zgV mL_X9_100 mI_X5_readProgram mS_X5_readProgram mN_X5 mC_X5_readProgram) rfl rfl rfl hdnX5_readProgram ⟨Nat.le_of_ble_eq_true rfl, Nat.le_of_ble_eq_true rfl⟩) (zrecX_3 P0 Z) Z rfl hl.1 rfl (Nat.le_of_ble_eq_true rfl) dX9_read_4 (fun H locs Z => ?_)
  refine lv_aload_n hx hb dX9_read_7 rfl (lv_at hl 0 rfl) ?_
  refine zgX9_0 hx hb hf hown P0 Z L10 dX9_read_8 ?_
  refine lv_iconst (v := (nI 0)) hx hb dX9_read_11 (by decide) ?_
  obtain ⟨r3, S4, ec, h⟩ := zbd_s h
  refine zc_Vi hY P0 ⟨hx, hb, hml, hown, hT⟩ (As := [.int (nI 0)]) (rest := []) (kX7_keepFirst l hO (nI 0) S2 r3 S4 ec) (cwV 1 hT (zgV mL_X9_96 mI_X7_keepFirst mS_X7_keepFirst mN_X7 mC_X7_keepFirst) rfl rfl rfl hdnX7_keepFirst ⟨Nat.le_of_ble_eq_true rfl, Nat.le_of_ble_eq_true rfl⟩) (zrecX_1 P0 Z) Z rfl hl.1 rfl (Nat.le_of_ble_eq_true rfl) dX9_read_12 (fun H locs Z => ?_)
  refine lv_pop hx hb dX9_read_15 rfl ?_
  refine lv_aload_n hx hb dX9_read_16 rfl (lv_at hl 0 rfl) ?_
  refine lv_aload_n hx hb dX9_read_17 rfl (lv_at hl 0 rfl) ?_
  refine zgX9_2 hx hb hf hown P0 Z L33 dX9_read_18 ?_
  obtain ⟨r5, S6, ec, h⟩ := zbd_s h
  refine zc_Vi hY P0 ⟨hx, hb, hml, hown, hT⟩ (As := []) (rest := [.ref (zad g 0)]) (kX5_faultFound l hO  S4 r5 S6 ec) (cwV 0 hT (zgV mL_X9_103 mI_X5_faultFound mS_X5_faultFound mN_X5 mC_X5_faultFound) rfl rfl rfl hdnX5_faultFound ⟨Nat.le_of_ble_eq_true rfl, Nat.le_of_ble_eq_true rfl⟩) (zrecX_3 P0 Z) Z rfl hl.1 rfl (Nat.le_of_ble_eq_true rfl) dX9_read_21 (fun H locs Z => ?_)
  refine zpX9_9 hO hx hb hf hown P0 Z L75 dX9_read_24 (fun H locs Z => ?_)
  refine lv_aload_n hx hb dX9_read_27 rfl (lv_at hl 0 rfl) ?_
  refine lv_aload_n hx hb dX9_read_28 rfl (lv_at hl 0 rfl) ?_
  refine zgX9_9 (v := r5) hx hb hf hown P0 Z L75 rfl dX9_read_29 ?_
  refine lv_if_ne (tgt := 39) hx hb dX9_read_32 (by decide) (fun q => ?_) (fun q => ?_)
  · have h := zi_f q h
    refine lv_iconst (v := (nI 0)) hx hb dX9_read_39 (by decide) ?_
    exact B40 (nI 0) (wI S6 1 r5) h _ _ Z ls (lv_sub hl [0] rfl)
  · have h := zi_t q h
    refine lv_iconst (v := (nI 1)) hx hb dX9_read_35 (by decide) ?_
    refine lv_goto (tgt := 40) hx hb dX9_read_36 (by decide) ?_
    exact B40 (nI 1) (wI S6 1 r5) h _ _ Z ls (lv_sub hl [0] rfl)

set_option maxHeartbeats 4000000 in
set_option maxRecDepth 100000 in
theorem kX9_fault {g : zG} (l : Launch) (hO : zinjX g) (S : zSt) (r : Int32) (S' : zSt) (h : fX9_fault S = some (r, S')) : zMi (zYX g) l yX9_fault vX9_fault { frames := 0, cells := 0, slots := 0, locals := 0 } ([.ref (zad g 0)] : List Value) S r S' := by
  have hY := zOkX hO
  refine Met.ofW (cc := cX9_fault) (maxL := 1) (ret := (some .int)) (by decide) rfl ?_
  intro p e s m args below meth c s₁ B hml hv
  obtain ⟨rfl, hP⟩ := hv
  have hx := B.exec
  have hb := B.bytes
  have hr := B.returns
  have hts := atoms_spec (ws := vX9_fault) B.pre
  have hT : ∀ w ∈ zTB, w.before ([.ref (zad g 0)] : List Value).toArray s = true := fun w h => hts w (List.mem_cons_of_mem _ h)
  have hown : s.vm.findClass RX9 = some m.cls := findClass_of_methodNamed B.named
  have hlocks := B.notSynchronized
  have P0 := hP.2
  have Z : zZ (zYX g) S s s.heap [] := ⟨hP.1, va_S.rf⟩
  have hf : ∀ w ∈ u_ws RX9 TX9 13, w.before ([.ref (zad g 0)] : List Value).toArray s = true := fun w hw => hT w (mU_X9 w hw)
  have L75 := hT _ mF_X9_75
  have hl := lv_entry ([.ref (zad g 0)] : List Value) (n := 1) (Nat.le_of_ble_eq_true rfl)
  rw [lg_entry_eq]
  generalize (lg_sl ([.ref (zad g 0)] : List Value) ++ List.replicate (1 - (lg_sl ([.ref (zad g 0)] : List Value)).length) Slot.unset).toArray = ls at hl ⊢
  have hl : lv_has ls 1 [(0, .ref (zad g 0))] := hl
  unfold fX9_fault at h
  refine lv_aload_n hx hb dX9_fault_0 rfl (lv_at hl 0 rfl) ?_
  refine zgX9_9 (v := (zI S 1)) hx hb hf hown P0 Z L75 rfl dX9_fault_1 ?_
  exact zr_i hY P0 hx hb hr hlocks h Z dX9_fault_4

set_option maxHeartbeats 4000000 in
set_option maxRecDepth 100000 in
theorem kX0_firstOf {g : zG} (l : Launch) (hO : zinjX g) (a1 : Int32) (S : zSt) (r : Int32) (S' : zSt) (h : fX0_firstOf a1 S = some (r, S')) : zMi (zYX g) l yX0_firstOf vX0_firstOf { frames := 0, cells := 0, slots := 0, locals := 0 } ([.ref (zad g 5), .int a1] : List Value) S r S' := by
  have hY := zOkX hO
  refine Met.ofW (cc := cX0_firstOf) (maxL := 2) (ret := (some .int)) (by decide) rfl ?_
  intro p e s m args below meth c s₁ B hml hv
  obtain ⟨rfl, hP⟩ := hv
  have hx := B.exec
  have hb := B.bytes
  have hr := B.returns
  have hts := atoms_spec (ws := vX0_firstOf) B.pre
  have hT : ∀ w ∈ zTB, w.before ([.ref (zad g 5), .int a1] : List Value).toArray s = true := fun w h => hts w (List.mem_cons_of_mem _ h)
  have hown : s.vm.findClass RX0 = some m.cls := findClass_of_methodNamed B.named
  have hlocks := B.notSynchronized
  have P0 := hP.2
  have Z : zZ (zYX g) S s s.heap [] := ⟨hP.1, va_S.rf⟩
  have hf : ∀ w ∈ u_ws RX0 TX0 9, w.before ([.ref (zad g 5), .int a1] : List Value).toArray s = true := fun w hw => hT w (mU_X0 w hw)
  have L15 := hT _ mF_X0_15
  have hl := lv_entry ([.ref (zad g 5), .int a1] : List Value) (n := 2) (Nat.le_of_ble_eq_true rfl)
  rw [lg_entry_eq]
  generalize (lg_sl ([.ref (zad g 5), .int a1] : List Value) ++ List.replicate (2 - (lg_sl ([.ref (zad g 5), .int a1] : List Value)).length) Slot.unset).toArray = ls at hl ⊢
  have hl : lv_has ls 2 [(0, .ref (zad g 5)), (1, .int a1)] := hl
  unfold fX0_firstOf at h
  refine lv_iload_n hx hb dX0_firstOf_0 rfl (lv_at hl 1 rfl) ?_
  refine lv_if_lt (tgt := 20) hx hb dX0_firstOf_1 (by decide) (fun q => ?_) (fun q => ?_)
  · have h := zi_t q h
    refine lv_iconst (v := (-1 : Int32)) hx hb dX0_firstOf_20 (by decide) ?_
    exact zr_i hY P0 hx hb hr hlocks h Z dX0_firstOf_21
  · have h := zi_f q h
    refine lv_iload_n hx hb dX0_firstOf_4 rfl (lv_at hl 1 rfl) ?_
    refine lv_sipush (v := (nI 400)) hx hb dX0_firstOf_5 (by decide) ?_
    refine lv_icmp_ge (tgt := 20) hx hb dX0_firstOf_8 (by decide) (fun q => ?_) (fun q => ?_)
    · have h := zi_t q h
      refine lv_iconst (v := (-1 : Int32)) hx hb dX0_firstOf_20 (by decide) ?_
      exact zr_i hY P0 hx hb hr hlocks h Z dX0_firstOf_21
    · have h := zi_f q h
      refine lv_aload_n hx hb dX0_firstOf_11 rfl (lv_at hl 0 rfl) ?_
      refine zgX0_1 hx hb hf hown P0 Z L15 dX0_firstOf_12 ?_
      refine lv_iload_n hx hb dX0_firstOf_15 rfl (lv_at hl 1 rfl) ?_
      obtain ⟨v1, ev, hin, h⟩ := zld_s h
      refine zlX_26 hx hb P0 Z ev hin dX0_firstOf_16 ?_
      refine lv_goto (tgt := 21) hx hb dX0_firstOf_17 (by decide) ?_
      exact zr_i hY P0 hx hb hr hlocks h Z dX0_firstOf_21

set_option maxHeartbeats 4000000 in
set_option maxRecDepth 100000 in
theorem kX0_hasRoom {g : zG} (l : Launch) (hO : zinjX g) (a1 : Int32) (S : zSt) (r : Int32) (S' : zSt) (h : fX0_hasRoom a1 S = some (r, S')) : zMi (zYX g) l yX0_hasRoom vX0_hasRoom { frames := 0, cells := 0, slots := 0, locals := 0 } ([.ref (zad g 5), .int a1] : List Value) S r S' := by
  have hY := zOkX hO
  refine Met.ofW (cc := cX0_hasRoom) (maxL := 2) (ret := (some .boolean)) (by decide) rfl ?_
  intro p e s m args below meth c s₁ B hml hv
  obtain ⟨rfl, hP⟩ := hv
  have hx := B.exec
  have hb := B.bytes
  have hr := B.returns
  have hts := atoms_spec (ws := vX0_hasRoom) B.pre
  have hT : ∀ w ∈ zTB, w.before ([.ref (zad g 5), .int a1] : List Value).toArray s = true := fun w h => hts w (List.mem_cons_of_mem _ h)
  have hown : s.vm.findClass RX0 = some m.cls := findClass_of_methodNamed B.named
  have hlocks := B.notSynchronized
  have P0 := hP.2
  have Z : zZ (zYX g) S s s.heap [] := ⟨hP.1, va_S.rf⟩
  have hf : ∀ w ∈ u_ws RX0 TX0 9, w.before ([.ref (zad g 5), .int a1] : List Value).toArray s = true := fun w hw => hT w (mU_X0 w hw)
  have L24 := hT _ mF_X0_24
  have hl := lv_entry ([.ref (zad g 5), .int a1] : List Value) (n := 2) (Nat.le_of_ble_eq_true rfl)
  rw [lg_entry_eq]
  generalize (lg_sl ([.ref (zad g 5), .int a1] : List Value) ++ List.replicate (2 - (lg_sl ([.ref (zad g 5), .int a1] : List Value)).length) Slot.unset).toArray = ls at hl ⊢
  have hl : lv_has ls 2 [(0, .ref (zad g 5)), (1, .int a1)] := hl
  unfold fX0_hasRoom at h
  refine lv_aload_n hx hb dX0_hasRoom_0 rfl (lv_at hl 0 rfl) ?_
  refine zgX0_4 (v := (zI S 14)) hx hb hf hown P0 Z L24 rfl dX0_hasRoom_1 ?_
  refine lv_iload_n hx hb dX0_hasRoom_4 rfl (lv_at hl 1 rfl) ?_
  refine lv_iadd hx hb dX0_hasRoom_5 ?_
  refine lv_sipush (v := (nI 400)) hx hb dX0_hasRoom_6 (by decide) ?_
  refine lv_icmp_gt (tgt := 16) hx hb dX0_hasRoom_9 (by decide) (fun q => ?_) (fun q => ?_)
  · have h := zi_t q h
    refine lv_iconst (v := (nI 0)) hx hb dX0_hasRoom_16 (by decide) ?_
    exact zr_z hY P0 hx hb hr hlocks (by decide) h Z dX0_hasRoom_17
  · have h := zi_f q h
    refine lv_iconst (v := (nI 1)) hx hb dX0_hasRoom_12 (by decide) ?_
    refine lv_goto (tgt := 17) hx hb dX0_hasRoom_13 (by decide) ?_
    exact zr_z hY P0 hx hb hr hlocks (by decide) h Z dX0_hasRoom_17

set_option maxHeartbeats 4000000 in
set_option maxRecDepth 100000 in
theorem kX4_nodesOf {g : zG} (l : Launch) (hO : zinjX g) (a1 : Int32) (S : zSt) (r : Int32) (S' : zSt) (h : fX4_nodesOf a1 S = some (r, S')) : zMi (zYX g) l yX4_nodesOf vX4_nodesOf { frames := 1, cells := 0, slots := 0, locals := 20 } ([.ref (zad g 2), .int a1] : List Value) S r S' := by
  have hY := zOkX hO
  refine Met.ofW (cc := cX4_nodesOf) (maxL := 2) (ret := (some .int)) (by decide) rfl ?_
  intro p e s m args below meth c s₁ B hml hv
  obtain ⟨rfl, hP⟩ := hv
  have hx := B.exec
  have hb := B.bytes
  have hr := B.returns
  have hts := atoms_spec (ws := vX4_nodesOf) B.pre
  have hT : ∀ w ∈ zTB, w.before ([.ref (zad g 2), .int a1] : List Value).toArray s = true := fun w h => hts w (List.mem_cons_of_mem _ h)
  have hown : s.vm.findClass RX4 = some m.cls := findClass_of_methodNamed B.named
  have hlocks := B.notSynchronized
  have P0 := hP.2
  have Z : zZ (zYX g) S s s.heap [] := ⟨hP.1, va_S.rf⟩
  have hf : ∀ w ∈ u_ws RX4 TX4 12, w.before ([.ref (zad g 2), .int a1] : List Value).toArray s = true := fun w hw => hT w (mU_X4 w hw)
  have L25 := hT _ mF_X4_25
  have hl := lv_entry ([.ref (zad g 2), .int a1] : List Value) (n := 2) (Nat.le_of_ble_eq_true rfl)
  rw [lg_entry_eq]
  generalize (lg_sl ([.ref (zad g 2), .int a1] : List Value) ++ List.replicate (2 - (lg_sl ([.ref (zad g 2), .int a1] : List Value)).length) Slot.unset).toArray = ls at hl ⊢
  have hl : lv_has ls 2 [(0, .ref (zad g 2)), (1, .int a1)] := hl
  unfold fX4_nodesOf at h
  refine lv_iload_n hx hb dX4_nodesOf_0 rfl (lv_at hl 1 rfl) ?_
  obtain ⟨r1, S2, ec, h⟩ := zbd_s h
  refine zc_Si hY P0 ⟨hx, hb, hml, hown, hT⟩ (As := [.int a1]) (rest := []) (kX4_isDefinition l hO a1 S r1 S2 ec) (va_cwS 1 hT (zgS mL_X4_60 mT_X4_isDefinition mN_X4 mC_X4_isDefinition) rfl rfl rfl hdnX4_isDefinition ⟨Nat.le_of_ble_eq_true rfl, Nat.le_of_ble_eq_true rfl⟩) Z rfl hl.1 rfl (Nat.le_of_ble_eq_true rfl) dX4_nodesOf_1 (fun H locs Z => ?_)
  refine lv_if_eq (tgt := 16) hx hb dX4_nodesOf_4 (by decide) (fun q => ?_) (fun q => ?_)
  · have h := zi_t q h
    refine lv_iconst (v := (nI 0)) hx hb dX4_nodesOf_16 (by decide) ?_
    exact zr_i hY P0 hx hb hr hlocks h Z dX4_nodesOf_17
  · have h := zi_f q h
    refine lv_aload_n hx hb dX4_nodesOf_7 rfl (lv_at hl 0 rfl) ?_
    refine zgX4_4 hx hb hf hown P0 Z L25 dX4_nodesOf_8 ?_
    refine lv_iload_n hx hb dX4_nodesOf_11 rfl (lv_at hl 1 rfl) ?_
    obtain ⟨v3, ev, hin, h⟩ := zld_s h
    refine zlX_16 hx hb P0 Z ev hin dX4_nodesOf_12 ?_
    refine lv_goto (tgt := 17) hx hb dX4_nodesOf_13 (by decide) ?_
    exact zr_i hY P0 hx hb hr hlocks h Z dX4_nodesOf_17

set_option maxHeartbeats 4000000 in
set_option maxRecDepth 100000 in
theorem kX6_at {g : zG} (l : Launch) (hO : zinjX g) (a1 : Int32) (S : zSt) (r : Int32) (S' : zSt) (h : fX6_at a1 S = some (r, S')) : zMi (zYX g) l yX6_at vX6_at { frames := 0, cells := 0, slots := 0, locals := 0 } ([.ref (zad g 6), .int a1] : List Value) S r S' := by
  have hY := zOkX hO
  refine Met.ofW (cc := cX6_at) (maxL := 2) (ret := (some .int)) (by decide) rfl ?_
  intro p e s m args below meth c s₁ B hml hv
  obtain ⟨rfl, hP⟩ := hv
  have hx := B.exec
  have hb := B.bytes
  have hr := B.returns
  have hts := atoms_spec (ws := vX6_at) B.pre
  have hT : ∀ w ∈ zTB, w.before ([.ref (zad g 6), .int a1] : List Value).toArray s = true := fun w h => hts w (List.mem_cons_of_mem _ h)
  have hown : s.vm.findClass RX6 = some m.cls := findClass_of_methodNamed B.named
  have hlocks := B.notSynchronized
  have P0 := hP.2
  have Z : zZ (zYX g) S s s.heap [] := ⟨hP.1, va_S.rf⟩
  have hf : ∀ w ∈ u_ws RX6 TX6 4, w.before ([.ref (zad g 6), .int a1] : List Value).toArray s = true := fun w hw => hT w (mU_X6 w hw)
  have L18 := hT _ mF_X6_18
  have L9 := hT _ mF_X6_9
  have hl := lv_entry ([.ref (zad g 6), .int a1] : List Value) (n := 2) (Nat.le_of_ble_eq_true rfl)
  rw [lg_entry_eq]
  generalize (lg_sl ([.ref (zad g 6), .int a1] : List Value) ++ List.replicate (2 - (lg_sl ([.ref (zad g 6), .int a1] : List Value)).length) Slot.unset).toArray = ls at hl ⊢
  have hl : lv_has ls 2 [(0, .ref (zad g 6)), (1, .int a1)] := hl
  unfold fX6_at at h
  refine lv_iload_n hx hb dX6_at_0 rfl (lv_at hl 1 rfl) ?_
  refine lv_if_lt (tgt := 28) hx hb dX6_at_1 (by decide) (fun q => ?_) (fun q => ?_)
  · have h := zi_t q h
    refine lv_iconst (v := (-1 : Int32)) hx hb dX6_at_28 (by decide) ?_
    exact zr_i hY P0 hx hb hr hlocks h Z dX6_at_29
  · have h := zi_f q h
    refine lv_iload_n hx hb dX6_at_4 rfl (lv_at hl 1 rfl) ?_
    refine lv_aload_n hx hb dX6_at_5 rfl (lv_at hl 0 rfl) ?_
    refine zgX6_2 (v := (zI S 19)) hx hb hf hown P0 Z L18 rfl dX6_at_6 ?_
    refine lv_icmp_ge (tgt := 28) hx hb dX6_at_9 (by decide) (fun q => ?_) (fun q => ?_)
    · have h := zi_t q h
      refine lv_iconst (v := (-1 : Int32)) hx hb dX6_at_28 (by decide) ?_
      exact zr_i hY P0 hx hb hr hlocks h Z dX6_at_29
    · have h := zi_f q h
      refine lv_iload_n hx hb dX6_at_12 rfl (lv_at hl 1 rfl) ?_
      refine lv_sipush (v := (nI 600)) hx hb dX6_at_13 (by decide) ?_
      refine lv_icmp_ge (tgt := 28) hx hb dX6_at_16 (by decide) (fun q => ?_) (fun q => ?_)
      · have h := zi_t q h
        refine lv_iconst (v := (-1 : Int32)) hx hb dX6_at_28 (by decide) ?_
        exact zr_i hY P0 hx hb hr hlocks h Z dX6_at_29
      · have h := zi_f q h
        refine lv_aload_n hx hb dX6_at_19 rfl (lv_at hl 0 rfl) ?_
        refine zgX6_0 hx hb hf hown P0 Z L9 dX6_at_20 ?_
        refine lv_iload_n hx hb dX6_at_23 rfl (lv_at hl 1 rfl) ?_
        obtain ⟨v1, ev, hin, h⟩ := zld_s h
        refine zlX_29 hx hb P0 Z ev hin dX6_at_24 ?_
        refine lv_goto (tgt := 29) hx hb dX6_at_25 (by decide) ?_
        exact zr_i hY P0 hx hb hr hlocks h Z dX6_at_29

set_option maxHeartbeats 4000000 in
set_option maxRecDepth 100000 in
theorem kX6_beginOf {g : zG} (l : Launch) (hO : zinjX g) (a1 : Int32) (S : zSt) (r : Int32) (S' : zSt) (h : fX6_beginOf a1 S = some (r, S')) : zMi (zYX g) l yX6_beginOf vX6_beginOf { frames := 0, cells := 0, slots := 0, locals := 0 } ([.ref (zad g 6), .int a1] : List Value) S r S' := by
  have hY := zOkX hO
  refine Met.ofW (cc := cX6_beginOf) (maxL := 2) (ret := (some .int)) (by decide) rfl ?_
  intro p e s m args below meth c s₁ B hml hv
  obtain ⟨rfl, hP⟩ := hv
  have hx := B.exec
  have hb := B.bytes
  have hr := B.returns
  have hts := atoms_spec (ws := vX6_beginOf) B.pre
  have hT : ∀ w ∈ zTB, w.before ([.ref (zad g 6), .int a1] : List Value).toArray s = true := fun w h => hts w (List.mem_cons_of_mem _ h)
  have hown : s.vm.findClass RX6 = some m.cls := findClass_of_methodNamed B.named
  have hlocks := B.notSynchronized
  have P0 := hP.2
  have Z : zZ (zYX g) S s s.heap [] := ⟨hP.1, va_S.rf⟩
  have hf : ∀ w ∈ u_ws RX6 TX6 4, w.before ([.ref (zad g 6), .int a1] : List Value).toArray s = true := fun w hw => hT w (mU_X6 w hw)
  have L15 := hT _ mF_X6_15
  have hl := lv_entry ([.ref (zad g 6), .int a1] : List Value) (n := 2) (Nat.le_of_ble_eq_true rfl)
  rw [lg_entry_eq]
  generalize (lg_sl ([.ref (zad g 6), .int a1] : List Value) ++ List.replicate (2 - (lg_sl ([.ref (zad g 6), .int a1] : List Value)).length) Slot.unset).toArray = ls at hl ⊢
  have hl : lv_has ls 2 [(0, .ref (zad g 6)), (1, .int a1)] := hl
  unfold fX6_beginOf at h
  refine lv_iload_n hx hb dX6_beginOf_0 rfl (lv_at hl 1 rfl) ?_
  refine lv_if_lt (tgt := 20) hx hb dX6_beginOf_1 (by decide) (fun q => ?_) (fun q => ?_)
  · have h := zi_t q h
    refine lv_iconst (v := (nI 0)) hx hb dX6_beginOf_20 (by decide) ?_
    exact zr_i hY P0 hx hb hr hlocks h Z dX6_beginOf_21
  · have h := zi_f q h
    refine lv_iload_n hx hb dX6_beginOf_4 rfl (lv_at hl 1 rfl) ?_
    refine lv_sipush (v := (nI 600)) hx hb dX6_beginOf_5 (by decide) ?_
    refine lv_icmp_ge (tgt := 20) hx hb dX6_beginOf_8 (by decide) (fun q => ?_) (fun q => ?_)
    · have h := zi_t q h
      refine lv_iconst (v := (nI 0)) hx hb dX6_beginOf_20 (by decide) ?_
      exact zr_i hY P0 hx hb hr hlocks h Z dX6_beginOf_21
    · have h := zi_f q h
      refine lv_aload_n hx hb dX6_beginOf_11 rfl (lv_at hl 0 rfl) ?_
      refine zgX6_1 hx hb hf hown P0 Z L15 dX6_beginOf_12 ?_
      refine lv_iload_n hx hb dX6_beginOf_15 rfl (lv_at hl 1 rfl) ?_
      obtain ⟨v1, ev, hin, h⟩ := zld_s h
      refine zlX_30 hx hb P0 Z ev hin dX6_beginOf_16 ?_
      refine lv_goto (tgt := 21) hx hb dX6_beginOf_17 (by decide) ?_
      exact zr_i hY P0 hx hb hr hlocks h Z dX6_beginOf_21

set_option maxHeartbeats 4000000 in
set_option maxRecDepth 100000 in
theorem kX6_height {g : zG} (l : Launch) (hO : zinjX g) (S : zSt) (r : Int32) (S' : zSt) (h : fX6_height S = some (r, S')) : zMi (zYX g) l yX6_height vX6_height { frames := 1, cells := 0, slots := 0, locals := 21 } ([.ref (zad g 6)] : List Value) S r S' := by
  have hY := zOkX hO
  refine Met.ofW (cc := cX6_height) (maxL := 1) (ret := (some .int)) (by decide) rfl ?_
  intro p e s m args below meth c s₁ B hml hv
  obtain ⟨rfl, hP⟩ := hv
  have hx := B.exec
  have hb := B.bytes
  have hr := B.returns
  have hts := atoms_spec (ws := vX6_height) B.pre
  have hT : ∀ w ∈ zTB, w.before ([.ref (zad g 6)] : List Value).toArray s = true := fun w h => hts w (List.mem_cons_of_mem _ h)
  have hown : s.vm.findClass RX6 = some m.cls := findClass_of_methodNamed B.named
  have hlocks := B.notSynchronized
  have P0 := hP.2
  have Z : zZ (zYX g) S s s.heap [] := ⟨hP.1, va_S.rf⟩
  have hf : ∀ w ∈ u_ws RX6 TX6 4, w.before ([.ref (zad g 6)] : List Value).toArray s = true := fun w hw => hT w (mU_X6 w hw)
  have L18 := hT _ mF_X6_18
  have L22 := hT _ mF_X6_22
  have hl := lv_entry ([.ref (zad g 6)] : List Value) (n := 1) (Nat.le_of_ble_eq_true rfl)
  rw [lg_entry_eq]
  generalize (lg_sl ([.ref (zad g 6)] : List Value) ++ List.replicate (1 - (lg_sl ([.ref (zad g 6)] : List Value)).length) Slot.unset).toArray = ls at hl ⊢
  have hl : lv_has ls 1 [(0, .ref (zad g 6))] := hl
  unfold fX6_height at h
  refine lv_aload_n hx hb dX6_height_0 rfl (lv_at hl 0 rfl) ?_
  refine zgX6_2 (v := (zI S 19)) hx hb hf hown P0 Z L18 rfl dX6_height_1 ?_
  refine lv_aload_n hx hb dX6_height_4 rfl (lv_at hl 0 rfl) ?_
  refine lv_aload_n hx hb dX6_height_5 rfl (lv_at hl 0 rfl) ?_
  refine zgX6_3 (v := (zI S 20)) hx hb hf hown P0 Z L22 rfl dX6_height_6 ?_
  obtain ⟨r1, S2, ec, h⟩ := zbd_s h
  refine zc_Vi hY P0 ⟨hx, hb, hml, hown, hT⟩ (As := [.int (zI S 20)]) (rest := [.int (zI S 19)]) (kX6_beginOf l hO (zI S 20) S r1 S2 ec) (cwV 1 hT (zgV mL_X6_29 mI_X6_beginOf mS_X6_beginOf mN_X6 mC_X6_beginOf) rfl rfl rfl hdnX6_beginOf ⟨Nat.le_of_ble_eq_true rfl, Nat.le_of_ble_eq_true rfl⟩) (zrecX_6 P0 Z) Z rfl hl.1 rfl (Nat.le_of_ble_eq_true rfl) dX6_height_9 (fun H locs Z => ?_)
  refine lv_isub hx hb dX6_height_12 ?_
  exact zr_i hY P0 hx hb hr hlocks h Z dX6_height_13

set_option maxHeartbeats 4000000 in
set_option maxRecDepth 100000 in
theorem kX6_fromTop {g : zG} (l : Launch) (hO : zinjX g) (a1 : Int32) (S : zSt) (r : Int32) (S' : zSt) (h : fX6_fromTop a1 S = some (r, S')) : zMi (zYX g) l yX6_fromTop vX6_fromTop { frames := 2, cells := 0, slots := 0, locals := 41 } ([.ref (zad g 6), .int a1] : List Value) S r S' := by
  have hY := zOkX hO
  refine Met.ofW (cc := cX6_fromTop) (maxL := 2) (ret := (some .int)) (by decide) rfl ?_
  intro p e s m args below meth c s₁ B hml hv
  obtain ⟨rfl, hP⟩ := hv
  have hx := B.exec
  have hb := B.bytes
  have hr := B.returns
  have hts := atoms_spec (ws := vX6_fromTop) B.pre
  have hT : ∀ w ∈ zTB, w.before ([.ref (zad g 6), .int a1] : List Value).toArray s = true := fun w h => hts w (List.mem_cons_of_mem _ h)
  have hown : s.vm.findClass RX6 = some m.cls := findClass_of_methodNamed B.named
  have hlocks := B.notSynchronized
  have P0 := hP.2
  have Z : zZ (zYX g) S s s.heap [] := ⟨hP.1, va_S.rf⟩
  have hf : ∀ w ∈ u_ws RX6 TX6 4, w.before ([.ref (zad g 6), .int a1] : List Value).toArray s = true := fun w hw => hT w (mU_X6 w hw)
  have L18 := hT _ mF_X6_18
  have hl := lv_entry ([.ref (zad g 6), .int a1] : List Value) (n := 2) (Nat.le_of_ble_eq_true rfl)
  rw [lg_entry_eq]
  generalize (lg_sl ([.ref (zad g 6), .int a1] : List Value) ++ List.replicate (2 - (lg_sl ([.ref (zad g 6), .int a1] : List Value)).length) Slot.unset).toArray = ls at hl ⊢
  have hl : lv_has ls 2 [(0, .ref (zad g 6)), (1, .int a1)] := hl
  unfold fX6_fromTop at h
  refine lv_iload_n hx hb dX6_fromTop_0 rfl (lv_at hl 1 rfl) ?_
  refine lv_if_lt (tgt := 27) hx hb dX6_fromTop_1 (by decide) (fun q => ?_) (fun q => ?_)
  · have h := zi_t q h
    refine lv_iconst (v := (-1 : Int32)) hx hb dX6_fromTop_27 (by decide) ?_
    exact zr_i hY P0 hx hb hr hlocks h Z dX6_fromTop_28
  · have h := zi_f q h
    refine lv_iload_n hx hb dX6_fromTop_4 rfl (lv_at hl 1 rfl) ?_
    refine lv_aload_n hx hb dX6_fromTop_5 rfl (lv_at hl 0 rfl) ?_
    obtain ⟨r1, S2, ec, h⟩ := zbd_s h
    refine zc_Vi hY P0 ⟨hx, hb, hml, hown, hT⟩ (As := []) (rest := [.int a1]) (kX6_height l hO  S r1 S2 ec) (cwV 0 hT (zgV mL_X6_33 mI_X6_height mS_X6_height mN_X6 mC_X6_height) rfl rfl rfl hdnX6_height ⟨Nat.le_of_ble_eq_true rfl, Nat.le_of_ble_eq_true rfl⟩) (zrecX_6 P0 Z) Z rfl hl.1 rfl (Nat.le_of_ble_eq_true rfl) dX6_fromTop_6 (fun H locs Z => ?_)
    refine lv_icmp_ge (tgt := 27) hx hb dX6_fromTop_9 (by decide) (fun q => ?_) (fun q => ?_)
    · have h := zi_t q h
      refine lv_iconst (v := (-1 : Int32)) hx hb dX6_fromTop_27 (by decide) ?_
      exact zr_i hY P0 hx hb hr hlocks h Z dX6_fromTop_28
    · have h := zi_f q h
      refine lv_aload_n hx hb dX6_fromTop_12 rfl (lv_at hl 0 rfl) ?_
      refine lv_aload_n hx hb dX6_fromTop_13 rfl (lv_at hl 0 rfl) ?_
      refine zgX6_2 (v := (zI S2 19)) hx hb hf hown P0 Z L18 rfl dX6_fromTop_14 ?_
      refine lv_iconst (v := (nI 1)) hx hb dX6_fromTop_17 (by decide) ?_
      refine lv_isub hx hb dX6_fromTop_18 ?_
      refine lv_iload_n hx hb dX6_fromTop_19 rfl (lv_at hl 1 rfl) ?_
      refine lv_isub hx hb dX6_fromTop_20 ?_
      obtain ⟨r3, S4, ec, h⟩ := zbd_s h
      refine zc_Vi hY P0 ⟨hx, hb, hml, hown, hT⟩ (As := [.int (((zI S2 19) - (nI 1)) - a1)]) (rest := []) (kX6_at l hO (((zI S2 19) - (nI 1)) - a1) S2 r3 S4 ec) (cwV 1 hT (zgV mL_X6_37 mI_X6_at mS_X6_at mN_X6 mC_X6_at) rfl rfl rfl hdnX6_at ⟨Nat.le_of_ble_eq_true rfl, Nat.le_of_ble_eq_true rfl⟩) (zrecX_6 P0 Z) Z rfl hl.1 rfl (Nat.le_of_ble_eq_true rfl) dX6_fromTop_21 (fun H locs Z => ?_)
      refine lv_goto (tgt := 28) hx hb dX6_fromTop_24 (by decide) ?_
      exact zr_i hY P0 hx hb hr hlocks h Z dX6_fromTop_28

set_option maxHeartbeats 4000000 in
set_option maxRecDepth 100000 in
theorem kX6_hasRoom {g : zG} (l : Launch) (hO : zinjX g) (S : zSt) (r : Int32) (S' : zSt) (h : fX6_hasRoom S = some (r, S')) : zMi (zYX g) l yX6_hasRoom vX6_hasRoom { frames := 0, cells := 0, slots := 0, locals := 0 } ([.ref (zad g 6)] : List Value) S r S' := by
  have hY := zOkX hO
  refine Met.ofW (cc := cX6_hasRoom) (maxL := 1) (ret := (some .boolean)) (by decide) rfl ?_
  intro p e s m args below meth c s₁ B hml hv
  obtain ⟨rfl, hP⟩ := hv
  have hx := B.exec
  have hb := B.bytes
  have hr := B.returns
  have hts := atoms_spec (ws := vX6_hasRoom) B.pre
  have hT : ∀ w ∈ zTB, w.before ([.ref (zad g 6)] : List Value).toArray s = true := fun w h => hts w (List.mem_cons_of_mem _ h)
  have hown : s.vm.findClass RX6 = some m.cls := findClass_of_methodNamed B.named
  have hlocks := B.notSynchronized
  have P0 := hP.2
  have Z : zZ (zYX g) S s s.heap [] := ⟨hP.1, va_S.rf⟩
  have hf : ∀ w ∈ u_ws RX6 TX6 4, w.before ([.ref (zad g 6)] : List Value).toArray s = true := fun w hw => hT w (mU_X6 w hw)
  have L18 := hT _ mF_X6_18
  have hl := lv_entry ([.ref (zad g 6)] : List Value) (n := 1) (Nat.le_of_ble_eq_true rfl)
  rw [lg_entry_eq]
  generalize (lg_sl ([.ref (zad g 6)] : List Value) ++ List.replicate (1 - (lg_sl ([.ref (zad g 6)] : List Value)).length) Slot.unset).toArray = ls at hl ⊢
  have hl : lv_has ls 1 [(0, .ref (zad g 6))] := hl
  unfold fX6_hasRoom at h
  refine lv_aload_n hx hb dX6_hasRoom_0 rfl (lv_at hl 0 rfl) ?_
  refine zgX6_2 (v := (zI S 19)) hx hb hf hown P0 Z L18 rfl dX6_hasRoom_1 ?_
  refine lv_sipush (v := (nI 600)) hx hb dX6_hasRoom_4 (by decide) ?_
  refine lv_icmp_ge (tgt := 14) hx hb dX6_hasRoom_7 (by decide) (fun q => ?_) (fun q => ?_)
  · have h := zi_t q h
    refine lv_iconst (v := (nI 0)) hx hb dX6_hasRoom_14 (by decide) ?_
    exact zr_z hY P0 hx hb hr hlocks (by decide) h Z dX6_hasRoom_15
  · have h := zi_f q h
    refine lv_iconst (v := (nI 1)) hx hb dX6_hasRoom_10 (by decide) ?_
    refine lv_goto (tgt := 15) hx hb dX6_hasRoom_11 (by decide) ?_
    exact zr_z hY P0 hx hb hr hlocks (by decide) h Z dX6_hasRoom_15

set_option maxHeartbeats 4000000 in
set_option maxRecDepth 100000 in
theorem kX2_hasRoomFor {g : zG} (l : Launch) (hO : zinjX g) (a1 : Int32) (S : zSt) (r : Int32) (S' : zSt) (h : fX2_hasRoomFor a1 S = some (r, S')) : zMi (zYX g) l yX2_hasRoomFor vX2_hasRoomFor { frames := 3, cells := 0, slots := 0, locals := 62 } ([.ref (zad g 7), .int a1] : List Value) S r S' := by
  have hY := zOkX hO
  refine Met.ofW (cc := cX2_hasRoomFor) (maxL := 2) (ret := (some .boolean)) (by decide) rfl ?_
  intro p e s m args below meth c s₁ B hml hv
  obtain ⟨rfl, hP⟩ := hv
  have hx := B.exec
  have hb := B.bytes
  have hr := B.returns
  have hts := atoms_spec (ws := vX2_hasRoomFor) B.pre
  have hT : ∀ w ∈ zTB, w.before ([.ref (zad g 7), .int a1] : List Value).toArray s = true := fun w h => hts w (List.mem_cons_of_mem _ h)
  have hown : s.vm.findClass RX2 = some m.cls := findClass_of_methodNamed B.named
  have hlocks := B.notSynchronized
  have P0 := hP.2
  have Z : zZ (zYX g) S s s.heap [] := ⟨hP.1, va_S.rf⟩
  have hf : ∀ w ∈ u_ws RX2 TX2 11, w.before ([.ref (zad g 7), .int a1] : List Value).toArray s = true := fun w hw => hT w (mU_X2 w hw)
  have L42 := hT _ mF_X2_42
  have L38 := hT _ mF_X2_38
  have L34 := hT _ mF_X2_34
  have hl := lv_entry ([.ref (zad g 7), .int a1] : List Value) (n := 2) (Nat.le_of_ble_eq_true rfl)
  rw [lg_entry_eq]
  generalize (lg_sl ([.ref (zad g 7), .int a1] : List Value) ++ List.replicate (2 - (lg_sl ([.ref (zad g 7), .int a1] : List Value)).length) Slot.unset).toArray = ls at hl ⊢
  have hl : lv_has ls 2 [(0, .ref (zad g 7)), (1, .int a1)] := hl
  unfold fX2_hasRoomFor at h
  refine lv_iload_n hx hb dX2_hasRoomFor_0 rfl (lv_at hl 1 rfl) ?_
  by_cases q1 : a1 = (nI 1)
  · have h := zi_t q1 h
    refine ztbl (off := 27) (tgt := 28) hx hb q1 dX2_hasRoomFor_1 (by decide) (by decide) (by decide) (by decide) ?_
    refine lv_aload_n hx hb dX2_hasRoomFor_28 rfl (lv_at hl 0 rfl) ?_
    refine zgX2_2 hx hb hf hown P0 Z L42 dX2_hasRoomFor_29 ?_
    obtain ⟨r1, S2, ec, h⟩ := zbd_s h
    refine zc_Vi hY P0 ⟨hx, hb, hml, hown, hT⟩ (As := []) (rest := []) (kX6_hasRoom l hO  S r1 S2 ec) (cwV 0 hT (zgV mL_X2_159 mI_X6_hasRoom mS_X6_hasRoom mN_X6 mC_X6_hasRoom) rfl rfl rfl hdnX6_hasRoom ⟨Nat.le_of_ble_eq_true rfl, Nat.le_of_ble_eq_true rfl⟩) (zrecX_6 P0 Z) Z rfl hl.1 rfl (Nat.le_of_ble_eq_true rfl) dX2_hasRoomFor_32 (fun H locs Z => ?_)
    obtain ⟨hn, h⟩ := zbo_s h
    exact zr_z hY P0 hx hb hr hlocks hn h Z dX2_hasRoomFor_35
  have h := zi_f q1 h
  by_cases q2 : a1 = (nI 2)
  · have h := zi_t q2 h
    refine ztbl (off := 35) (tgt := 36) hx hb q2 dX2_hasRoomFor_1 (by decide) (by decide) (by decide) (by decide) ?_
    refine lv_aload_n hx hb dX2_hasRoomFor_36 rfl (lv_at hl 0 rfl) ?_
    refine zgX2_1 hx hb hf hown P0 Z L38 dX2_hasRoomFor_37 ?_
    refine lv_aload_n hx hb dX2_hasRoomFor_40 rfl (lv_at hl 0 rfl) ?_
    refine zgX2_0 hx hb hf hown P0 Z L34 dX2_hasRoomFor_41 ?_
    refine lv_aload_n hx hb dX2_hasRoomFor_44 rfl (lv_at hl 0 rfl) ?_
    refine zgX2_1 hx hb hf hown P0 Z L38 dX2_hasRoomFor_45 ?_
    refine lv_aload_n hx hb dX2_hasRoomFor_48 rfl (lv_at hl 0 rfl) ?_
    refine zgX2_2 hx hb hf hown P0 Z L42 dX2_hasRoomFor_49 ?_
    refine lv_iconst (v := (nI 0)) hx hb dX2_hasRoomFor_52 (by decide) ?_
    obtain ⟨r3, S4, ec, h⟩ := zbd_s h
    refine zc_Vi hY P0 ⟨hx, hb, hml, hown, hT⟩ (As := [.int (nI 0)]) (rest := [.ref (zad g 5), .ref (zad g 2), .ref (zad g 5)]) (kX6_fromTop l hO (nI 0) S r3 S4 ec) (cwV 1 hT (zgV mL_X2_84 mI_X6_fromTop mS_X6_fromTop mN_X6 mC_X6_fromTop) rfl rfl rfl hdnX6_fromTop ⟨Nat.le_of_ble_eq_true rfl, Nat.le_of_ble_eq_true rfl⟩) (zrecX_6 P0 Z) Z rfl hl.1 rfl (Nat.le_of_ble_eq_true rfl) dX2_hasRoomFor_53 (fun H locs Z => ?_)
    obtain ⟨r5, S6, ec, h⟩ := zbd_s h
    refine zc_Vi hY P0 ⟨hx, hb, hml, hown, hT⟩ (As := [.int r3]) (rest := [.ref (zad g 2), .ref (zad g 5)]) (kX0_firstOf l hO r3 S4 r5 S6 ec) (cwV 1 hT (zgV mL_X2_91 mI_X0_firstOf mS_X0_firstOf mN_X0 mC_X0_firstOf) rfl rfl rfl hdnX0_firstOf ⟨Nat.le_of_ble_eq_true rfl, Nat.le_of_ble_eq_true rfl⟩) (zrecX_5 P0 Z) Z rfl hl.1 rfl (Nat.le_of_ble_eq_true rfl) dX2_hasRoomFor_56 (fun H locs Z => ?_)
    obtain ⟨r7, S8, ec, h⟩ := zbd_s h
    refine zc_Vi hY P0 ⟨hx, hb, hml, hown, hT⟩ (As := [.int r5]) (rest := [.ref (zad g 5)]) (kX4_nodesOf l hO r5 S6 r7 S8 ec) (cwV 1 hT (zgV mL_X2_163 mI_X4_nodesOf mS_X4_nodesOf mN_X4 mC_X4_nodesOf) rfl rfl rfl hdnX4_nodesOf ⟨Nat.le_of_ble_eq_true rfl, Nat.le_of_ble_eq_true rfl⟩) (zrecX_2 P0 Z) Z rfl hl.1 rfl (Nat.le_of_ble_eq_true rfl) dX2_hasRoomFor_59 (fun H locs Z => ?_)
    obtain ⟨r9, S10, ec, h⟩ := zbd_s h
    refine zc_Vi hY P0 ⟨hx, hb, hml, hown, hT⟩ (As := [.int r7]) (rest := []) (kX0_hasRoom l hO r7 S8 r9 S10 ec) (cwV 1 hT (zgV mL_X2_166 mI_X0_hasRoom mS_X0_hasRoom mN_X0 mC_X0_hasRoom) rfl rfl rfl hdnX0_hasRoom ⟨Nat.le_of_ble_eq_true rfl, Nat.le_of_ble_eq_true rfl⟩) (zrecX_5 P0 Z) Z rfl hl.1 rfl (Nat.le_of_ble_eq_true rfl) dX2_hasRoomFor_62 (fun H locs Z => ?_)
    obtain ⟨hn, h⟩ := zbo_s h
    exact zr_z hY P0 hx hb hr hlocks hn h Z dX2_hasRoomFor_65
  have h := zi_f q2 h
  by_cases q3 : a1 = (nI 3)
  · have h := zi_t q3 h
    refine ztbl (off := 27) (tgt := 28) hx hb q3 dX2_hasRoomFor_1 (by decide) (by decide) (by decide) (by decide) ?_
    refine lv_aload_n hx hb dX2_hasRoomFor_28 rfl (lv_at hl 0 rfl) ?_
    refine zgX2_2 hx hb hf hown P0 Z L42 dX2_hasRoomFor_29 ?_
    obtain ⟨r11, S12, ec, h⟩ := zbd_s h
    refine zc_Vi hY P0 ⟨hx, hb, hml, hown, hT⟩ (As := []) (rest := []) (kX6_hasRoom l hO  S r11 S12 ec) (cwV 0 hT (zgV mL_X2_159 mI_X6_hasRoom mS_X6_hasRoom mN_X6 mC_X6_hasRoom) rfl rfl rfl hdnX6_hasRoom ⟨Nat.le_of_ble_eq_true rfl, Nat.le_of_ble_eq_true rfl⟩) (zrecX_6 P0 Z) Z rfl hl.1 rfl (Nat.le_of_ble_eq_true rfl) dX2_hasRoomFor_32 (fun H locs Z => ?_)
    obtain ⟨hn, h⟩ := zbo_s h
    exact zr_z hY P0 hx hb hr hlocks hn h Z dX2_hasRoomFor_35
  have h := zi_f q3 h
  have u1 : ¬ a1.toInt = 1 := lv_neT q1 (by decide)
  have u2 : ¬ a1.toInt = 2 := lv_neT q2 (by decide)
  have u3 : ¬ a1.toInt = 3 := lv_neT q3 (by decide)
  refine lv_tableOut (tgt := 66) hx hb dX2_hasRoomFor_1 (by omega) (by decide) ?_
  refine lv_iconst (v := (nI 1)) hx hb dX2_hasRoomFor_66 (by decide) ?_
  exact zr_z hY P0 hx hb hr hlocks (by decide) h Z dX2_hasRoomFor_67
