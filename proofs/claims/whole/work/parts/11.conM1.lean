set_option maxHeartbeats 4000000 in
set_option maxRecDepth 100000 in
theorem kX10_expression {g : zG} (l : Launch) (hO : zinjM g) (S : zSt) (r : Unit) (S' : zSt) (h : fX10_expression S = some (r, S')) : zMv (zYM g) l yX10_expression vX10_expression { frames := 4, cells := 0, slots := 0, locals := 87 } ([.ref (zad g 0)] : List Value) S S' := by
  have hY := zOkM hO
  refine Met.ofW (cc := cX10_expression) (maxL := 1) (ret := none) (by decide) rfl ?_
  intro p e s m args below meth c s₁ B hml hv
  obtain ⟨rfl, hP⟩ := hv
  have hx := B.exec
  have hb := B.bytes
  have hr := B.returns
  have hts := atoms_spec (ws := vX10_expression) B.pre
  have hT : ∀ w ∈ zTB, w.before ([.ref (zad g 0)] : List Value).toArray s = true := fun w h => hts w (List.mem_cons_of_mem _ h)
  have hown : s.vm.findClass RX10 = some m.cls := findClass_of_methodNamed B.named
  have hlocks := B.notSynchronized
  have P0 := hP.2
  have Z : zZ (zYM g) S s s.heap [] := ⟨hP.1, va_S.rf⟩
  have hf : ∀ w ∈ u_ws RX10 TX10 67, w.before ([.ref (zad g 0)] : List Value).toArray s = true := fun w hw => hT w (mU_X10 w hw)
  have L211 := hT _ mF_X10_211
  have L214 := hT _ mF_X10_214
  have L164 := hT _ mF_X10_164
  have L89 := hT _ mF_X10_89
  have B15 : ∀ (n : Nat) (S : zSt), fX10_expression_15L n S = some (r, S') → ∀ (H : Heap) (locs : List Loc), zZ (zYM g) S s H locs → ∀ ls : Array Slot, lv_has ls 1 [(0, .ref (zad g 0))] → W p l e (headSpec vX10_expression { frames := 4, cells := 0, slots := 0, locals := 87 }).room s m ([.ref (zad g 0)] : List Value).toArray below meth c H locs 0 0 (MQ below (zQv (zYM g) S') ([.ref (zad g 0)] : List Value).toArray s 0 0 (zYM g).2.2.1) (F0 m 15 ls []) := by
    intro n
    induction n with
    | zero => intro S h; exact absurd h (fun h => nomatch h)
    | succ n K15 =>
      intro S h H locs Z ls hl
      have h : fX10_expression_15 (fX10_expression_15L n) S = some (r, S') := h
      unfold fX10_expression_15 at h
      refine lv_aload_n hx hb dX10_expression_15 rfl (lv_at hl 0 rfl) ?_
      refine zgX10_29 (v := (zI S 12)) hx hb hf hown P0 Z L211 rfl dX10_expression_16 ?_
      refine lv_if_lt (tgt := 63) hx hb dX10_expression_19 (by decide) (fun q => ?_) (fun q => ?_)
      · have h := zi_t q h
        exact zr_v hY P0 hx hb hr hlocks h Z dX10_expression_63
      · have h := zi_f q h
        refine lv_aload_n hx hb dX10_expression_22 rfl (lv_at hl 0 rfl) ?_
        refine zgX10_9 (v := (zI S 6)) hx hb hf hown P0 Z L164 rfl dX10_expression_23 ?_
        refine lv_if_ne (tgt := 63) hx hb dX10_expression_26 (by decide) (fun q => ?_) (fun q => ?_)
        · have h := zi_f q h
          exact zr_v hY P0 hx hb hr hlocks h Z dX10_expression_63
        · have h := zi_t q h
          refine lv_aload_n hx hb dX10_expression_29 rfl (lv_at hl 0 rfl) ?_
          refine zgX10_30 hx hb hf hown P0 Z L89 dX10_expression_30 ?_
          refine lv_aload_n hx hb dX10_expression_33 rfl (lv_at hl 0 rfl) ?_
          refine zgX10_29 (v := (zI S 12)) hx hb hf hown P0 Z L211 rfl dX10_expression_34 ?_
          obtain ⟨v3, ev, hin, h⟩ := zld_s h
          refine zlM_17 hx hb P0 Z ev hin dX10_expression_37 ?_
          refine lv_if_ne (tgt := 52) hx hb dX10_expression_38 (by decide) (fun q => ?_) (fun q => ?_)
          · have h := zi_f q h
            refine lv_aload_n hx hb dX10_expression_52 rfl (lv_at hl 0 rfl) ?_
            refine lv_aload_n hx hb dX10_expression_53 rfl (lv_at hl 0 rfl) ?_
            refine zgX10_29 (v := (zI S 12)) hx hb hf hown P0 Z L211 rfl dX10_expression_54 ?_
            obtain ⟨r4, S5, ec, h⟩ := zbd_s h
            refine zc_Vv hY P0 ⟨hx, hb, hml, hown, hT⟩ (As := [.int (zI S 12)]) (rest := []) (kX10_let l hO (zI S 12) S r4 S5 ec) (cwV 1 hT (zgV mL_X10_224 mI_X10_let mS_X10_let mN_X10 mC_X10_let) rfl rfl rfl hdnX10_let ⟨Nat.le_of_ble_eq_true rfl, Nat.le_of_ble_eq_true rfl⟩) (zrecM_0 P0 Z) Z rfl hl.1 rfl (Nat.le_of_ble_eq_true rfl) dX10_expression_57 (fun H locs Z => ?_)
            refine lv_goto (tgt := 15) hx hb dX10_expression_60 (by decide) ?_
            exact K15 S5 h _ _ Z ls (lv_sub hl [0] rfl)
          · have h := zi_t q h
            refine lv_aload_n hx hb dX10_expression_41 rfl (lv_at hl 0 rfl) ?_
            refine lv_aload_n hx hb dX10_expression_42 rfl (lv_at hl 0 rfl) ?_
            refine zgX10_29 (v := (zI S 12)) hx hb hf hown P0 Z L211 rfl dX10_expression_43 ?_
            obtain ⟨r6, S7, ec, h⟩ := zbd_s h
            refine zc_Vv hY P0 ⟨hx, hb, hml, hown, hT⟩ (As := [.int (zI S 12)]) (rest := []) (kX10_atoms l hO (zI S 12) S r6 S7 ec) (cwV 1 hT (zgV mL_X10_221 mI_X10_atoms mS_X10_atoms mN_X10 mC_X10_atoms) rfl rfl rfl hdnX10_atoms ⟨Nat.le_of_ble_eq_true rfl, Nat.le_of_ble_eq_true rfl⟩) (zrecM_0 P0 Z) Z rfl hl.1 rfl (Nat.le_of_ble_eq_true rfl) dX10_expression_46 (fun H locs Z => ?_)
            refine lv_goto (tgt := 15) hx hb dX10_expression_49 (by decide) ?_
            exact K15 S7 h _ _ Z ls (lv_sub hl [0] rfl)
  have hl := lv_entry ([.ref (zad g 0)] : List Value) (n := 1) (Nat.le_of_ble_eq_true rfl)
  rw [lg_entry_eq]
  generalize (lg_sl ([.ref (zad g 0)] : List Value) ++ List.replicate (1 - (lg_sl ([.ref (zad g 0)] : List Value)).length) Slot.unset).toArray = ls at hl ⊢
  have hl : lv_has ls 1 [(0, .ref (zad g 0))] := hl
  unfold fX10_expression at h
  refine lv_aload_n hx hb dX10_expression_0 rfl (lv_at hl 0 rfl) ?_
  refine lv_iconst (v := (-1 : Int32)) hx hb dX10_expression_1 (by decide) ?_
  refine zpX10_29 hO hx hb hf hown P0 Z L211 dX10_expression_2 (fun H locs Z => ?_)
  refine lv_aload_n hx hb dX10_expression_5 rfl (lv_at hl 0 rfl) ?_
  refine lv_iconst (v := (-1 : Int32)) hx hb dX10_expression_6 (by decide) ?_
  refine zpX10_35 hO hx hb hf hown P0 Z L214 dX10_expression_7 (fun H locs Z => ?_)
  refine lv_aload_n hx hb dX10_expression_10 rfl (lv_at hl 0 rfl) ?_
  refine lv_iconst (v := (nI 0)) hx hb dX10_expression_11 (by decide) ?_
  obtain ⟨r1, S2, ec, h⟩ := zbd_s h
  refine zc_Vv hY P0 ⟨hx, hb, hml, hown, hT⟩ (As := [.int (nI 0)]) (rest := []) (kX10_push l hO (nI 0) (wI (wI S 12 (-1 : Int32)) 14 (-1 : Int32)) r1 S2 ec) (cwV 1 hT (zgV mL_X10_217 mI_X10_push mS_X10_push mN_X10 mC_X10_push) rfl rfl rfl hdnX10_push ⟨Nat.le_of_ble_eq_true rfl, Nat.le_of_ble_eq_true rfl⟩) (zrecM_0 P0 Z) Z rfl hl.1 rfl (Nat.le_of_ble_eq_true rfl) dX10_expression_12 (fun H locs Z => ?_)
  exact B15 zFU S2 h _ _ Z ls (lv_sub hl [0] rfl)

set_option maxHeartbeats 4000000 in
set_option maxRecDepth 100000 in
theorem kX10_definition {g : zG} (l : Launch) (hO : zinjM g) (S : zSt) (r : Unit) (S' : zSt) (h : fX10_definition S = some (r, S')) : zMv (zYM g) l yX10_definition vX10_definition { frames := 5, cells := 0, slots := 0, locals := 107 } ([.ref (zad g 0)] : List Value) S S' := by
  have hY := zOkM hO
  refine Met.ofW (cc := cX10_definition) (maxL := 3) (ret := none) (by decide) rfl ?_
  intro p e s m args below meth c s₁ B hml hv
  obtain ⟨rfl, hP⟩ := hv
  have hx := B.exec
  have hb := B.bytes
  have hr := B.returns
  have hts := atoms_spec (ws := vX10_definition) B.pre
  have hT : ∀ w ∈ zTB, w.before ([.ref (zad g 0)] : List Value).toArray s = true := fun w h => hts w (List.mem_cons_of_mem _ h)
  have hown : s.vm.findClass RX10 = some m.cls := findClass_of_methodNamed B.named
  have hlocks := B.notSynchronized
  have P0 := hP.2
  have Z : zZ (zYM g) S s s.heap [] := ⟨hP.1, va_S.rf⟩
  have hf : ∀ w ∈ u_ws RX10 TX10 67, w.before ([.ref (zad g 0)] : List Value).toArray s = true := fun w hw => hT w (mU_X10 w hw)
  have L177 := hT _ mF_X10_177
  have L246 := hT _ mF_X10_246
  have L47 := hT _ mF_X10_47
  have L190 := hT _ mF_X10_190
  have L50 := hT _ mF_X10_50
  have L174 := hT _ mF_X10_174
  have L164 := hT _ mF_X10_164
  have L53 := hT _ mF_X10_53
  have L56 := hT _ mF_X10_56
  have L208 := hT _ mF_X10_208
  have L59 := hT _ mF_X10_59
  have B148 : ∀ (k108 : Int32 × zSt → Option (Unit × zSt)) (K108 : (∀ (x1 : Int32) (S : zSt), k108 (x1, S) = some (r, S') → ∀ (H : Heap) (locs : List Loc), zZ (zYM g) S s H locs → ∀ ls : Array Slot, lv_has ls 3 [(0, .ref (zad g 0)), (1, .int x1)] → W p l e (headSpec vX10_definition { frames := 5, cells := 0, slots := 0, locals := 107 }).room s m ([.ref (zad g 0)] : List Value).toArray below meth c H locs 0 0 (MQ below (zQv (zYM g) S') ([.ref (zad g 0)] : List Value).toArray s 0 0 (zYM g).2.2.1) (F0 m 108 ls []))) (n : Nat) (x1 : Int32) (x2 : Int32) (S : zSt), fX10_definition_148L k108 n (x1, x2, S) = some (r, S') → ∀ (H : Heap) (locs : List Loc), zZ (zYM g) S s H locs → ∀ ls : Array Slot, lv_has ls 3 [(0, .ref (zad g 0)), (1, .int x1), (2, .int x2)] → W p l e (headSpec vX10_definition { frames := 5, cells := 0, slots := 0, locals := 107 }).room s m ([.ref (zad g 0)] : List Value).toArray below meth c H locs 0 0 (MQ below (zQv (zYM g) S') ([.ref (zad g 0)] : List Value).toArray s 0 0 (zYM g).2.2.1) (F0 m 148 ls []) := by
    intro k108 K108 n
    induction n with
    | zero => intro x1 x2 S h; exact absurd h (fun h => nomatch h)
    | succ n K148 =>
      intro x1 x2 S h H locs Z ls hl
      have h : fX10_definition_148 k108 (fX10_definition_148L k108 n) x1 x2 S = some (r, S') := h
      unfold fX10_definition_148 at h
      refine lv_iload_n hx hb dX10_definition_148 rfl (lv_at hl 2 rfl) ?_
      refine lv_aload_n hx hb dX10_definition_149 rfl (lv_at hl 0 rfl) ?_
      refine zgX10_13 hx hb hf hown P0 Z L50 dX10_definition_150 ?_
      refine lv_iload_n hx hb dX10_definition_153 rfl (lv_at hl 1 rfl) ?_
      obtain ⟨v13, ev, hin, h⟩ := zld_s h
      refine zlM_4 hx hb P0 Z ev hin dX10_definition_154 ?_
      refine lv_icmp_ge (tgt := 192) hx hb dX10_definition_155 (by decide) (fun q => ?_) (fun q => ?_)
      · have h := zi_t q h
        refine lv_aload_n hx hb dX10_definition_192 rfl (lv_at hl 0 rfl) ?_
        refine zgX10_14 hx hb hf hown P0 Z L53 dX10_definition_193 ?_
        refine lv_bipush (v := (nI 8)) hx hb dX10_definition_196 (by decide) ?_
        refine lv_iload_n hx hb dX10_definition_198 rfl (lv_at hl 1 rfl) ?_
        refine lv_imul hx hb dX10_definition_199 ?_
        refine lv_aload_n hx hb dX10_definition_200 rfl (lv_at hl 0 rfl) ?_
        refine zgX10_13 hx hb hf hown P0 Z L50 dX10_definition_201 ?_
        refine lv_iload_n hx hb dX10_definition_204 rfl (lv_at hl 1 rfl) ?_
        obtain ⟨v14, ev, hin, h⟩ := zld_s h
        refine zlM_4 hx hb P0 Z ev hin dX10_definition_205 ?_
        refine lv_iadd hx hb dX10_definition_206 ?_
        refine lv_aload_n hx hb dX10_definition_207 rfl (lv_at hl 0 rfl) ?_
        refine zgX10_7 (v := (zL S 0)) hx hb hf hown P0 Z L190 rfl dX10_definition_208 ?_
        obtain ⟨hin, h⟩ := zck_s h
        refine zsM_5 hO hx hb P0 Z hin dX10_definition_211 (fun H locs Z => ?_)
        refine lv_aload_n hx hb dX10_definition_212 rfl (lv_at hl 0 rfl) ?_
        refine zgX10_13 hx hb hf hown P0 Z L50 dX10_definition_213 ?_
        refine lv_iload_n hx hb dX10_definition_216 rfl (lv_at hl 1 rfl) ?_
        refine lv_dup2_11 hx hb dX10_definition_217 rfl rfl ?_
        obtain ⟨v15, ev, hin, h⟩ := zld_s h
        refine zlM_4 hx hb P0 Z ev hin dX10_definition_218 ?_
        refine lv_iconst (v := (nI 1)) hx hb dX10_definition_219 (by decide) ?_
        refine lv_iadd hx hb dX10_definition_220 ?_
        obtain ⟨hin, h⟩ := zck_s h
        refine zsM_4 hO hx hb P0 Z hin dX10_definition_221 (fun H locs Z => ?_)
        refine lv_aload_n hx hb dX10_definition_222 rfl (lv_at hl 0 rfl) ?_
        obtain ⟨r16, S17, ec, h⟩ := zbd_s h
        refine zc_Vv hY P0 ⟨hx, hb, hml, hown, hT⟩ (As := []) (rest := []) (kX10_token l hO  (wA (wB S 5 ((((nI 8) * x1) + v14).toNatClampNeg) (zL S 0)) 4 (x1.toNatClampNeg) (v15 + (nI 1))) r16 S17 ec) (cwV 0 hT (zgV mL_X10_205 mI_X10_token mS_X10_token mN_X10 mC_X10_token) rfl rfl rfl hdnX10_token ⟨Nat.le_of_ble_eq_true rfl, Nat.le_of_ble_eq_true rfl⟩) (zrecM_0 P0 Z) Z rfl hl.1 rfl (Nat.le_of_ble_eq_true rfl) dX10_definition_223 (fun H locs Z => ?_)
        refine lv_goto (tgt := 108) hx hb dX10_definition_226 (by decide) ?_
        exact K108 x1 S17 h _ _ Z ls (lv_sub hl [0, 1] rfl)
      · have h := zi_f q h
        refine lv_aload_n hx hb dX10_definition_158 rfl (lv_at hl 0 rfl) ?_
        refine zgX10_14 hx hb hf hown P0 Z L53 dX10_definition_159 ?_
        refine lv_bipush (v := (nI 8)) hx hb dX10_definition_162 (by decide) ?_
        refine lv_iload_n hx hb dX10_definition_164 rfl (lv_at hl 1 rfl) ?_
        refine lv_imul hx hb dX10_definition_165 ?_
        refine lv_iload_n hx hb dX10_definition_166 rfl (lv_at hl 2 rfl) ?_
        refine lv_iadd hx hb dX10_definition_167 ?_
        obtain ⟨v18, ev, hin, h⟩ := zld_s h
        refine zlM_5 hx hb P0 Z ev hin dX10_definition_168 ?_
        refine lv_aload_n hx hb dX10_definition_169 rfl (lv_at hl 0 rfl) ?_
        refine zgX10_7 (v := (zL S 0)) hx hb hf hown P0 Z L190 rfl dX10_definition_170 ?_
        refine W.lcmp hx hb dX10_definition_173 ?_
        refine lv_if_ne (tgt := 186) hx hb dX10_definition_174 (by decide) (fun q => ?_) (fun q => ?_)
        · have h := zi_f q h
          refine lv_iinc (v := (x2 + (nI 1))) (lv' := [(2, .int (x2 + (nI 1))), (0, .ref (zad g 0)), (1, .int x1)]) hx hb dX10_definition_186 hl (k := 2) rfl rfl (by decide) rfl (fun ls hl => ?_)
          refine lv_goto (tgt := 148) hx hb dX10_definition_189 (by decide) ?_
          exact K148 x1 (x2 + (nI 1)) S h _ _ Z ls (lv_sub hl [1, 2, 0] rfl)
        · have h := zi_t q h
          refine lv_aload_n hx hb dX10_definition_177 rfl (lv_at hl 0 rfl) ?_
          refine lv_iconst (v := (nI 4)) hx hb dX10_definition_178 (by decide) ?_
          refine lv_aload_n hx hb dX10_definition_179 rfl (lv_at hl 0 rfl) ?_
          refine zgX10_5 (v := (zI S 3)) hx hb hf hown P0 Z L174 rfl dX10_definition_180 ?_
          obtain ⟨r19, S20, ec, h⟩ := zbd_s h
          refine zc_Vv hY P0 ⟨hx, hb, hml, hown, hT⟩ (As := [.int (nI 4), .int (zI S 3)]) (rest := []) (kX10_fail l hO (nI 4) (zI S 3) S r19 S20 ec) (cwV 2 hT (zgV mL_X10_197 mI_X10_fail mS_X10_fail mN_X10 mC_X10_fail) rfl rfl rfl hdnX10_fail ⟨Nat.le_of_ble_eq_true rfl, Nat.le_of_ble_eq_true rfl⟩) (zrecM_0 P0 Z) Z rfl hl.1 rfl (Nat.le_of_ble_eq_true rfl) dX10_definition_183 (fun H locs Z => ?_)
          refine lv_iinc (v := (x2 + (nI 1))) (lv' := [(2, .int (x2 + (nI 1))), (0, .ref (zad g 0)), (1, .int x1)]) hx hb dX10_definition_186 hl (k := 2) rfl rfl (by decide) rfl (fun ls hl => ?_)
          refine lv_goto (tgt := 148) hx hb dX10_definition_189 (by decide) ?_
          exact K148 x1 (x2 + (nI 1)) S20 h _ _ Z ls (lv_sub hl [1, 2, 0] rfl)
  have B140 : ∀ (k108 : Int32 × zSt → Option (Unit × zSt)) (K108 : (∀ (x1 : Int32) (S : zSt), k108 (x1, S) = some (r, S') → ∀ (H : Heap) (locs : List Loc), zZ (zYM g) S s H locs → ∀ ls : Array Slot, lv_has ls 3 [(0, .ref (zad g 0)), (1, .int x1)] → W p l e (headSpec vX10_definition { frames := 5, cells := 0, slots := 0, locals := 107 }).room s m ([.ref (zad g 0)] : List Value).toArray below meth c H locs 0 0 (MQ below (zQv (zYM g) S') ([.ref (zad g 0)] : List Value).toArray s 0 0 (zYM g).2.2.1) (F0 m 108 ls []))) (x1 : Int32) (y0 : Int32) (S : zSt), fX10_definition_140 k108 x1 y0 S = some (r, S') → ∀ (H : Heap) (locs : List Loc), zZ (zYM g) S s H locs → ∀ ls : Array Slot, lv_has ls 3 [(0, .ref (zad g 0)), (1, .int x1)] → W p l e (headSpec vX10_definition { frames := 5, cells := 0, slots := 0, locals := 107 }).room s m ([.ref (zad g 0)] : List Value).toArray below meth c H locs 0 0 (MQ below (zQv (zYM g) S') ([.ref (zad g 0)] : List Value).toArray s 0 0 (zYM g).2.2.1) (F0 m 140 ls [.int y0, .ref (zad g 0)]) := by
    intro k108 K108 x1 y0 S h H locs Z ls hl
    unfold fX10_definition_140 at h
    obtain ⟨r11, S12, ec, h⟩ := zbd_s h
    refine zc_Vi hY P0 ⟨hx, hb, hml, hown, hT⟩ (As := [.int y0]) (rest := []) (kX10_room l hO y0 S r11 S12 ec) (cwV 1 hT (zgV mL_X10_237 mI_X10_room mS_X10_room mN_X10 mC_X10_room) rfl rfl rfl hdnX10_room ⟨Nat.le_of_ble_eq_true rfl, Nat.le_of_ble_eq_true rfl⟩) (zrecM_0 P0 Z) Z rfl hl.1 rfl (Nat.le_of_ble_eq_true rfl) dX10_definition_140 (fun H locs Z => ?_)
    refine lv_if_eq (tgt := 108) hx hb dX10_definition_143 (by decide) (fun q => ?_) (fun q => ?_)
    · have h := zi_t q h
      exact K108 x1 S12 h _ _ Z ls (lv_sub hl [0, 1] rfl)
    · have h := zi_f q h
      refine lv_iconst (v := (nI 0)) hx hb dX10_definition_146 (by decide) ?_
      refine lv_istore_n (lv' := [(2, .int (nI 0)), (0, .ref (zad g 0)), (1, .int x1)]) hx hb dX10_definition_147 rfl hl (by decide) rfl (fun ls hl => ?_)
      exact B148 k108 K108 zFU x1 (nI 0) S12 h _ _ Z ls (lv_sub hl [1, 2, 0] rfl)
  have B229 : ∀ (x1 : Int32) (S : zSt), fX10_definition_229 x1 S = some (r, S') → ∀ (H : Heap) (locs : List Loc), zZ (zYM g) S s H locs → ∀ ls : Array Slot, lv_has ls 3 [(0, .ref (zad g 0)), (1, .int x1)] → W p l e (headSpec vX10_definition { frames := 5, cells := 0, slots := 0, locals := 107 }).room s m ([.ref (zad g 0)] : List Value).toArray below meth c H locs 0 0 (MQ below (zQv (zYM g) S') ([.ref (zad g 0)] : List Value).toArray s 0 0 (zYM g).2.2.1) (F0 m 229 ls []) := by
    intro x1 S h H locs Z ls hl
    unfold fX10_definition_229 at h
    refine lv_aload_n hx hb dX10_definition_229 rfl (lv_at hl 0 rfl) ?_
    refine lv_bipush (v := (nI 61)) hx hb dX10_definition_230 (by decide) ?_
    obtain ⟨r21, S22, ec, h⟩ := zbd_s h
    refine zc_Vi hY P0 ⟨hx, hb, hml, hown, hT⟩ (As := [.int (nI 61)]) (rest := []) (kX10_need l hO (nI 61) S r21 S22 ec) (cwV 1 hT (zgV mL_X10_227 mI_X10_need mS_X10_need mN_X10 mC_X10_need) rfl rfl rfl hdnX10_need ⟨Nat.le_of_ble_eq_true rfl, Nat.le_of_ble_eq_true rfl⟩) (zrecM_0 P0 Z) Z rfl hl.1 rfl (Nat.le_of_ble_eq_true rfl) dX10_definition_232 (fun H locs Z => ?_)
    refine lv_if_ne (tgt := 239) hx hb dX10_definition_235 (by decide) (fun q => ?_) (fun q => ?_)
    · have h := zi_f q h
      refine lv_aload_n hx hb dX10_definition_239 rfl (lv_at hl 0 rfl) ?_
      refine zgX10_15 hx hb hf hown P0 Z L56 dX10_definition_240 ?_
      refine lv_iload_n hx hb dX10_definition_243 rfl (lv_at hl 1 rfl) ?_
      refine lv_aload_n hx hb dX10_definition_244 rfl (lv_at hl 0 rfl) ?_
      refine zgX10_18 (v := (zI S22 9)) hx hb hf hown P0 Z L208 rfl dX10_definition_245 ?_
      obtain ⟨hin, h⟩ := zck_s h
      refine zsM_6 hO hx hb P0 Z hin dX10_definition_248 (fun H locs Z => ?_)
      refine lv_aload_n hx hb dX10_definition_249 rfl (lv_at hl 0 rfl) ?_
      refine lv_dup hx hb dX10_definition_250 rfl ?_
      refine zgX10_11 (v := (zI S22 8)) hx hb hf hown P0 Z L246 rfl dX10_definition_251 ?_
      refine lv_iconst (v := (nI 1)) hx hb dX10_definition_254 (by decide) ?_
      refine lv_iadd hx hb dX10_definition_255 ?_
      refine zpX10_11 hO hx hb hf hown P0 Z L246 dX10_definition_256 (fun H locs Z => ?_)
      refine lv_aload_n hx hb dX10_definition_259 rfl (lv_at hl 0 rfl) ?_
      obtain ⟨r23, S24, ec, h⟩ := zbd_s h
      refine zc_Vv hY P0 ⟨hx, hb, hml, hown, hT⟩ (As := []) (rest := []) (kX10_expression l hO  (wI (wA S22 6 (x1.toNatClampNeg) (zI S22 9)) 8 ((zI S22 8) + (nI 1))) r23 S24 ec) (cwV 0 hT (zgV mL_X10_249 mI_X10_expression mS_X10_expression mN_X10 mC_X10_expression) rfl rfl rfl hdnX10_expression ⟨Nat.le_of_ble_eq_true rfl, Nat.le_of_ble_eq_true rfl⟩) (zrecM_0 P0 Z) Z rfl hl.1 rfl (Nat.le_of_ble_eq_true rfl) dX10_definition_260 (fun H locs Z => ?_)
      refine lv_aload_n hx hb dX10_definition_263 rfl (lv_at hl 0 rfl) ?_
      refine zgX10_16 hx hb hf hown P0 Z L59 dX10_definition_264 ?_
      refine lv_iload_n hx hb dX10_definition_267 rfl (lv_at hl 1 rfl) ?_
      refine lv_aload_n hx hb dX10_definition_268 rfl (lv_at hl 0 rfl) ?_
      refine zgX10_18 (v := (zI S24 9)) hx hb hf hown P0 Z L208 rfl dX10_definition_269 ?_
      obtain ⟨hin, h⟩ := zck_s h
      refine zsM_7 hO hx hb P0 Z hin dX10_definition_272 (fun H locs Z => ?_)
      refine lv_aload_n hx hb dX10_definition_273 rfl (lv_at hl 0 rfl) ?_
      refine lv_bipush (v := (nI 59)) hx hb dX10_definition_274 (by decide) ?_
      obtain ⟨r25, S26, ec, h⟩ := zbd_s h
      refine zc_Vi hY P0 ⟨hx, hb, hml, hown, hT⟩ (As := [.int (nI 59)]) (rest := []) (kX10_need l hO (nI 59) (wA S24 7 (x1.toNatClampNeg) (zI S24 9)) r25 S26 ec) (cwV 1 hT (zgV mL_X10_227 mI_X10_need mS_X10_need mN_X10 mC_X10_need) rfl rfl rfl hdnX10_need ⟨Nat.le_of_ble_eq_true rfl, Nat.le_of_ble_eq_true rfl⟩) (zrecM_0 P0 Z) Z rfl hl.1 rfl (Nat.le_of_ble_eq_true rfl) dX10_definition_276 (fun H locs Z => ?_)
      refine lv_pop hx hb dX10_definition_279 rfl ?_
      exact zr_v hY P0 hx hb hr hlocks h Z dX10_definition_280
    · have h := zi_t q h
      exact zr_v hY P0 hx hb hr hlocks h Z dX10_definition_238
  have B108 : ∀ (n : Nat) (x1 : Int32) (S : zSt), fX10_definition_108L n (x1, S) = some (r, S') → ∀ (H : Heap) (locs : List Loc), zZ (zYM g) S s H locs → ∀ ls : Array Slot, lv_has ls 3 [(0, .ref (zad g 0)), (1, .int x1)] → W p l e (headSpec vX10_definition { frames := 5, cells := 0, slots := 0, locals := 107 }).room s m ([.ref (zad g 0)] : List Value).toArray below meth c H locs 0 0 (MQ below (zQv (zYM g) S') ([.ref (zad g 0)] : List Value).toArray s 0 0 (zYM g).2.2.1) (F0 m 108 ls []) := by
    intro n
    induction n with
    | zero => intro x1 S h; exact absurd h (fun h => nomatch h)
    | succ n K108 =>
      intro x1 S h H locs Z ls hl
      have h : fX10_definition_108 (fX10_definition_108L n) x1 S = some (r, S') := h
      unfold fX10_definition_108 at h
      refine lv_aload_n hx hb dX10_definition_108 rfl (lv_at hl 0 rfl) ?_
      refine zgX10_9 (v := (zI S 6)) hx hb hf hown P0 Z L164 rfl dX10_definition_109 ?_
      refine lv_if_ne (tgt := 229) hx hb dX10_definition_112 (by decide) (fun q => ?_) (fun q => ?_)
      · have h := zi_f q h
        exact B229 x1 S h _ _ Z ls (lv_sub hl [0, 1] rfl)
      · have h := zi_t q h
        refine lv_aload_n hx hb dX10_definition_115 rfl (lv_at hl 0 rfl) ?_
        refine zgX10_4 (v := (zI S 2)) hx hb hf hown P0 Z L177 rfl dX10_definition_116 ?_
        refine lv_iconst (v := (nI 2)) hx hb dX10_definition_119 (by decide) ?_
        refine lv_icmp_ne (tgt := 229) hx hb dX10_definition_120 (by decide) (fun q => ?_) (fun q => ?_)
        · have h := zi_f q h
          exact B229 x1 S h _ _ Z ls (lv_sub hl [0, 1] rfl)
        · have h := zi_t q h
          refine lv_aload_n hx hb dX10_definition_123 rfl (lv_at hl 0 rfl) ?_
          refine lv_aload_n hx hb dX10_definition_124 rfl (lv_at hl 0 rfl) ?_
          refine zgX10_13 hx hb hf hown P0 Z L50 dX10_definition_125 ?_
          refine lv_iload_n hx hb dX10_definition_128 rfl (lv_at hl 1 rfl) ?_
          obtain ⟨v10, ev, hin, h⟩ := zld_s h
          refine zlM_4 hx hb P0 Z ev hin dX10_definition_129 ?_
          refine lv_bipush (v := (nI 8)) hx hb dX10_definition_130 (by decide) ?_
          refine lv_icmp_ge (tgt := 139) hx hb dX10_definition_132 (by decide) (fun q => ?_) (fun q => ?_)
          · have h := zi_t q h
            refine lv_iconst (v := (nI 0)) hx hb dX10_definition_139 (by decide) ?_
            exact B140 (fX10_definition_108L n) K108 x1 (nI 0) S h _ _ Z ls (lv_sub hl [0, 1] rfl)
          · have h := zi_f q h
            refine lv_iconst (v := (nI 1)) hx hb dX10_definition_135 (by decide) ?_
            refine lv_goto (tgt := 140) hx hb dX10_definition_136 (by decide) ?_
            exact B140 (fX10_definition_108L n) K108 x1 (nI 1) S h _ _ Z ls (lv_sub hl [0, 1] rfl)
  have B44 : ∀ (n : Nat) (x1 : Int32) (S : zSt), fX10_definition_44L n (x1, S) = some (r, S') → ∀ (H : Heap) (locs : List Loc), zZ (zYM g) S s H locs → ∀ ls : Array Slot, lv_has ls 3 [(0, .ref (zad g 0)), (1, .int x1)] → W p l e (headSpec vX10_definition { frames := 5, cells := 0, slots := 0, locals := 107 }).room s m ([.ref (zad g 0)] : List Value).toArray below meth c H locs 0 0 (MQ below (zQv (zYM g) S') ([.ref (zad g 0)] : List Value).toArray s 0 0 (zYM g).2.2.1) (F0 m 44 ls []) := by
    intro n
    induction n with
    | zero => intro x1 S h; exact absurd h (fun h => nomatch h)
    | succ n K44 =>
      intro x1 S h H locs Z ls hl
      have h : fX10_definition_44 (fX10_definition_44L n) x1 S = some (r, S') := h
      unfold fX10_definition_44 at h
      refine lv_iload_n hx hb dX10_definition_44 rfl (lv_at hl 1 rfl) ?_
      refine lv_aload_n hx hb dX10_definition_45 rfl (lv_at hl 0 rfl) ?_
      refine zgX10_11 (v := (zI S 8)) hx hb hf hown P0 Z L246 rfl dX10_definition_46 ?_
      refine lv_icmp_ge (tgt := 82) hx hb dX10_definition_49 (by decide) (fun q => ?_) (fun q => ?_)
      · have h := zi_t q h
        refine lv_aload_n hx hb dX10_definition_82 rfl (lv_at hl 0 rfl) ?_
        refine zgX10_11 (v := (zI S 8)) hx hb hf hown P0 Z L246 rfl dX10_definition_83 ?_
        refine lv_istore_n (lv' := [(1, .int (zI S 8)), (0, .ref (zad g 0))]) hx hb dX10_definition_86 rfl hl (by decide) rfl (fun ls hl => ?_)
        refine lv_aload_n hx hb dX10_definition_87 rfl (lv_at hl 1 rfl) ?_
        refine zgX10_12 hx hb hf hown P0 Z L47 dX10_definition_88 ?_
        refine lv_iload_n hx hb dX10_definition_91 rfl (lv_at hl 0 rfl) ?_
        refine lv_aload_n hx hb dX10_definition_92 rfl (lv_at hl 1 rfl) ?_
        refine zgX10_7 (v := (zL S 0)) hx hb hf hown P0 Z L190 rfl dX10_definition_93 ?_
        obtain ⟨hin, h⟩ := zck_s h
        refine zsM_3 hO hx hb P0 Z hin dX10_definition_96 (fun H locs Z => ?_)
        refine lv_aload_n hx hb dX10_definition_97 rfl (lv_at hl 1 rfl) ?_
        refine zgX10_13 hx hb hf hown P0 Z L50 dX10_definition_98 ?_
        refine lv_iload_n hx hb dX10_definition_101 rfl (lv_at hl 0 rfl) ?_
        refine lv_iconst (v := (nI 0)) hx hb dX10_definition_102 (by decide) ?_
        obtain ⟨hin, h⟩ := zck_s h
        refine zsM_4 hO hx hb P0 Z hin dX10_definition_103 (fun H locs Z => ?_)
        refine lv_aload_n hx hb dX10_definition_104 rfl (lv_at hl 1 rfl) ?_
        obtain ⟨r5, S6, ec, h⟩ := zbd_s h
        refine zc_Vv hY P0 ⟨hx, hb, hml, hown, hT⟩ (As := []) (rest := []) (kX10_token l hO  (wA (wB S 3 ((zI S 8).toNatClampNeg) (zL S 0)) 4 ((zI S 8).toNatClampNeg) (nI 0)) r5 S6 ec) (cwV 0 hT (zgV mL_X10_205 mI_X10_token mS_X10_token mN_X10 mC_X10_token) rfl rfl rfl hdnX10_token ⟨Nat.le_of_ble_eq_true rfl, Nat.le_of_ble_eq_true rfl⟩) (zrecM_0 P0 Z) Z rfl hl.1 rfl (Nat.le_of_ble_eq_true rfl) dX10_definition_105 (fun H locs Z => ?_)
        exact B108 zFU (zI S 8) S6 h _ _ Z ls (lv_sub hl [1, 0] rfl)
      · have h := zi_f q h
        refine lv_aload_n hx hb dX10_definition_52 rfl (lv_at hl 0 rfl) ?_
        refine zgX10_12 hx hb hf hown P0 Z L47 dX10_definition_53 ?_
        refine lv_iload_n hx hb dX10_definition_56 rfl (lv_at hl 1 rfl) ?_
        obtain ⟨v7, ev, hin, h⟩ := zld_s h
        refine zlM_3 hx hb P0 Z ev hin dX10_definition_57 ?_
        refine lv_aload_n hx hb dX10_definition_58 rfl (lv_at hl 0 rfl) ?_
        refine zgX10_7 (v := (zL S 0)) hx hb hf hown P0 Z L190 rfl dX10_definition_59 ?_
        refine W.lcmp hx hb dX10_definition_62 ?_
        refine lv_if_ne (tgt := 76) hx hb dX10_definition_63 (by decide) (fun q => ?_) (fun q => ?_)
        · have h := zi_f q h
          refine lv_iinc (v := (x1 + (nI 1))) (lv' := [(1, .int (x1 + (nI 1))), (0, .ref (zad g 0))]) hx hb dX10_definition_76 hl (k := 1) rfl rfl (by decide) rfl (fun ls hl => ?_)
          refine lv_goto (tgt := 44) hx hb dX10_definition_79 (by decide) ?_
          exact K44 (x1 + (nI 1)) S h _ _ Z ls (lv_sub hl [1, 0] rfl)
        · have h := zi_t q h
          refine lv_aload_n hx hb dX10_definition_66 rfl (lv_at hl 0 rfl) ?_
          refine lv_iconst (v := (nI 4)) hx hb dX10_definition_67 (by decide) ?_
          refine lv_aload_n hx hb dX10_definition_68 rfl (lv_at hl 0 rfl) ?_
          refine zgX10_5 (v := (zI S 3)) hx hb hf hown P0 Z L174 rfl dX10_definition_69 ?_
          obtain ⟨r8, S9, ec, h⟩ := zbd_s h
          refine zc_Vv hY P0 ⟨hx, hb, hml, hown, hT⟩ (As := [.int (nI 4), .int (zI S 3)]) (rest := []) (kX10_fail l hO (nI 4) (zI S 3) S r8 S9 ec) (cwV 2 hT (zgV mL_X10_197 mI_X10_fail mS_X10_fail mN_X10 mC_X10_fail) rfl rfl rfl hdnX10_fail ⟨Nat.le_of_ble_eq_true rfl, Nat.le_of_ble_eq_true rfl⟩) (zrecM_0 P0 Z) Z rfl hl.1 rfl (Nat.le_of_ble_eq_true rfl) dX10_definition_72 (fun H locs Z => ?_)
          exact zr_v hY P0 hx hb hr hlocks h Z dX10_definition_75
  have B35 : ∀ (y0 : Int32) (S : zSt), fX10_definition_35 y0 S = some (r, S') → ∀ (H : Heap) (locs : List Loc), zZ (zYM g) S s H locs → ∀ ls : Array Slot, lv_has ls 3 [(0, .ref (zad g 0))] → W p l e (headSpec vX10_definition { frames := 5, cells := 0, slots := 0, locals := 107 }).room s m ([.ref (zad g 0)] : List Value).toArray below meth c H locs 0 0 (MQ below (zQv (zYM g) S') ([.ref (zad g 0)] : List Value).toArray s 0 0 (zYM g).2.2.1) (F0 m 35 ls [.int y0, .ref (zad g 0)]) := by
    intro y0 S h H locs Z ls hl
    unfold fX10_definition_35 at h
    obtain ⟨r3, S4, ec, h⟩ := zbd_s h
    refine zc_Vi hY P0 ⟨hx, hb, hml, hown, hT⟩ (As := [.int y0]) (rest := []) (kX10_room l hO y0 S r3 S4 ec) (cwV 1 hT (zgV mL_X10_237 mI_X10_room mS_X10_room mN_X10 mC_X10_room) rfl rfl rfl hdnX10_room ⟨Nat.le_of_ble_eq_true rfl, Nat.le_of_ble_eq_true rfl⟩) (zrecM_0 P0 Z) Z rfl hl.1 rfl (Nat.le_of_ble_eq_true rfl) dX10_definition_35 (fun H locs Z => ?_)
    refine lv_if_ne (tgt := 42) hx hb dX10_definition_38 (by decide) (fun q => ?_) (fun q => ?_)
    · have h := zi_f q h
      refine lv_iconst (v := (nI 0)) hx hb dX10_definition_42 (by decide) ?_
      refine lv_istore_n (lv' := [(1, .int (nI 0)), (0, .ref (zad g 0))]) hx hb dX10_definition_43 rfl hl (by decide) rfl (fun ls hl => ?_)
      exact B44 zFU (nI 0) S4 h _ _ Z ls (lv_sub hl [1, 0] rfl)
    · have h := zi_t q h
      exact zr_v hY P0 hx hb hr hlocks h Z dX10_definition_41
  have B14 : ∀ (y0 : Int32) (S : zSt), fX10_definition_14 y0 S = some (r, S') → ∀ (H : Heap) (locs : List Loc), zZ (zYM g) S s H locs → ∀ ls : Array Slot, lv_has ls 3 [(0, .ref (zad g 0))] → W p l e (headSpec vX10_definition { frames := 5, cells := 0, slots := 0, locals := 107 }).room s m ([.ref (zad g 0)] : List Value).toArray below meth c H locs 0 0 (MQ below (zQv (zYM g) S') ([.ref (zad g 0)] : List Value).toArray s 0 0 (zYM g).2.2.1) (F0 m 14 ls [.int y0, .ref (zad g 0)]) := by
    intro y0 S h H locs Z ls hl
    unfold fX10_definition_14 at h
    obtain ⟨r1, S2, ec, h⟩ := zbd_s h
    refine zc_Vi hY P0 ⟨hx, hb, hml, hown, hT⟩ (As := [.int y0]) (rest := []) (kX10_can l hO y0 S r1 S2 ec) (cwV 1 hT (zgV mL_X10_201 mI_X10_can mS_X10_can mN_X10 mC_X10_can) rfl rfl rfl hdnX10_can ⟨Nat.le_of_ble_eq_true rfl, Nat.le_of_ble_eq_true rfl⟩) (zrecM_0 P0 Z) Z rfl hl.1 rfl (Nat.le_of_ble_eq_true rfl) dX10_definition_14 (fun H locs Z => ?_)
    refine lv_if_eq (tgt := 41) hx hb dX10_definition_17 (by decide) (fun q => ?_) (fun q => ?_)
    · have h := zi_t q h
      exact zr_v hY P0 hx hb hr hlocks h Z dX10_definition_41
    · have h := zi_f q h
      refine lv_aload_n hx hb dX10_definition_20 rfl (lv_at hl 0 rfl) ?_
      refine lv_aload_n hx hb dX10_definition_21 rfl (lv_at hl 0 rfl) ?_
      refine zgX10_11 (v := (zI S2 8)) hx hb hf hown P0 Z L246 rfl dX10_definition_22 ?_
      refine lv_bipush (v := (nI 20)) hx hb dX10_definition_25 (by decide) ?_
      refine lv_icmp_ge (tgt := 34) hx hb dX10_definition_27 (by decide) (fun q => ?_) (fun q => ?_)
      · have h := zi_t q h
        refine lv_iconst (v := (nI 0)) hx hb dX10_definition_34 (by decide) ?_
        exact B35 (nI 0) S2 h _ _ Z ls (lv_sub hl [0] rfl)
      · have h := zi_f q h
        refine lv_iconst (v := (nI 1)) hx hb dX10_definition_30 (by decide) ?_
        refine lv_goto (tgt := 35) hx hb dX10_definition_31 (by decide) ?_
        exact B35 (nI 1) S2 h _ _ Z ls (lv_sub hl [0] rfl)
  have hl := lv_entry ([.ref (zad g 0)] : List Value) (n := 3) (Nat.le_of_ble_eq_true rfl)
  rw [lg_entry_eq]
  generalize (lg_sl ([.ref (zad g 0)] : List Value) ++ List.replicate (3 - (lg_sl ([.ref (zad g 0)] : List Value)).length) Slot.unset).toArray = ls at hl ⊢
  have hl : lv_has ls 3 [(0, .ref (zad g 0))] := hl
  unfold fX10_definition at h
  refine lv_aload_n hx hb dX10_definition_0 rfl (lv_at hl 0 rfl) ?_
  refine lv_aload_n hx hb dX10_definition_1 rfl (lv_at hl 0 rfl) ?_
  refine zgX10_4 (v := (zI S 2)) hx hb hf hown P0 Z L177 rfl dX10_definition_2 ?_
  refine lv_iconst (v := (nI 2)) hx hb dX10_definition_5 (by decide) ?_
  refine lv_icmp_ne (tgt := 13) hx hb dX10_definition_6 (by decide) (fun q => ?_) (fun q => ?_)
  · have h := zi_f q h
    refine lv_iconst (v := (nI 0)) hx hb dX10_definition_13 (by decide) ?_
    exact B14 (nI 0) S h _ _ Z ls (lv_sub hl [0] rfl)
  · have h := zi_t q h
    refine lv_iconst (v := (nI 1)) hx hb dX10_definition_9 (by decide) ?_
    refine lv_goto (tgt := 14) hx hb dX10_definition_10 (by decide) ?_
    exact B14 (nI 1) S h _ _ Z ls (lv_sub hl [0] rfl)

set_option maxHeartbeats 4000000 in
set_option maxRecDepth 100000 in
theorem kX10_find {g : zG} (l : Launch) (hO : zinjM g) (a1 : Int32) (a2 : Int32) (S : zSt) (r : Int32) (S' : zSt) (h : fX10_find a1 a2 S = some (r, S')) : zMi (zYM g) l yX10_find vX10_find { frames := 0, cells := 0, slots := 0, locals := 0 } ([.ref (zad g 0), .int a1, .int a2] : List Value) S r S' := by
  have hY := zOkM hO
  refine Met.ofW (cc := cX10_find) (maxL := 5) (ret := (some .boolean)) (by decide) rfl ?_
  intro p e s m args below meth c s₁ B hml hv
  obtain ⟨rfl, hP⟩ := hv
  have hx := B.exec
  have hb := B.bytes
  have hr := B.returns
  have hts := atoms_spec (ws := vX10_find) B.pre
  have hT : ∀ w ∈ zTB, w.before ([.ref (zad g 0), .int a1, .int a2] : List Value).toArray s = true := fun w h => hts w (List.mem_cons_of_mem _ h)
  have hown : s.vm.findClass RX10 = some m.cls := findClass_of_methodNamed B.named
  have hlocks := B.notSynchronized
  have P0 := hP.2
  have Z : zZ (zYM g) S s s.heap [] := ⟨hP.1, va_S.rf⟩
  have hf : ∀ w ∈ u_ws RX10 TX10 67, w.before ([.ref (zad g 0), .int a1, .int a2] : List Value).toArray s = true := fun w hw => hT w (mU_X10 w hw)
  have L77 := hT _ mF_X10_77
  have L243 := hT _ mF_X10_243
  have L80 := hT _ mF_X10_80
  have L104 := hT _ mF_X10_104
  have L86 := hT _ mF_X10_86
  have L71 := hT _ mF_X10_71
  have L65 := hT _ mF_X10_65
  have L68 := hT _ mF_X10_68
  have L50 := hT _ mF_X10_50
  have L53 := hT _ mF_X10_53
  have L246 := hT _ mF_X10_246
  have L47 := hT _ mF_X10_47
  have B14 : ∀ (k7 : Int32 × Int32 × Int32 × zSt → Option (Int32 × zSt)) (K7 : (∀ (x1 : Int32) (x2 : Int32) (x3 : Int32) (S : zSt), k7 (x1, x2, x3, S) = some (r, S') → ∀ (H : Heap) (locs : List Loc), zZ (zYM g) S s H locs → ∀ ls : Array Slot, lv_has ls 5 [(0, .ref (zad g 0)), (1, .int x1), (2, .int x2), (3, .int x3)] → W p l e (headSpec vX10_find { frames := 0, cells := 0, slots := 0, locals := 0 }).room s m ([.ref (zad g 0), .int a1, .int a2] : List Value).toArray below meth c H locs 0 0 (MQ below (zQi (zYM g) r S') ([.ref (zad g 0), .int a1, .int a2] : List Value).toArray s 0 0 (zYM g).2.2.1) (F0 m 7 ls []))) (n : Nat) (x1 : Int32) (x2 : Int32) (x3 : Int32) (x4 : Int32) (S : zSt), fX10_find_14L k7 n (x1, x2, x3, x4, S) = some (r, S') → ∀ (H : Heap) (locs : List Loc), zZ (zYM g) S s H locs → ∀ ls : Array Slot, lv_has ls 5 [(0, .ref (zad g 0)), (1, .int x1), (2, .int x2), (3, .int x3), (4, .int x4)] → W p l e (headSpec vX10_find { frames := 0, cells := 0, slots := 0, locals := 0 }).room s m ([.ref (zad g 0), .int a1, .int a2] : List Value).toArray below meth c H locs 0 0 (MQ below (zQi (zYM g) r S') ([.ref (zad g 0), .int a1, .int a2] : List Value).toArray s 0 0 (zYM g).2.2.1) (F0 m 14 ls []) := by
    intro k7 K7 n
    induction n with
    | zero => intro x1 x2 x3 x4 S h; exact absurd h (fun h => nomatch h)
    | succ n K14 =>
      intro x1 x2 x3 x4 S h H locs Z ls hl
      have h : fX10_find_14 k7 (fX10_find_14L k7 n) x1 x2 x3 x4 S = some (r, S') := h
      unfold fX10_find_14 at h
      refine lv_iload hx hb dX10_find_14 (lv_at hl 4 rfl) ?_
      refine lv_aload_n hx hb dX10_find_16 rfl (lv_at hl 0 rfl) ?_
      refine zgX10_27 (v := (zI S 11)) hx hb hf hown P0 Z L243 rfl dX10_find_17 ?_
      refine lv_icmp_ge (tgt := 75) hx hb dX10_find_20 (by decide) (fun q => ?_) (fun q => ?_)
      · have h := zi_t q h
        refine lv_aload_n hx hb dX10_find_75 rfl (lv_at hl 0 rfl) ?_
        refine zgX10_25 hx hb hf hown P0 Z L80 dX10_find_76 ?_
        refine lv_iload_n hx hb dX10_find_79 rfl (lv_at hl 3 rfl) ?_
        obtain ⟨v2, ev, hin, h⟩ := zld_s h
        refine zlM_14 hx hb P0 Z ev hin dX10_find_80 ?_
        refine lv_istore_n (lv' := [(3, .int v2), (0, .ref (zad g 0)), (1, .int x1), (2, .int x2), (4, .int x4)]) hx hb dX10_find_81 rfl hl (by decide) rfl (fun ls hl => ?_)
        refine lv_goto (tgt := 7) hx hb dX10_find_82 (by decide) ?_
        exact K7 x1 x2 v2 S h _ _ Z ls (lv_sub hl [1, 2, 3, 0] rfl)
      · have h := zi_f q h
        refine lv_aload_n hx hb dX10_find_23 rfl (lv_at hl 0 rfl) ?_
        refine zgX10_37 hx hb hf hown P0 Z L104 dX10_find_24 ?_
        refine lv_iload hx hb dX10_find_27 (lv_at hl 4 rfl) ?_
        obtain ⟨v3, ev, hin, h⟩ := zld_s h
        refine zlM_22 hx hb P0 Z ev hin dX10_find_29 ?_
        refine lv_iload_n hx hb dX10_find_30 rfl (lv_at hl 3 rfl) ?_
        refine lv_icmp_ne (tgt := 69) hx hb dX10_find_31 (by decide) (fun q => ?_) (fun q => ?_)
        · have h := zi_f q h
          refine lv_iinc (v := (x4 + (nI 1))) (lv' := [(4, .int (x4 + (nI 1))), (0, .ref (zad g 0)), (1, .int x1), (2, .int x2), (3, .int x3)]) hx hb dX10_find_69 hl (k := 4) rfl rfl (by decide) rfl (fun ls hl => ?_)
          refine lv_goto (tgt := 14) hx hb dX10_find_72 (by decide) ?_
          exact K14 x1 x2 x3 (x4 + (nI 1)) S h _ _ Z ls (lv_sub hl [1, 2, 3, 4, 0] rfl)
        · have h := zi_t q h
          refine lv_aload_n hx hb dX10_find_34 rfl (lv_at hl 0 rfl) ?_
          refine zgX10_28 hx hb hf hown P0 Z L86 dX10_find_35 ?_
          refine lv_iload hx hb dX10_find_38 (lv_at hl 4 rfl) ?_
          obtain ⟨v4, ev, hin, h⟩ := zld_s h
          refine zlM_16 hx hb P0 Z ev hin dX10_find_40 ?_
          refine lv_aload_n hx hb dX10_find_41 rfl (lv_at hl 0 rfl) ?_
          refine zgX10_21 hx hb hf hown P0 Z L71 dX10_find_42 ?_
          refine lv_iload_n hx hb dX10_find_45 rfl (lv_at hl 2 rfl) ?_
          obtain ⟨v5, ev, hin, h⟩ := zld_s h
          refine zlM_11 hx hb P0 Z ev hin dX10_find_46 ?_
          refine W.lcmp hx hb dX10_find_47 ?_
          refine lv_if_ne (tgt := 69) hx hb dX10_find_48 (by decide) (fun q => ?_) (fun q => ?_)
          · have h := zi_f q h
            refine lv_iinc (v := (x4 + (nI 1))) (lv' := [(4, .int (x4 + (nI 1))), (0, .ref (zad g 0)), (1, .int x1), (2, .int x2), (3, .int x3)]) hx hb dX10_find_69 hl (k := 4) rfl rfl (by decide) rfl (fun ls hl => ?_)
            refine lv_goto (tgt := 14) hx hb dX10_find_72 (by decide) ?_
            exact K14 x1 x2 x3 (x4 + (nI 1)) S h _ _ Z ls (lv_sub hl [1, 2, 3, 4, 0] rfl)
          · have h := zi_t q h
            refine lv_aload_n hx hb dX10_find_51 rfl (lv_at hl 0 rfl) ?_
            refine zgX10_19 hx hb hf hown P0 Z L65 dX10_find_52 ?_
            refine lv_iload_n hx hb dX10_find_55 rfl (lv_at hl 2 rfl) ?_
            refine lv_bipush (v := (nI 7)) hx hb dX10_find_56 (by decide) ?_
            obtain ⟨hin, h⟩ := zck_s h
            refine zsM_9 hO hx hb P0 Z hin dX10_find_58 (fun H locs Z => ?_)
            refine lv_aload_n hx hb dX10_find_59 rfl (lv_at hl 0 rfl) ?_
            refine zgX10_20 hx hb hf hown P0 Z L68 dX10_find_60 ?_
            refine lv_iload_n hx hb dX10_find_63 rfl (lv_at hl 2 rfl) ?_
            refine lv_iload hx hb dX10_find_64 (lv_at hl 4 rfl) ?_
            obtain ⟨hin, h⟩ := zck_s h
            refine zsM_10 hO hx hb P0 Z hin dX10_find_66 (fun H locs Z => ?_)
            refine lv_iconst (v := (nI 1)) hx hb dX10_find_67 (by decide) ?_
            exact zr_z hY P0 hx hb hr hlocks (by decide) h Z dX10_find_68
  have B145 : ∀ (n : Nat) (x2 : Int32) (x3 : Int32) (S : zSt), fX10_find_145L n (x2, x3, S) = some (r, S') → ∀ (H : Heap) (locs : List Loc), zZ (zYM g) S s H locs → ∀ ls : Array Slot, lv_has ls 5 [(0, .ref (zad g 0)), (2, .int x2), (3, .int x3)] → W p l e (headSpec vX10_find { frames := 0, cells := 0, slots := 0, locals := 0 }).room s m ([.ref (zad g 0), .int a1, .int a2] : List Value).toArray below meth c H locs 0 0 (MQ below (zQi (zYM g) r S') ([.ref (zad g 0), .int a1, .int a2] : List Value).toArray s 0 0 (zYM g).2.2.1) (F0 m 145 ls []) := by
    intro n
    induction n with
    | zero => intro x2 x3 S h; exact absurd h (fun h => nomatch h)
    | succ n K145 =>
      intro x2 x3 S h H locs Z ls hl
      have h : fX10_find_145 (fX10_find_145L n) x2 x3 S = some (r, S') := h
      unfold fX10_find_145 at h
      refine lv_iload_n hx hb dX10_find_145 rfl (lv_at hl 2 rfl) ?_
      refine lv_aload_n hx hb dX10_find_146 rfl (lv_at hl 0 rfl) ?_
      refine zgX10_11 (v := (zI S 8)) hx hb hf hown P0 Z L246 rfl dX10_find_147 ?_
      refine lv_icmp_ge (tgt := 191) hx hb dX10_find_150 (by decide) (fun q => ?_) (fun q => ?_)
      · have h := zi_t q h
        refine lv_iconst (v := (nI 0)) hx hb dX10_find_191 (by decide) ?_
        exact zr_z hY P0 hx hb hr hlocks (by decide) h Z dX10_find_192
      · have h := zi_f q h
        refine lv_aload_n hx hb dX10_find_153 rfl (lv_at hl 0 rfl) ?_
        refine zgX10_12 hx hb hf hown P0 Z L47 dX10_find_154 ?_
        refine lv_iload_n hx hb dX10_find_157 rfl (lv_at hl 2 rfl) ?_
        obtain ⟨v9, ev, hin, h⟩ := zld_s h
        refine zlM_3 hx hb P0 Z ev hin dX10_find_158 ?_
        refine lv_aload_n hx hb dX10_find_159 rfl (lv_at hl 0 rfl) ?_
        refine zgX10_21 hx hb hf hown P0 Z L71 dX10_find_160 ?_
        refine lv_iload_n hx hb dX10_find_163 rfl (lv_at hl 1 rfl) ?_
        obtain ⟨v10, ev, hin, h⟩ := zld_s h
        refine zlM_11 hx hb P0 Z ev hin dX10_find_164 ?_
        refine W.lcmp hx hb dX10_find_165 ?_
        refine lv_if_ne (tgt := 185) hx hb dX10_find_166 (by decide) (fun q => ?_) (fun q => ?_)
        · have h := zi_f q h
          refine lv_iinc (v := (x3 + (nI 1))) (lv' := [(3, .int (x3 + (nI 1))), (0, .ref (zad g 0)), (2, .int x2)]) hx hb dX10_find_185 hl (k := 2) rfl rfl (by decide) rfl (fun ls hl => ?_)
          refine lv_goto (tgt := 145) hx hb dX10_find_188 (by decide) ?_
          exact K145 x2 (x3 + (nI 1)) S h _ _ Z ls (lv_sub hl [1, 2, 0] rfl)
        · have h := zi_t q h
          refine lv_aload_n hx hb dX10_find_169 rfl (lv_at hl 0 rfl) ?_
          refine zgX10_19 hx hb hf hown P0 Z L65 dX10_find_170 ?_
          refine lv_iload_n hx hb dX10_find_173 rfl (lv_at hl 1 rfl) ?_
          refine lv_iconst (v := (nI 5)) hx hb dX10_find_174 (by decide) ?_
          obtain ⟨hin, h⟩ := zck_s h
          refine zsM_9 hO hx hb P0 Z hin dX10_find_175 (fun H locs Z => ?_)
          refine lv_aload_n hx hb dX10_find_176 rfl (lv_at hl 0 rfl) ?_
          refine zgX10_20 hx hb hf hown P0 Z L68 dX10_find_177 ?_
          refine lv_iload_n hx hb dX10_find_180 rfl (lv_at hl 1 rfl) ?_
          refine lv_iload_n hx hb dX10_find_181 rfl (lv_at hl 2 rfl) ?_
          obtain ⟨hin, h⟩ := zck_s h
          refine zsM_10 hO hx hb P0 Z hin dX10_find_182 (fun H locs Z => ?_)
          refine lv_iconst (v := (nI 1)) hx hb dX10_find_183 (by decide) ?_
          exact zr_z hY P0 hx hb hr hlocks (by decide) h Z dX10_find_184
  have B87 : ∀ (n : Nat) (x1 : Int32) (x2 : Int32) (x3 : Int32) (S : zSt), fX10_find_87L n (x1, x2, x3, S) = some (r, S') → ∀ (H : Heap) (locs : List Loc), zZ (zYM g) S s H locs → ∀ ls : Array Slot, lv_has ls 5 [(0, .ref (zad g 0)), (1, .int x1), (2, .int x2), (3, .int x3)] → W p l e (headSpec vX10_find { frames := 0, cells := 0, slots := 0, locals := 0 }).room s m ([.ref (zad g 0), .int a1, .int a2] : List Value).toArray below meth c H locs 0 0 (MQ below (zQi (zYM g) r S') ([.ref (zad g 0), .int a1, .int a2] : List Value).toArray s 0 0 (zYM g).2.2.1) (F0 m 87 ls []) := by
    intro n
    induction n with
    | zero => intro x1 x2 x3 S h; exact absurd h (fun h => nomatch h)
    | succ n K87 =>
      intro x1 x2 x3 S h H locs Z ls hl
      have h : fX10_find_87 (fX10_find_87L n) x1 x2 x3 S = some (r, S') := h
      unfold fX10_find_87 at h
      refine lv_iload_n hx hb dX10_find_87 rfl (lv_at hl 3 rfl) ?_
      refine lv_aload_n hx hb dX10_find_88 rfl (lv_at hl 0 rfl) ?_
      refine zgX10_13 hx hb hf hown P0 Z L50 dX10_find_89 ?_
      refine lv_iload_n hx hb dX10_find_92 rfl (lv_at hl 1 rfl) ?_
      obtain ⟨v6, ev, hin, h⟩ := zld_s h
      refine zlM_4 hx hb P0 Z ev hin dX10_find_93 ?_
      refine lv_icmp_ge (tgt := 143) hx hb dX10_find_94 (by decide) (fun q => ?_) (fun q => ?_)
      · have h := zi_t q h
        refine lv_iconst (v := (nI 0)) hx hb dX10_find_143 (by decide) ?_
        refine lv_istore_n (lv' := [(3, .int (nI 0)), (0, .ref (zad g 0)), (1, .int x1), (2, .int x2)]) hx hb dX10_find_144 rfl hl (by decide) rfl (fun ls hl => ?_)
        exact B145 zFU x2 (nI 0) S h _ _ Z ls (lv_sub hl [1, 3, 0] rfl)
      · have h := zi_f q h
        refine lv_aload_n hx hb dX10_find_97 rfl (lv_at hl 0 rfl) ?_
        refine zgX10_14 hx hb hf hown P0 Z L53 dX10_find_98 ?_
        refine lv_bipush (v := (nI 8)) hx hb dX10_find_101 (by decide) ?_
        refine lv_iload_n hx hb dX10_find_103 rfl (lv_at hl 1 rfl) ?_
        refine lv_imul hx hb dX10_find_104 ?_
        refine lv_iload_n hx hb dX10_find_105 rfl (lv_at hl 3 rfl) ?_
        refine lv_iadd hx hb dX10_find_106 ?_
        obtain ⟨v7, ev, hin, h⟩ := zld_s h
        refine zlM_5 hx hb P0 Z ev hin dX10_find_107 ?_
        refine lv_aload_n hx hb dX10_find_108 rfl (lv_at hl 0 rfl) ?_
        refine zgX10_21 hx hb hf hown P0 Z L71 dX10_find_109 ?_
        refine lv_iload_n hx hb dX10_find_112 rfl (lv_at hl 2 rfl) ?_
        obtain ⟨v8, ev, hin, h⟩ := zld_s h
        refine zlM_11 hx hb P0 Z ev hin dX10_find_113 ?_
        refine W.lcmp hx hb dX10_find_114 ?_
        refine lv_if_ne (tgt := 137) hx hb dX10_find_115 (by decide) (fun q => ?_) (fun q => ?_)
        · have h := zi_f q h
          refine lv_iinc (v := (x3 + (nI 1))) (lv' := [(3, .int (x3 + (nI 1))), (0, .ref (zad g 0)), (1, .int x1), (2, .int x2)]) hx hb dX10_find_137 hl (k := 3) rfl rfl (by decide) rfl (fun ls hl => ?_)
          refine lv_goto (tgt := 87) hx hb dX10_find_140 (by decide) ?_
          exact K87 x1 x2 (x3 + (nI 1)) S h _ _ Z ls (lv_sub hl [1, 2, 3, 0] rfl)
        · have h := zi_t q h
          refine lv_aload_n hx hb dX10_find_118 rfl (lv_at hl 0 rfl) ?_
          refine zgX10_19 hx hb hf hown P0 Z L65 dX10_find_119 ?_
          refine lv_iload_n hx hb dX10_find_122 rfl (lv_at hl 2 rfl) ?_
          refine lv_bipush (v := (nI 6)) hx hb dX10_find_123 (by decide) ?_
          obtain ⟨hin, h⟩ := zck_s h
          refine zsM_9 hO hx hb P0 Z hin dX10_find_125 (fun H locs Z => ?_)
          refine lv_aload_n hx hb dX10_find_126 rfl (lv_at hl 0 rfl) ?_
          refine zgX10_20 hx hb hf hown P0 Z L68 dX10_find_127 ?_
          refine lv_iload_n hx hb dX10_find_130 rfl (lv_at hl 2 rfl) ?_
          refine lv_iload_n hx hb dX10_find_131 rfl (lv_at hl 3 rfl) ?_
          refine lv_iconst (v := (nI 1)) hx hb dX10_find_132 (by decide) ?_
          refine lv_iadd hx hb dX10_find_133 ?_
          obtain ⟨hin, h⟩ := zck_s h
          refine zsM_10 hO hx hb P0 Z hin dX10_find_134 (fun H locs Z => ?_)
          refine lv_iconst (v := (nI 1)) hx hb dX10_find_135 (by decide) ?_
          exact zr_z hY P0 hx hb hr hlocks (by decide) h Z dX10_find_136
  have B7 : ∀ (n : Nat) (x1 : Int32) (x2 : Int32) (x3 : Int32) (S : zSt), fX10_find_7L n (x1, x2, x3, S) = some (r, S') → ∀ (H : Heap) (locs : List Loc), zZ (zYM g) S s H locs → ∀ ls : Array Slot, lv_has ls 5 [(0, .ref (zad g 0)), (1, .int x1), (2, .int x2), (3, .int x3)] → W p l e (headSpec vX10_find { frames := 0, cells := 0, slots := 0, locals := 0 }).room s m ([.ref (zad g 0), .int a1, .int a2] : List Value).toArray below meth c H locs 0 0 (MQ below (zQi (zYM g) r S') ([.ref (zad g 0), .int a1, .int a2] : List Value).toArray s 0 0 (zYM g).2.2.1) (F0 m 7 ls []) := by
    intro n
    induction n with
    | zero => intro x1 x2 x3 S h; exact absurd h (fun h => nomatch h)
    | succ n K7 =>
      intro x1 x2 x3 S h H locs Z ls hl
      have h : fX10_find_7 (fX10_find_7L n) x1 x2 x3 S = some (r, S') := h
      unfold fX10_find_7 at h
      refine lv_iload_n hx hb dX10_find_7 rfl (lv_at hl 3 rfl) ?_
      refine lv_if_lt (tgt := 85) hx hb dX10_find_8 (by decide) (fun q => ?_) (fun q => ?_)
      · have h := zi_t q h
        refine lv_iconst (v := (nI 0)) hx hb dX10_find_85 (by decide) ?_
        refine lv_istore_n (lv' := [(3, .int (nI 0)), (0, .ref (zad g 0)), (1, .int x1), (2, .int x2)]) hx hb dX10_find_86 rfl hl (by decide) rfl (fun ls hl => ?_)
        exact B87 zFU x1 x2 (nI 0) S h _ _ Z ls (lv_sub hl [1, 2, 3, 0] rfl)
      · have h := zi_f q h
        refine lv_iconst (v := (nI 0)) hx hb dX10_find_11 (by decide) ?_
        refine lv_istore (lv' := [(4, .int (nI 0)), (0, .ref (zad g 0)), (1, .int x1), (2, .int x2), (3, .int x3)]) hx hb dX10_find_12 hl (by decide) rfl (fun ls hl => ?_)
        exact B14 (fX10_find_7L n) K7 zFU x1 x2 x3 (nI 0) S h _ _ Z ls (lv_sub hl [1, 2, 3, 4, 0] rfl)
  have hl := lv_entry ([.ref (zad g 0), .int a1, .int a2] : List Value) (n := 5) (Nat.le_of_ble_eq_true rfl)
  rw [lg_entry_eq]
  generalize (lg_sl ([.ref (zad g 0), .int a1, .int a2] : List Value) ++ List.replicate (5 - (lg_sl ([.ref (zad g 0), .int a1, .int a2] : List Value)).length) Slot.unset).toArray = ls at hl ⊢
  have hl : lv_has ls 5 [(0, .ref (zad g 0)), (1, .int a1), (2, .int a2)] := hl
  unfold fX10_find at h
  refine lv_aload_n hx hb dX10_find_0 rfl (lv_at hl 0 rfl) ?_
  refine zgX10_23 hx hb hf hown P0 Z L77 dX10_find_1 ?_
  refine lv_iload_n hx hb dX10_find_4 rfl (lv_at hl 2 rfl) ?_
  obtain ⟨v1, ev, hin, h⟩ := zld_s h
  refine zlM_13 hx hb P0 Z ev hin dX10_find_5 ?_
  refine lv_istore_n (lv' := [(3, .int v1), (0, .ref (zad g 0)), (1, .int a1), (2, .int a2)]) hx hb dX10_find_6 rfl hl (by decide) rfl (fun ls hl => ?_)
  exact B7 zFU a1 a2 v1 S h _ _ Z ls (lv_sub hl [1, 2, 3, 0] rfl)

set_option maxHeartbeats 4000000 in
set_option maxRecDepth 100000 in
theorem kX10_resolve {g : zG} (l : Launch) (hO : zinjM g) (S : zSt) (r : Unit) (S' : zSt) (h : fX10_resolve S = some (r, S')) : zMv (zYM g) l yX10_resolve vX10_resolve { frames := 1, cells := 0, slots := 0, locals := 24 } ([.ref (zad g 0)] : List Value) S S' := by
  have hY := zOkM hO
  refine Met.ofW (cc := cX10_resolve) (maxL := 3) (ret := none) (by decide) rfl ?_
  intro p e s m args below meth c s₁ B hml hv
  obtain ⟨rfl, hP⟩ := hv
  have hx := B.exec
  have hb := B.bytes
  have hr := B.returns
  have hts := atoms_spec (ws := vX10_resolve) B.pre
  have hT : ∀ w ∈ zTB, w.before ([.ref (zad g 0)] : List Value).toArray s = true := fun w h => hts w (List.mem_cons_of_mem _ h)
  have hown : s.vm.findClass RX10 = some m.cls := findClass_of_methodNamed B.named
  have hlocks := B.notSynchronized
  have P0 := hP.2
  have Z : zZ (zYM g) S s s.heap [] := ⟨hP.1, va_S.rf⟩
  have hf : ∀ w ∈ u_ws RX10 TX10 67, w.before ([.ref (zad g 0)] : List Value).toArray s = true := fun w hw => hT w (mU_X10 w hw)
  have L246 := hT _ mF_X10_246
  have L62 := hT _ mF_X10_62
  have L56 := hT _ mF_X10_56
  have L59 := hT _ mF_X10_59
  have L65 := hT _ mF_X10_65
  have L74 := hT _ mF_X10_74
  have L68 := hT _ mF_X10_68
  have L243 := hT _ mF_X10_243
  have L107 := hT _ mF_X10_107
  have B102 : ∀ (k24 : Int32 × Int32 × zSt → Option (Unit × zSt)) (K24 : (∀ (x1 : Int32) (x2 : Int32) (S : zSt), k24 (x1, x2, S) = some (r, S') → ∀ (H : Heap) (locs : List Loc), zZ (zYM g) S s H locs → ∀ ls : Array Slot, lv_has ls 3 [(0, .ref (zad g 0)), (1, .int x1), (2, .int x2)] → W p l e (headSpec vX10_resolve { frames := 1, cells := 0, slots := 0, locals := 24 }).room s m ([.ref (zad g 0)] : List Value).toArray below meth c H locs 0 0 (MQ below (zQv (zYM g) S') ([.ref (zad g 0)] : List Value).toArray s 0 0 (zYM g).2.2.1) (F0 m 24 ls []))) (x1 : Int32) (x2 : Int32) (y0 : Int32) (y1 : Int32) (S : zSt), fX10_resolve_102 k24 x1 x2 y0 y1 S = some (r, S') → ∀ (H : Heap) (locs : List Loc), zZ (zYM g) S s H locs → ∀ ls : Array Slot, lv_has ls 3 [(0, .ref (zad g 0)), (1, .int x1), (2, .int x2)] → W p l e (headSpec vX10_resolve { frames := 1, cells := 0, slots := 0, locals := 24 }).room s m ([.ref (zad g 0)] : List Value).toArray below meth c H locs 0 0 (MQ below (zQv (zYM g) S') ([.ref (zad g 0)] : List Value).toArray s 0 0 (zYM g).2.2.1) (F0 m 102 ls [.int y0, .int y1, .ref (zad g 8)]) := by
    intro k24 K24 x1 x2 y0 y1 S h H locs Z ls hl
    unfold fX10_resolve_102 at h
    refine lv_iconst (v := (nI 1)) hx hb dX10_resolve_102 (by decide) ?_
    refine lv_goto (tgt := 129) hx hb dX10_resolve_103 (by decide) ?_
    refine lv_iadd hx hb dX10_resolve_129 ?_
    obtain ⟨hin, h⟩ := zck_s h
    refine zsM_8 hO hx hb P0 Z hin dX10_resolve_130 (fun H locs Z => ?_)
    refine lv_iinc (v := (x2 + (nI 1))) (lv' := [(2, .int (x2 + (nI 1))), (0, .ref (zad g 0)), (1, .int x1)]) hx hb dX10_resolve_131 hl (k := 2) rfl rfl (by decide) rfl (fun ls hl => ?_)
    refine lv_goto (tgt := 24) hx hb dX10_resolve_134 (by decide) ?_
    exact K24 x1 (x2 + (nI 1)) (wA S 8 (y1.toNatClampNeg) (y0 + (nI 1))) h _ _ Z ls (lv_sub hl [1, 2, 0] rfl)
  have B65 : ∀ (k24 : Int32 × Int32 × zSt → Option (Unit × zSt)) (K24 : (∀ (x1 : Int32) (x2 : Int32) (S : zSt), k24 (x1, x2, S) = some (r, S') → ∀ (H : Heap) (locs : List Loc), zZ (zYM g) S s H locs → ∀ ls : Array Slot, lv_has ls 3 [(0, .ref (zad g 0)), (1, .int x1), (2, .int x2)] → W p l e (headSpec vX10_resolve { frames := 1, cells := 0, slots := 0, locals := 24 }).room s m ([.ref (zad g 0)] : List Value).toArray below meth c H locs 0 0 (MQ below (zQv (zYM g) S') ([.ref (zad g 0)] : List Value).toArray s 0 0 (zYM g).2.2.1) (F0 m 24 ls []))) (x1 : Int32) (x2 : Int32) (S : zSt), fX10_resolve_65 k24 x1 x2 S = some (r, S') → ∀ (H : Heap) (locs : List Loc), zZ (zYM g) S s H locs → ∀ ls : Array Slot, lv_has ls 3 [(0, .ref (zad g 0)), (1, .int x1), (2, .int x2)] → W p l e (headSpec vX10_resolve { frames := 1, cells := 0, slots := 0, locals := 24 }).room s m ([.ref (zad g 0)] : List Value).toArray below meth c H locs 0 0 (MQ below (zQv (zYM g) S') ([.ref (zad g 0)] : List Value).toArray s 0 0 (zYM g).2.2.1) (F0 m 65 ls []) := by
    intro k24 K24 x1 x2 S h H locs Z ls hl
    unfold fX10_resolve_65 at h
    refine lv_aload_n hx hb dX10_resolve_65 rfl (lv_at hl 0 rfl) ?_
    refine zgX10_17 hx hb hf hown P0 Z L62 dX10_resolve_66 ?_
    refine lv_iload_n hx hb dX10_resolve_69 rfl (lv_at hl 1 rfl) ?_
    refine lv_dup2_11 hx hb dX10_resolve_70 rfl rfl ?_
    obtain ⟨v9, ev, hin, h⟩ := zld_s h
    refine zlM_8 hx hb P0 Z ev hin dX10_resolve_71 ?_
    refine lv_aload_n hx hb dX10_resolve_72 rfl (lv_at hl 0 rfl) ?_
    refine zgX10_19 hx hb hf hown P0 Z L65 dX10_resolve_73 ?_
    refine lv_iload_n hx hb dX10_resolve_76 rfl (lv_at hl 2 rfl) ?_
    obtain ⟨v10, ev, hin, h⟩ := zld_s h
    refine zlM_9 hx hb P0 Z ev hin dX10_resolve_77 ?_
    refine lv_iconst (v := (nI 1)) hx hb dX10_resolve_78 (by decide) ?_
    refine lv_icmp_eq (tgt := 102) hx hb dX10_resolve_79 (by decide) (fun q => ?_) (fun q => ?_)
    · have h := zi_t q h
      exact B102 k24 K24 x1 x2 v9 x1 S h _ _ Z ls (lv_sub hl [0, 1, 2] rfl)
    · have h := zi_f q h
      refine lv_aload_n hx hb dX10_resolve_82 rfl (lv_at hl 0 rfl) ?_
      refine zgX10_19 hx hb hf hown P0 Z L65 dX10_resolve_83 ?_
      refine lv_iload_n hx hb dX10_resolve_86 rfl (lv_at hl 2 rfl) ?_
      obtain ⟨v11, ev, hin, h⟩ := zld_s h
      refine zlM_9 hx hb P0 Z ev hin dX10_resolve_87 ?_
      refine lv_iconst (v := (nI 2)) hx hb dX10_resolve_88 (by decide) ?_
      refine lv_icmp_eq (tgt := 102) hx hb dX10_resolve_89 (by decide) (fun q => ?_) (fun q => ?_)
      · have h := zi_t q h
        exact B102 k24 K24 x1 x2 v9 x1 S h _ _ Z ls (lv_sub hl [0, 1, 2] rfl)
      · have h := zi_f q h
        refine lv_aload_n hx hb dX10_resolve_92 rfl (lv_at hl 0 rfl) ?_
        refine zgX10_19 hx hb hf hown P0 Z L65 dX10_resolve_93 ?_
        refine lv_iload_n hx hb dX10_resolve_96 rfl (lv_at hl 2 rfl) ?_
        obtain ⟨v12, ev, hin, h⟩ := zld_s h
        refine zlM_9 hx hb P0 Z ev hin dX10_resolve_97 ?_
        refine lv_iconst (v := (nI 3)) hx hb dX10_resolve_98 (by decide) ?_
        refine lv_icmp_ne (tgt := 106) hx hb dX10_resolve_99 (by decide) (fun q => ?_) (fun q => ?_)
        · have h := zi_f q h
          refine lv_aload_n hx hb dX10_resolve_106 rfl (lv_at hl 0 rfl) ?_
          refine zgX10_19 hx hb hf hown P0 Z L65 dX10_resolve_107 ?_
          refine lv_iload_n hx hb dX10_resolve_110 rfl (lv_at hl 2 rfl) ?_
          obtain ⟨v13, ev, hin, h⟩ := zld_s h
          refine zlM_9 hx hb P0 Z ev hin dX10_resolve_111 ?_
          refine lv_bipush (v := (nI 8)) hx hb dX10_resolve_112 (by decide) ?_
          refine lv_icmp_ne (tgt := 128) hx hb dX10_resolve_114 (by decide) (fun q => ?_) (fun q => ?_)
          · have h := zi_f q h
            refine lv_iconst (v := (nI 0)) hx hb dX10_resolve_128 (by decide) ?_
            refine lv_iadd hx hb dX10_resolve_129 ?_
            obtain ⟨hin, h⟩ := zck_s h
            refine zsM_8 hO hx hb P0 Z hin dX10_resolve_130 (fun H locs Z => ?_)
            refine lv_iinc (v := (x2 + (nI 1))) (lv' := [(2, .int (x2 + (nI 1))), (0, .ref (zad g 0)), (1, .int x1)]) hx hb dX10_resolve_131 hl (k := 2) rfl rfl (by decide) rfl (fun ls hl => ?_)
            refine lv_goto (tgt := 24) hx hb dX10_resolve_134 (by decide) ?_
            exact K24 x1 (x2 + (nI 1)) (wA S 8 (x1.toNatClampNeg) (v9 + (nI 0))) h _ _ Z ls (lv_sub hl [1, 2, 0] rfl)
          · have h := zi_t q h
            refine lv_aload_n hx hb dX10_resolve_117 rfl (lv_at hl 0 rfl) ?_
            refine zgX10_20 hx hb hf hown P0 Z L68 dX10_resolve_118 ?_
            refine lv_iload_n hx hb dX10_resolve_121 rfl (lv_at hl 2 rfl) ?_
            obtain ⟨v14, ev, hin, h⟩ := zld_s h
            refine zlM_10 hx hb P0 Z ev hin dX10_resolve_122 ?_
            refine lv_iconst (v := (nI 1)) hx hb dX10_resolve_123 (by decide) ?_
            refine lv_isub hx hb dX10_resolve_124 ?_
            refine lv_goto (tgt := 129) hx hb dX10_resolve_125 (by decide) ?_
            refine lv_iadd hx hb dX10_resolve_129 ?_
            obtain ⟨hin, h⟩ := zck_s h
            refine zsM_8 hO hx hb P0 Z hin dX10_resolve_130 (fun H locs Z => ?_)
            refine lv_iinc (v := (x2 + (nI 1))) (lv' := [(2, .int (x2 + (nI 1))), (0, .ref (zad g 0)), (1, .int x1)]) hx hb dX10_resolve_131 hl (k := 2) rfl rfl (by decide) rfl (fun ls hl => ?_)
            refine lv_goto (tgt := 24) hx hb dX10_resolve_134 (by decide) ?_
            exact K24 x1 (x2 + (nI 1)) (wA S 8 (x1.toNatClampNeg) (v9 + (v14 - (nI 1)))) h _ _ Z ls (lv_sub hl [1, 2, 0] rfl)
        · have h := zi_t q h
          exact B102 k24 K24 x1 x2 v9 x1 S h _ _ Z ls (lv_sub hl [0, 1, 2] rfl)
  have B24 : ∀ (k2 : Int32 × zSt → Option (Unit × zSt)) (K2 : (∀ (x1 : Int32) (S : zSt), k2 (x1, S) = some (r, S') → ∀ (H : Heap) (locs : List Loc), zZ (zYM g) S s H locs → ∀ ls : Array Slot, lv_has ls 3 [(0, .ref (zad g 0)), (1, .int x1)] → W p l e (headSpec vX10_resolve { frames := 1, cells := 0, slots := 0, locals := 24 }).room s m ([.ref (zad g 0)] : List Value).toArray below meth c H locs 0 0 (MQ below (zQv (zYM g) S') ([.ref (zad g 0)] : List Value).toArray s 0 0 (zYM g).2.2.1) (F0 m 2 ls []))) (n : Nat) (x1 : Int32) (x2 : Int32) (S : zSt), fX10_resolve_24L k2 n (x1, x2, S) = some (r, S') → ∀ (H : Heap) (locs : List Loc), zZ (zYM g) S s H locs → ∀ ls : Array Slot, lv_has ls 3 [(0, .ref (zad g 0)), (1, .int x1), (2, .int x2)] → W p l e (headSpec vX10_resolve { frames := 1, cells := 0, slots := 0, locals := 24 }).room s m ([.ref (zad g 0)] : List Value).toArray below meth c H locs 0 0 (MQ below (zQv (zYM g) S') ([.ref (zad g 0)] : List Value).toArray s 0 0 (zYM g).2.2.1) (F0 m 24 ls []) := by
    intro k2 K2 n
    induction n with
    | zero => intro x1 x2 S h; exact absurd h (fun h => nomatch h)
    | succ n K24 =>
      intro x1 x2 S h H locs Z ls hl
      have h : fX10_resolve_24 k2 (fX10_resolve_24L k2 n) x1 x2 S = some (r, S') := h
      unfold fX10_resolve_24 at h
      refine lv_iload_n hx hb dX10_resolve_24 rfl (lv_at hl 2 rfl) ?_
      refine lv_aload_n hx hb dX10_resolve_25 rfl (lv_at hl 0 rfl) ?_
      refine zgX10_16 hx hb hf hown P0 Z L59 dX10_resolve_26 ?_
      refine lv_iload_n hx hb dX10_resolve_29 rfl (lv_at hl 1 rfl) ?_
      obtain ⟨v2, ev, hin, h⟩ := zld_s h
      refine zlM_7 hx hb P0 Z ev hin dX10_resolve_30 ?_
      refine lv_icmp_ge (tgt := 137) hx hb dX10_resolve_31 (by decide) (fun q => ?_) (fun q => ?_)
      · have h := zi_t q h
        refine lv_iinc (v := (x1 + (nI 1))) (lv' := [(1, .int (x1 + (nI 1))), (0, .ref (zad g 0)), (2, .int x2)]) hx hb dX10_resolve_137 hl (k := 1) rfl rfl (by decide) rfl (fun ls hl => ?_)
        refine lv_goto (tgt := 2) hx hb dX10_resolve_140 (by decide) ?_
        exact K2 (x1 + (nI 1)) S h _ _ Z ls (lv_sub hl [1, 0] rfl)
      · have h := zi_f q h
        refine lv_aload_n hx hb dX10_resolve_34 rfl (lv_at hl 0 rfl) ?_
        refine zgX10_19 hx hb hf hown P0 Z L65 dX10_resolve_35 ?_
        refine lv_iload_n hx hb dX10_resolve_38 rfl (lv_at hl 2 rfl) ?_
        obtain ⟨v3, ev, hin, h⟩ := zld_s h
        refine zlM_9 hx hb P0 Z ev hin dX10_resolve_39 ?_
        refine lv_iconst (v := (nI 4)) hx hb dX10_resolve_40 (by decide) ?_
        refine lv_icmp_ne (tgt := 65) hx hb dX10_resolve_41 (by decide) (fun q => ?_) (fun q => ?_)
        · have h := zi_f q h
          exact B65 (fX10_resolve_24L k2 n) K24 x1 x2 S h _ _ Z ls (lv_sub hl [0, 1, 2] rfl)
        · have h := zi_t q h
          refine lv_aload_n hx hb dX10_resolve_44 rfl (lv_at hl 0 rfl) ?_
          refine lv_iload_n hx hb dX10_resolve_45 rfl (lv_at hl 1 rfl) ?_
          refine lv_iload_n hx hb dX10_resolve_46 rfl (lv_at hl 2 rfl) ?_
          obtain ⟨r4, S5, ec, h⟩ := zbd_s h
          refine zc_Vi hY P0 ⟨hx, hb, hml, hown, hT⟩ (As := [.int x1, .int x2]) (rest := []) (kX10_find l hO x1 x2 S r4 S5 ec) (cwV 2 hT (zgV mL_X10_252 mI_X10_find mS_X10_find mN_X10 mC_X10_find) rfl rfl rfl hdnX10_find ⟨Nat.le_of_ble_eq_true rfl, Nat.le_of_ble_eq_true rfl⟩) (zrecM_0 P0 Z) Z rfl hl.1 rfl (Nat.le_of_ble_eq_true rfl) dX10_resolve_47 (fun H locs Z => ?_)
          refine lv_if_ne (tgt := 65) hx hb dX10_resolve_50 (by decide) (fun q => ?_) (fun q => ?_)
          · have h := zi_f q h
            exact B65 (fX10_resolve_24L k2 n) K24 x1 x2 S5 h _ _ Z ls (lv_sub hl [0, 1, 2] rfl)
          · have h := zi_t q h
            refine lv_aload_n hx hb dX10_resolve_53 rfl (lv_at hl 0 rfl) ?_
            refine lv_iconst (v := (nI 5)) hx hb dX10_resolve_54 (by decide) ?_
            refine lv_aload_n hx hb dX10_resolve_55 rfl (lv_at hl 0 rfl) ?_
            refine zgX10_22 hx hb hf hown P0 Z L74 dX10_resolve_56 ?_
            refine lv_iload_n hx hb dX10_resolve_59 rfl (lv_at hl 2 rfl) ?_
            obtain ⟨v6, ev, hin, h⟩ := zld_s h
            refine zlM_12 hx hb P0 Z ev hin dX10_resolve_60 ?_
            obtain ⟨r7, S8, ec, h⟩ := zbd_s h
            refine zc_Vv hY P0 ⟨hx, hb, hml, hown, hT⟩ (As := [.int (nI 5), .int v6]) (rest := []) (kX10_fail l hO (nI 5) v6 S5 r7 S8 ec) (cwV 2 hT (zgV mL_X10_197 mI_X10_fail mS_X10_fail mN_X10 mC_X10_fail) rfl rfl rfl hdnX10_fail ⟨Nat.le_of_ble_eq_true rfl, Nat.le_of_ble_eq_true rfl⟩) (zrecM_0 P0 Z) Z rfl hl.1 rfl (Nat.le_of_ble_eq_true rfl) dX10_resolve_61 (fun H locs Z => ?_)
            exact zr_v hY P0 hx hb hr hlocks h Z dX10_resolve_64
  have B145 : ∀ (n : Nat) (x1 : Int32) (S : zSt), fX10_resolve_145L n (x1, S) = some (r, S') → ∀ (H : Heap) (locs : List Loc), zZ (zYM g) S s H locs → ∀ ls : Array Slot, lv_has ls 3 [(0, .ref (zad g 0)), (1, .int x1)] → W p l e (headSpec vX10_resolve { frames := 1, cells := 0, slots := 0, locals := 24 }).room s m ([.ref (zad g 0)] : List Value).toArray below meth c H locs 0 0 (MQ below (zQv (zYM g) S') ([.ref (zad g 0)] : List Value).toArray s 0 0 (zYM g).2.2.1) (F0 m 145 ls []) := by
    intro n
    induction n with
    | zero => intro x1 S h; exact absurd h (fun h => nomatch h)
    | succ n K145 =>
      intro x1 S h H locs Z ls hl
      have h : fX10_resolve_145 (fX10_resolve_145L n) x1 S = some (r, S') := h
      unfold fX10_resolve_145 at h
      refine lv_iload_n hx hb dX10_resolve_145 rfl (lv_at hl 1 rfl) ?_
      refine lv_aload_n hx hb dX10_resolve_146 rfl (lv_at hl 0 rfl) ?_
      refine zgX10_27 (v := (zI S 11)) hx hb hf hown P0 Z L243 rfl dX10_resolve_147 ?_
      refine lv_icmp_ge (tgt := 174) hx hb dX10_resolve_150 (by decide) (fun q => ?_) (fun q => ?_)
      · have h := zi_t q h
        exact zr_v hY P0 hx hb hr hlocks h Z dX10_resolve_174
      · have h := zi_f q h
        refine lv_aload_n hx hb dX10_resolve_153 rfl (lv_at hl 0 rfl) ?_
        refine zgX10_17 hx hb hf hown P0 Z L62 dX10_resolve_154 ?_
        refine lv_aload_n hx hb dX10_resolve_157 rfl (lv_at hl 0 rfl) ?_
        refine zgX10_38 hx hb hf hown P0 Z L107 dX10_resolve_158 ?_
        refine lv_iload_n hx hb dX10_resolve_161 rfl (lv_at hl 1 rfl) ?_
        obtain ⟨v15, ev, hin, h⟩ := zld_s h
        refine zlM_23 hx hb P0 Z ev hin dX10_resolve_162 ?_
        refine lv_dup2_11 hx hb dX10_resolve_163 rfl rfl ?_
        obtain ⟨v16, ev, hin, h⟩ := zld_s h
        refine zlM_8 hx hb P0 Z ev hin dX10_resolve_164 ?_
        refine lv_iconst (v := (nI 1)) hx hb dX10_resolve_165 (by decide) ?_
        refine lv_iadd hx hb dX10_resolve_166 ?_
        obtain ⟨hin, h⟩ := zck_s h
        refine zsM_8 hO hx hb P0 Z hin dX10_resolve_167 (fun H locs Z => ?_)
        refine lv_iinc (v := (x1 + (nI 1))) (lv' := [(1, .int (x1 + (nI 1))), (0, .ref (zad g 0))]) hx hb dX10_resolve_168 hl (k := 1) rfl rfl (by decide) rfl (fun ls hl => ?_)
        refine lv_goto (tgt := 145) hx hb dX10_resolve_171 (by decide) ?_
        exact K145 (x1 + (nI 1)) (wA S 8 (v15.toNatClampNeg) (v16 + (nI 1))) h _ _ Z ls (lv_sub hl [1, 0] rfl)
  have B2 : ∀ (n : Nat) (x1 : Int32) (S : zSt), fX10_resolve_2L n (x1, S) = some (r, S') → ∀ (H : Heap) (locs : List Loc), zZ (zYM g) S s H locs → ∀ ls : Array Slot, lv_has ls 3 [(0, .ref (zad g 0)), (1, .int x1)] → W p l e (headSpec vX10_resolve { frames := 1, cells := 0, slots := 0, locals := 24 }).room s m ([.ref (zad g 0)] : List Value).toArray below meth c H locs 0 0 (MQ below (zQv (zYM g) S') ([.ref (zad g 0)] : List Value).toArray s 0 0 (zYM g).2.2.1) (F0 m 2 ls []) := by
    intro n
    induction n with
    | zero => intro x1 S h; exact absurd h (fun h => nomatch h)
    | succ n K2 =>
      intro x1 S h H locs Z ls hl
      have h : fX10_resolve_2 (fX10_resolve_2L n) x1 S = some (r, S') := h
      unfold fX10_resolve_2 at h
      refine lv_iload_n hx hb dX10_resolve_2 rfl (lv_at hl 1 rfl) ?_
      refine lv_aload_n hx hb dX10_resolve_3 rfl (lv_at hl 0 rfl) ?_
      refine zgX10_11 (v := (zI S 8)) hx hb hf hown P0 Z L246 rfl dX10_resolve_4 ?_
      refine lv_icmp_ge (tgt := 143) hx hb dX10_resolve_7 (by decide) (fun q => ?_) (fun q => ?_)
      · have h := zi_t q h
        refine lv_iconst (v := (nI 0)) hx hb dX10_resolve_143 (by decide) ?_
        refine lv_istore_n (lv' := [(1, .int (nI 0)), (0, .ref (zad g 0))]) hx hb dX10_resolve_144 rfl hl (by decide) rfl (fun ls hl => ?_)
        exact B145 zFU (nI 0) S h _ _ Z ls (lv_sub hl [1, 0] rfl)
      · have h := zi_f q h
        refine lv_aload_n hx hb dX10_resolve_10 rfl (lv_at hl 0 rfl) ?_
        refine zgX10_17 hx hb hf hown P0 Z L62 dX10_resolve_11 ?_
        refine lv_iload_n hx hb dX10_resolve_14 rfl (lv_at hl 1 rfl) ?_
        refine lv_iconst (v := (nI 0)) hx hb dX10_resolve_15 (by decide) ?_
        obtain ⟨hin, h⟩ := zck_s h
        refine zsM_8 hO hx hb P0 Z hin dX10_resolve_16 (fun H locs Z => ?_)
        refine lv_aload_n hx hb dX10_resolve_17 rfl (lv_at hl 0 rfl) ?_
        refine zgX10_15 hx hb hf hown P0 Z L56 dX10_resolve_18 ?_
        refine lv_iload_n hx hb dX10_resolve_21 rfl (lv_at hl 1 rfl) ?_
        obtain ⟨v1, ev, hin, h⟩ := zld_s h
        refine zlM_6 hx hb P0 Z ev hin dX10_resolve_22 ?_
        refine lv_istore_n (lv' := [(2, .int v1), (0, .ref (zad g 0)), (1, .int x1)]) hx hb dX10_resolve_23 rfl hl (by decide) rfl (fun ls hl => ?_)
        exact B24 (fX10_resolve_2L n) K2 zFU x1 v1 (wA S 8 (x1.toNatClampNeg) (nI 0)) h _ _ Z ls (lv_sub hl [1, 2, 0] rfl)
  have hl := lv_entry ([.ref (zad g 0)] : List Value) (n := 3) (Nat.le_of_ble_eq_true rfl)
  rw [lg_entry_eq]
  generalize (lg_sl ([.ref (zad g 0)] : List Value) ++ List.replicate (3 - (lg_sl ([.ref (zad g 0)] : List Value)).length) Slot.unset).toArray = ls at hl ⊢
  have hl : lv_has ls 3 [(0, .ref (zad g 0))] := hl
  unfold fX10_resolve at h
  refine lv_iconst (v := (nI 0)) hx hb dX10_resolve_0 (by decide) ?_
  refine lv_istore_n (lv' := [(1, .int (nI 0)), (0, .ref (zad g 0))]) hx hb dX10_resolve_1 rfl hl (by decide) rfl (fun ls hl => ?_)
  exact B2 zFU (nI 0) S h _ _ Z ls (lv_sub hl [1, 0] rfl)

set_option maxHeartbeats 4000000 in
set_option maxRecDepth 100000 in
theorem kX10_node {g : zG} (l : Launch) (hO : zinjM g) (a1 : Int32) (a2 : Int32) (a3 : Int32) (a4 : Int32) (S : zSt) (r : Int32) (S' : zSt) (h : fX10_node a1 a2 a3 a4 S = some (r, S')) : zMi (zYM g) l yX10_node vX10_node { frames := 0, cells := 0, slots := 0, locals := 0 } ([.ref (zad g 0), .int a1, .int a2, .int a3, .int a4] : List Value) S r S' := by
  have hY := zOkM hO
  refine Met.ofW (cc := cX10_node) (maxL := 6) (ret := (some .int)) (by decide) rfl ?_
  intro p e s m args below meth c s₁ B hml hv
  obtain ⟨rfl, hP⟩ := hv
  have hx := B.exec
  have hb := B.bytes
  have hr := B.returns
  have hts := atoms_spec (ws := vX10_node) B.pre
  have hT : ∀ w ∈ zTB, w.before ([.ref (zad g 0), .int a1, .int a2, .int a3, .int a4] : List Value).toArray s = true := fun w h => hts w (List.mem_cons_of_mem _ h)
  have hown : s.vm.findClass RX10 = some m.cls := findClass_of_methodNamed B.named
  have hlocks := B.notSynchronized
  have P0 := hP.2
  have Z : zZ (zYM g) S s s.heap [] := ⟨hP.1, va_S.rf⟩
  have hf : ∀ w ∈ u_ws RX10 TX10 67, w.before ([.ref (zad g 0), .int a1, .int a2, .int a3, .int a4] : List Value).toArray s = true := fun w hw => hT w (mU_X10 w hw)
  have L110 := hT _ mF_X10_110
  have L113 := hT _ mF_X10_113
  have L116 := hT _ mF_X10_116
  have L119 := hT _ mF_X10_119
  have L256 := hT _ mF_X10_256
  have L259 := hT _ mF_X10_259
  have L262 := hT _ mF_X10_262
  have L125 := hT _ mF_X10_125
  have B87 : ∀ (x4 : Int32) (x5 : Int32) (y0 : Int32) (S : zSt), fX10_node_87 x4 x5 y0 S = some (r, S') → ∀ (H : Heap) (locs : List Loc), zZ (zYM g) S s H locs → ∀ ls : Array Slot, lv_has ls 6 [(0, .ref (zad g 0)), (4, .int x4), (5, .int x5)] → W p l e (headSpec vX10_node { frames := 0, cells := 0, slots := 0, locals := 0 }).room s m ([.ref (zad g 0), .int a1, .int a2, .int a3, .int a4] : List Value).toArray below meth c H locs 0 0 (MQ below (zQi (zYM g) r S') ([.ref (zad g 0), .int a1, .int a2, .int a3, .int a4] : List Value).toArray s 0 0 (zYM g).2.2.1) (F0 m 87 ls [.int y0, .ref (zad g 0)]) := by
    intro x4 x5 y0 S h H locs Z ls hl
    unfold fX10_node_87 at h
    refine zpX10_44 hO hx hb hf hown P0 Z L259 dX10_node_87 (fun H locs Z => ?_)
    refine lv_aload_n hx hb dX10_node_90 rfl (lv_at hl 0 rfl) ?_
    refine lv_dup hx hb dX10_node_91 rfl ?_
    refine zgX10_45 (v := (zI S 17)) hx hb hf hown P0 Z L262 rfl dX10_node_92 ?_
    refine lv_iconst (v := (nI 1)) hx hb dX10_node_95 (by decide) ?_
    refine lv_iadd hx hb dX10_node_96 ?_
    refine zpX10_45 hO hx hb hf hown P0 Z L262 dX10_node_97 (fun H locs Z => ?_)
    refine lv_iload hx hb dX10_node_100 (lv_at hl 1 rfl) ?_
    refine lv_if_lt (tgt := 116) hx hb dX10_node_102 (by decide) (fun q => ?_) (fun q => ?_)
    · have h := zi_t q h
      refine lv_iload hx hb dX10_node_116 (lv_at hl 2 rfl) ?_
      exact zr_i hY P0 hx hb hr hlocks h Z dX10_node_118
    · have h := zi_f q h
      refine lv_aload_n hx hb dX10_node_105 rfl (lv_at hl 0 rfl) ?_
      refine zgX10_47 hx hb hf hown P0 Z L125 dX10_node_106 ?_
      refine lv_iload hx hb dX10_node_109 (lv_at hl 1 rfl) ?_
      refine lv_dup2_11 hx hb dX10_node_111 rfl rfl ?_
      obtain ⟨v2, ev, hin, h⟩ := zld_s h
      refine zlM_29 hx hb P0 Z ev hin dX10_node_112 ?_
      refine lv_iconst (v := (nI 1)) hx hb dX10_node_113 (by decide) ?_
      refine lv_iadd hx hb dX10_node_114 ?_
      obtain ⟨hin, h⟩ := zck_s h
      refine zsM_29 hO hx hb P0 Z hin dX10_node_115 (fun H locs Z => ?_)
      refine lv_iload hx hb dX10_node_116 (lv_at hl 2 rfl) ?_
      exact zr_i hY P0 hx hb hr hlocks h Z dX10_node_118
  have B3 : ∀ (n : Nat) (x1 : Int32) (x2 : Int32) (x3 : Int32) (x4 : Int32) (x5 : Int32) (S : zSt), fX10_node_3L n (x1, x2, x3, x4, x5, S) = some (r, S') → ∀ (H : Heap) (locs : List Loc), zZ (zYM g) S s H locs → ∀ ls : Array Slot, lv_has ls 6 [(0, .ref (zad g 0)), (1, .int x1), (2, .int x2), (3, .int x3), (4, .int x4), (5, .int x5)] → W p l e (headSpec vX10_node { frames := 0, cells := 0, slots := 0, locals := 0 }).room s m ([.ref (zad g 0), .int a1, .int a2, .int a3, .int a4] : List Value).toArray below meth c H locs 0 0 (MQ below (zQi (zYM g) r S') ([.ref (zad g 0), .int a1, .int a2, .int a3, .int a4] : List Value).toArray s 0 0 (zYM g).2.2.1) (F0 m 3 ls []) := by
    intro n
    induction n with
    | zero => intro x1 x2 x3 x4 x5 S h; exact absurd h (fun h => nomatch h)
    | succ n K3 =>
      intro x1 x2 x3 x4 x5 S h H locs Z ls hl
      have h : fX10_node_3 (fX10_node_3L n) x1 x2 x3 x4 x5 S = some (r, S') := h
      unfold fX10_node_3 at h
      refine lv_aload_n hx hb dX10_node_3 rfl (lv_at hl 0 rfl) ?_
      refine zgX10_39 hx hb hf hown P0 Z L110 dX10_node_4 ?_
      refine lv_iload hx hb dX10_node_7 (lv_at hl 5 rfl) ?_
      obtain ⟨v1, ev, hin, h⟩ := zld_s h
      refine zlM_24 hx hb P0 Z ev hin dX10_node_9 ?_
      refine lv_bipush (v := (nI 7)) hx hb dX10_node_10 (by decide) ?_
      refine lv_icmp_eq (tgt := 21) hx hb dX10_node_12 (by decide) (fun q => ?_) (fun q => ?_)
      · have h := zi_t q h
        refine lv_aload_n hx hb dX10_node_21 rfl (lv_at hl 0 rfl) ?_
        refine zgX10_39 hx hb hf hown P0 Z L110 dX10_node_22 ?_
        refine lv_iload hx hb dX10_node_25 (lv_at hl 5 rfl) ?_
        refine lv_iload_n hx hb dX10_node_27 rfl (lv_at hl 1 rfl) ?_
        obtain ⟨hin, h⟩ := zck_s h
        refine zsM_24 hO hx hb P0 Z hin dX10_node_28 (fun H locs Z => ?_)
        refine lv_aload_n hx hb dX10_node_29 rfl (lv_at hl 0 rfl) ?_
        refine zgX10_40 hx hb hf hown P0 Z L113 dX10_node_30 ?_
        refine lv_iload hx hb dX10_node_33 (lv_at hl 5 rfl) ?_
        refine lv_iload_n hx hb dX10_node_35 rfl (lv_at hl 2 rfl) ?_
        obtain ⟨hin, h⟩ := zck_s h
        refine zsM_25 hO hx hb P0 Z hin dX10_node_36 (fun H locs Z => ?_)
        refine lv_aload_n hx hb dX10_node_37 rfl (lv_at hl 0 rfl) ?_
        refine zgX10_41 hx hb hf hown P0 Z L116 dX10_node_38 ?_
        refine lv_iload hx hb dX10_node_41 (lv_at hl 5 rfl) ?_
        refine lv_iload_n hx hb dX10_node_43 rfl (lv_at hl 3 rfl) ?_
        obtain ⟨hin, h⟩ := zck_s h
        refine zsM_26 hO hx hb P0 Z hin dX10_node_44 (fun H locs Z => ?_)
        refine lv_aload_n hx hb dX10_node_45 rfl (lv_at hl 0 rfl) ?_
        refine zgX10_42 hx hb hf hown P0 Z L119 dX10_node_46 ?_
        refine lv_iload hx hb dX10_node_49 (lv_at hl 5 rfl) ?_
        refine lv_iload hx hb dX10_node_51 (lv_at hl 4 rfl) ?_
        obtain ⟨hin, h⟩ := zck_s h
        refine zsM_27 hO hx hb P0 Z hin dX10_node_53 (fun H locs Z => ?_)
        refine lv_aload_n hx hb dX10_node_54 rfl (lv_at hl 0 rfl) ?_
        refine lv_dup hx hb dX10_node_55 rfl ?_
        refine zgX10_43 (v := (zI S 15)) hx hb hf hown P0 Z L256 rfl dX10_node_56 ?_
        refine lv_iconst (v := (nI 1)) hx hb dX10_node_59 (by decide) ?_
        refine lv_iadd hx hb dX10_node_60 ?_
        refine zpX10_43 hO hx hb hf hown P0 Z L256 dX10_node_61 (fun H locs Z => ?_)
        refine lv_aload_n hx hb dX10_node_64 rfl (lv_at hl 0 rfl) ?_
        refine lv_aload_n hx hb dX10_node_65 rfl (lv_at hl 0 rfl) ?_
        refine zgX10_43 (v := ((zI S 15) + (nI 1))) hx hb hf hown P0 Z L256 rfl dX10_node_66 ?_
        refine lv_aload_n hx hb dX10_node_69 rfl (lv_at hl 0 rfl) ?_
        refine zgX10_44 (v := (zI S 16)) hx hb hf hown P0 Z L259 rfl dX10_node_70 ?_
        refine lv_icmp_le (tgt := 83) hx hb dX10_node_73 (by decide) (fun q => ?_) (fun q => ?_)
        · have h := zi_t q h
          refine lv_aload_n hx hb dX10_node_83 rfl (lv_at hl 0 rfl) ?_
          refine zgX10_44 (v := (zI S 16)) hx hb hf hown P0 Z L259 rfl dX10_node_84 ?_
          exact B87 x4 x5 (zI S 16) (wI (wA (wA (wA (wA S 24 (x5.toNatClampNeg) x1) 25 (x5.toNatClampNeg) x2) 26 (x5.toNatClampNeg) x3) 27 (x5.toNatClampNeg) x4) 15 ((zI S 15) + (nI 1))) h _ _ Z ls (lv_sub hl [0, 4, 5] rfl)
        · have h := zi_f q h
          refine lv_aload_n hx hb dX10_node_76 rfl (lv_at hl 0 rfl) ?_
          refine zgX10_43 (v := ((zI S 15) + (nI 1))) hx hb hf hown P0 Z L256 rfl dX10_node_77 ?_
          refine lv_goto (tgt := 87) hx hb dX10_node_80 (by decide) ?_
          exact B87 x4 x5 ((zI S 15) + (nI 1)) (wI (wA (wA (wA (wA S 24 (x5.toNatClampNeg) x1) 25 (x5.toNatClampNeg) x2) 26 (x5.toNatClampNeg) x3) 27 (x5.toNatClampNeg) x4) 15 ((zI S 15) + (nI 1))) h _ _ Z ls (lv_sub hl [0, 4, 5] rfl)
      · have h := zi_f q h
        refine lv_iinc (v := (x5 + (nI 1))) (lv' := [(5, .int (x5 + (nI 1))), (0, .ref (zad g 0)), (1, .int x1), (2, .int x2), (3, .int x3), (4, .int x4)]) hx hb dX10_node_15 hl (k := 5) rfl rfl (by decide) rfl (fun ls hl => ?_)
        refine lv_goto (tgt := 3) hx hb dX10_node_18 (by decide) ?_
        exact K3 x1 x2 x3 x4 (x5 + (nI 1)) S h _ _ Z ls (lv_sub hl [1, 2, 3, 4, 5, 0] rfl)
  have hl := lv_entry ([.ref (zad g 0), .int a1, .int a2, .int a3, .int a4] : List Value) (n := 6) (Nat.le_of_ble_eq_true rfl)
  rw [lg_entry_eq]
  generalize (lg_sl ([.ref (zad g 0), .int a1, .int a2, .int a3, .int a4] : List Value) ++ List.replicate (6 - (lg_sl ([.ref (zad g 0), .int a1, .int a2, .int a3, .int a4] : List Value)).length) Slot.unset).toArray = ls at hl ⊢
  have hl : lv_has ls 6 [(0, .ref (zad g 0)), (1, .int a1), (2, .int a2), (3, .int a3), (4, .int a4)] := hl
  unfold fX10_node at h
  refine lv_iconst (v := (nI 0)) hx hb dX10_node_0 (by decide) ?_
  refine lv_istore (lv' := [(5, .int (nI 0)), (0, .ref (zad g 0)), (1, .int a1), (2, .int a2), (3, .int a3), (4, .int a4)]) hx hb dX10_node_1 hl (by decide) rfl (fun ls hl => ?_)
  exact B3 zFU a1 a2 a3 a4 (nI 0) S h _ _ Z ls (lv_sub hl [1, 2, 3, 4, 5, 0] rfl)

set_option maxHeartbeats 4000000 in
set_option maxRecDepth 100000 in
theorem kX10_begin {g : zG} (l : Launch) (hO : zinjM g) (S : zSt) (r : Unit) (S' : zSt) (h : fX10_begin S = some (r, S')) : zMv (zYM g) l yX10_begin vX10_begin { frames := 1, cells := 0, slots := 0, locals := 25 } ([.ref (zad g 0)] : List Value) S S' := by
  have hY := zOkM hO
  refine Met.ofW (cc := cX10_begin) (maxL := 4) (ret := none) (by decide) rfl ?_
  intro p e s m args below meth c s₁ B hml hv
  obtain ⟨rfl, hP⟩ := hv
  have hx := B.exec
  have hb := B.bytes
  have hr := B.returns
  have hts := atoms_spec (ws := vX10_begin) B.pre
  have hT : ∀ w ∈ zTB, w.before ([.ref (zad g 0)] : List Value).toArray s = true := fun w h => hts w (List.mem_cons_of_mem _ h)
  have hown : s.vm.findClass RX10 = some m.cls := findClass_of_methodNamed B.named
  have hlocks := B.notSynchronized
  have P0 := hP.2
  have Z : zZ (zYM g) S s s.heap [] := ⟨hP.1, va_S.rf⟩
  have hf : ∀ w ∈ u_ws RX10 TX10 67, w.before ([.ref (zad g 0)] : List Value).toArray s = true := fun w hw => hT w (mU_X10 w hw)
  have L256 := hT _ mF_X10_256
  have L259 := hT _ mF_X10_259
  have L262 := hT _ mF_X10_262
  have L110 := hT _ mF_X10_110
  have L122 := hT _ mF_X10_122
  have L125 := hT _ mF_X10_125
  have L246 := hT _ mF_X10_246
  have L271 := hT _ mF_X10_271
  have L128 := hT _ mF_X10_128
  have L274 := hT _ mF_X10_274
  have L131 := hT _ mF_X10_131
  have L277 := hT _ mF_X10_277
  have L280 := hT _ mF_X10_280
  have L283 := hT _ mF_X10_283
  have L47 := hT _ mF_X10_47
  have C269 := hT _ mK_X10_269
  have B70 : ∀ (n : Nat) (x1 : Int32) (x2 : Int32) (S : zSt), fX10_begin_70L n (x1, x2, S) = some (r, S') → ∀ (H : Heap) (locs : List Loc), zZ (zYM g) S s H locs → ∀ ls : Array Slot, lv_has ls 4 [(0, .ref (zad g 0)), (1, .int x1), (2, .int x2)] → W p l e (headSpec vX10_begin { frames := 1, cells := 0, slots := 0, locals := 25 }).room s m ([.ref (zad g 0)] : List Value).toArray below meth c H locs 0 0 (MQ below (zQv (zYM g) S') ([.ref (zad g 0)] : List Value).toArray s 0 0 (zYM g).2.2.1) (F0 m 70 ls []) := by
    intro n
    induction n with
    | zero => intro x1 x2 S h; exact absurd h (fun h => nomatch h)
    | succ n K70 =>
      intro x1 x2 S h H locs Z ls hl
      have h : fX10_begin_70 (fX10_begin_70L n) x1 x2 S = some (r, S') := h
      unfold fX10_begin_70 at h
      refine lv_iload_n hx hb dX10_begin_70 rfl (lv_at hl 2 rfl) ?_
      refine lv_aload_n hx hb dX10_begin_71 rfl (lv_at hl 0 rfl) ?_
      refine zgX10_11 (v := (zI S 8)) hx hb hf hown P0 Z L246 rfl dX10_begin_72 ?_
      refine lv_icmp_ge (tgt := 114) hx hb dX10_begin_75 (by decide) (fun q => ?_) (fun q => ?_)
      · have h := zi_t q h
        refine lv_aload_n hx hb dX10_begin_114 rfl (lv_at hl 0 rfl) ?_
        refine lv_iconst (v := (nI 1)) hx hb dX10_begin_115 (by decide) ?_
        refine zpX10_48 hO hx hb hf hown P0 Z L271 dX10_begin_116 (fun H locs Z => ?_)
        refine lv_aload_n hx hb dX10_begin_119 rfl (lv_at hl 0 rfl) ?_
        refine zgX10_49 hx hb hf hown P0 Z L128 dX10_begin_120 ?_
        refine lv_iconst (v := (nI 0)) hx hb dX10_begin_123 (by decide) ?_
        refine lv_iload_n hx hb dX10_begin_124 rfl (lv_at hl 1 rfl) ?_
        obtain ⟨hin, h⟩ := zck_s h
        refine zsM_30 hO hx hb P0 Z hin dX10_begin_125 (fun H locs Z => ?_)
        refine lv_aload_n hx hb dX10_begin_126 rfl (lv_at hl 0 rfl) ?_
        refine lv_iconst (v := (nI 1)) hx hb dX10_begin_127 (by decide) ?_
        refine zpX10_50 hO hx hb hf hown P0 Z L274 dX10_begin_128 (fun H locs Z => ?_)
        refine lv_aload_n hx hb dX10_begin_131 rfl (lv_at hl 0 rfl) ?_
        refine zgX10_51 hx hb hf hown P0 Z L131 dX10_begin_132 ?_
        refine lv_iconst (v := (nI 0)) hx hb dX10_begin_135 (by decide) ?_
        refine lv_iconst (v := (nI 0)) hx hb dX10_begin_136 (by decide) ?_
        obtain ⟨hin, h⟩ := zck_s h
        refine zsM_31 hO hx hb P0 Z hin dX10_begin_137 (fun H locs Z => ?_)
        refine lv_aload_n hx hb dX10_begin_138 rfl (lv_at hl 0 rfl) ?_
        refine lv_iconst (v := (nI 0)) hx hb dX10_begin_139 (by decide) ?_
        refine zpX10_52 hO hx hb hf hown P0 Z L277 dX10_begin_140 (fun H locs Z => ?_)
        refine lv_aload_n hx hb dX10_begin_143 rfl (lv_at hl 0 rfl) ?_
        refine lv_iconst (v := (nI 0)) hx hb dX10_begin_144 (by decide) ?_
        refine zpX10_53 hO hx hb hf hown P0 Z L280 dX10_begin_145 (fun H locs Z => ?_)
        refine lv_aload_n hx hb dX10_begin_148 rfl (lv_at hl 0 rfl) ?_
        refine lv_iconst (v := (nI 0)) hx hb dX10_begin_149 (by decide) ?_
        refine zpX10_54 hO hx hb hf hown P0 Z L283 dX10_begin_150 (fun H locs Z => ?_)
        exact zr_v hY P0 hx hb hr hlocks h Z dX10_begin_153
      · have h := zi_f q h
        refine lv_aload_n hx hb dX10_begin_78 rfl (lv_at hl 0 rfl) ?_
        refine lv_iconst (v := (nI 2)) hx hb dX10_begin_79 (by decide) ?_
        refine lv_iload_n hx hb dX10_begin_80 rfl (lv_at hl 2 rfl) ?_
        refine lv_bipush (v := (-3 : Int32)) hx hb dX10_begin_81 (by decide) ?_
        refine lv_bipush (v := (-3 : Int32)) hx hb dX10_begin_83 (by decide) ?_
        obtain ⟨r1, S2, ec, h⟩ := zbd_s h
        refine zc_Vi hY P0 ⟨hx, hb, hml, hown, hT⟩ (As := [.int (nI 2), .int x2, .int (-3 : Int32), .int (-3 : Int32)]) (rest := []) (kX10_node l hO (nI 2) x2 (-3 : Int32) (-3 : Int32) S r1 S2 ec) (cwV 4 hT (zgV mL_X10_265 mI_X10_node mS_X10_node mN_X10 mC_X10_node) rfl rfl rfl hdnX10_node ⟨Nat.le_of_ble_eq_true rfl, Nat.le_of_ble_eq_true rfl⟩) (zrecM_0 P0 Z) Z rfl hl.1 rfl (Nat.le_of_ble_eq_true rfl) dX10_begin_85 (fun H locs Z => ?_)
        refine lv_istore_n (lv' := [(3, .int r1), (0, .ref (zad g 0)), (1, .int x1), (2, .int x2)]) hx hb dX10_begin_88 rfl hl (by decide) rfl (fun ls hl => ?_)
        refine lv_aload_n hx hb dX10_begin_89 rfl (lv_at hl 1 rfl) ?_
        refine zgX10_12 hx hb hf hown P0 Z L47 dX10_begin_90 ?_
        refine lv_iload_n hx hb dX10_begin_93 rfl (lv_at hl 3 rfl) ?_
        obtain ⟨v3, ev, hin, h⟩ := zld_s h
        refine zlM_3 hx hb P0 Z ev hin dX10_begin_94 ?_
        refine lv_ldc2 (v := (1835100526 : Int64)) hx hb hown C269 dX10_begin_95 ?_
        refine W.lcmp hx hb dX10_begin_98 ?_
        refine lv_if_ne (tgt := 106) hx hb dX10_begin_99 (by decide) (fun q => ?_) (fun q => ?_)
        · have h := zi_f q h
          refine lv_iload_n hx hb dX10_begin_106 rfl (lv_at hl 2 rfl) ?_
          refine lv_istore_n (lv' := [(1, .int x1), (3, .int r1), (0, .ref (zad g 0)), (2, .int x2)]) hx hb dX10_begin_107 rfl hl (by decide) rfl (fun ls hl => ?_)
          refine lv_iinc (v := (x2 + (nI 1))) (lv' := [(2, .int (x2 + (nI 1))), (1, .int x1), (3, .int r1), (0, .ref (zad g 0))]) hx hb dX10_begin_108 hl (k := 3) rfl rfl (by decide) rfl (fun ls hl => ?_)
          refine lv_goto (tgt := 70) hx hb dX10_begin_111 (by decide) ?_
          exact K70 x1 (x2 + (nI 1)) S2 h _ _ Z ls (lv_sub hl [3, 1, 0] rfl)
        · have h := zi_t q h
          refine lv_iload_n hx hb dX10_begin_102 rfl (lv_at hl 0 rfl) ?_
          refine lv_goto (tgt := 107) hx hb dX10_begin_103 (by decide) ?_
          refine lv_istore_n (lv' := [(1, .int r1), (3, .int r1), (0, .ref (zad g 0)), (2, .int x2)]) hx hb dX10_begin_107 rfl hl (by decide) rfl (fun ls hl => ?_)
          refine lv_iinc (v := (x2 + (nI 1))) (lv' := [(2, .int (x2 + (nI 1))), (1, .int r1), (3, .int r1), (0, .ref (zad g 0))]) hx hb dX10_begin_108 hl (k := 3) rfl rfl (by decide) rfl (fun ls hl => ?_)
          refine lv_goto (tgt := 70) hx hb dX10_begin_111 (by decide) ?_
          exact K70 r1 (x2 + (nI 1)) S2 h _ _ Z ls (lv_sub hl [3, 1, 0] rfl)
  have B40 : ∀ (n : Nat) (x1 : Int32) (S : zSt), fX10_begin_40L n (x1, S) = some (r, S') → ∀ (H : Heap) (locs : List Loc), zZ (zYM g) S s H locs → ∀ ls : Array Slot, lv_has ls 4 [(0, .ref (zad g 0)), (1, .int x1)] → W p l e (headSpec vX10_begin { frames := 1, cells := 0, slots := 0, locals := 25 }).room s m ([.ref (zad g 0)] : List Value).toArray below meth c H locs 0 0 (MQ below (zQv (zYM g) S') ([.ref (zad g 0)] : List Value).toArray s 0 0 (zYM g).2.2.1) (F0 m 40 ls []) := by
    intro n
    induction n with
    | zero => intro x1 S h; exact absurd h (fun h => nomatch h)
    | succ n K40 =>
      intro x1 S h H locs Z ls hl
      have h : fX10_begin_40 (fX10_begin_40L n) x1 S = some (r, S') := h
      unfold fX10_begin_40 at h
      refine lv_iload_n hx hb dX10_begin_40 rfl (lv_at hl 1 rfl) ?_
      refine lv_bipush (v := (nI 20)) hx hb dX10_begin_41 (by decide) ?_
      refine lv_icmp_ge (tgt := 66) hx hb dX10_begin_43 (by decide) (fun q => ?_) (fun q => ?_)
      · have h := zi_t q h
        refine lv_iconst (v := (nI 0)) hx hb dX10_begin_66 (by decide) ?_
        refine lv_istore_n (lv' := [(1, .int (nI 0)), (0, .ref (zad g 0))]) hx hb dX10_begin_67 rfl hl (by decide) rfl (fun ls hl => ?_)
        refine lv_iconst (v := (nI 0)) hx hb dX10_begin_68 (by decide) ?_
        refine lv_istore_n (lv' := [(2, .int (nI 0)), (1, .int (nI 0)), (0, .ref (zad g 0))]) hx hb dX10_begin_69 rfl hl (by decide) rfl (fun ls hl => ?_)
        exact B70 zFU (nI 0) (nI 0) S h _ _ Z ls (lv_sub hl [2, 1, 0] rfl)
      · have h := zi_f q h
        refine lv_aload_n hx hb dX10_begin_46 rfl (lv_at hl 0 rfl) ?_
        refine zgX10_46 hx hb hf hown P0 Z L122 dX10_begin_47 ?_
        refine lv_iload_n hx hb dX10_begin_50 rfl (lv_at hl 1 rfl) ?_
        refine lv_iconst (v := (nI 0)) hx hb dX10_begin_51 (by decide) ?_
        obtain ⟨hin, h⟩ := zck_s h
        refine zsM_28 hO hx hb P0 Z hin dX10_begin_52 (fun H locs Z => ?_)
        refine lv_aload_n hx hb dX10_begin_53 rfl (lv_at hl 0 rfl) ?_
        refine zgX10_47 hx hb hf hown P0 Z L125 dX10_begin_54 ?_
        refine lv_iload_n hx hb dX10_begin_57 rfl (lv_at hl 1 rfl) ?_
        refine lv_iconst (v := (nI 0)) hx hb dX10_begin_58 (by decide) ?_
        obtain ⟨hin, h⟩ := zck_s h
        refine zsM_29 hO hx hb P0 Z hin dX10_begin_59 (fun H locs Z => ?_)
        refine lv_iinc (v := (x1 + (nI 1))) (lv' := [(1, .int (x1 + (nI 1))), (0, .ref (zad g 0))]) hx hb dX10_begin_60 hl (k := 1) rfl rfl (by decide) rfl (fun ls hl => ?_)
        refine lv_goto (tgt := 40) hx hb dX10_begin_63 (by decide) ?_
        exact K40 (x1 + (nI 1)) (wA (wA S 28 (x1.toNatClampNeg) (nI 0)) 29 (x1.toNatClampNeg) (nI 0)) h _ _ Z ls (lv_sub hl [1, 0] rfl)
  have B2 : ∀ (n : Nat) (x1 : Int32) (S : zSt), fX10_begin_2L n (x1, S) = some (r, S') → ∀ (H : Heap) (locs : List Loc), zZ (zYM g) S s H locs → ∀ ls : Array Slot, lv_has ls 4 [(0, .ref (zad g 0)), (1, .int x1)] → W p l e (headSpec vX10_begin { frames := 1, cells := 0, slots := 0, locals := 25 }).room s m ([.ref (zad g 0)] : List Value).toArray below meth c H locs 0 0 (MQ below (zQv (zYM g) S') ([.ref (zad g 0)] : List Value).toArray s 0 0 (zYM g).2.2.1) (F0 m 2 ls []) := by
    intro n
    induction n with
    | zero => intro x1 S h; exact absurd h (fun h => nomatch h)
    | succ n K2 =>
      intro x1 S h H locs Z ls hl
      have h : fX10_begin_2 (fX10_begin_2L n) x1 S = some (r, S') := h
      unfold fX10_begin_2 at h
      refine lv_iload_n hx hb dX10_begin_2 rfl (lv_at hl 1 rfl) ?_
      refine lv_sipush (v := (nI 400)) hx hb dX10_begin_3 (by decide) ?_
      refine lv_icmp_ge (tgt := 23) hx hb dX10_begin_6 (by decide) (fun q => ?_) (fun q => ?_)
      · have h := zi_t q h
        refine lv_aload_n hx hb dX10_begin_23 rfl (lv_at hl 0 rfl) ?_
        refine lv_iconst (v := (nI 0)) hx hb dX10_begin_24 (by decide) ?_
        refine zpX10_43 hO hx hb hf hown P0 Z L256 dX10_begin_25 (fun H locs Z => ?_)
        refine lv_aload_n hx hb dX10_begin_28 rfl (lv_at hl 0 rfl) ?_
        refine lv_iconst (v := (nI 0)) hx hb dX10_begin_29 (by decide) ?_
        refine zpX10_44 hO hx hb hf hown P0 Z L259 dX10_begin_30 (fun H locs Z => ?_)
        refine lv_aload_n hx hb dX10_begin_33 rfl (lv_at hl 0 rfl) ?_
        refine lv_iconst (v := (nI 0)) hx hb dX10_begin_34 (by decide) ?_
        refine zpX10_45 hO hx hb hf hown P0 Z L262 dX10_begin_35 (fun H locs Z => ?_)
        refine lv_iconst (v := (nI 0)) hx hb dX10_begin_38 (by decide) ?_
        refine lv_istore_n (lv' := [(1, .int (nI 0)), (0, .ref (zad g 0))]) hx hb dX10_begin_39 rfl hl (by decide) rfl (fun ls hl => ?_)
        exact B40 zFU (nI 0) (wI (wI (wI S 15 (nI 0)) 16 (nI 0)) 17 (nI 0)) h _ _ Z ls (lv_sub hl [1, 0] rfl)
      · have h := zi_f q h
        refine lv_aload_n hx hb dX10_begin_9 rfl (lv_at hl 0 rfl) ?_
        refine zgX10_39 hx hb hf hown P0 Z L110 dX10_begin_10 ?_
        refine lv_iload_n hx hb dX10_begin_13 rfl (lv_at hl 1 rfl) ?_
        refine lv_bipush (v := (nI 7)) hx hb dX10_begin_14 (by decide) ?_
        obtain ⟨hin, h⟩ := zck_s h
        refine zsM_24 hO hx hb P0 Z hin dX10_begin_16 (fun H locs Z => ?_)
        refine lv_iinc (v := (x1 + (nI 1))) (lv' := [(1, .int (x1 + (nI 1))), (0, .ref (zad g 0))]) hx hb dX10_begin_17 hl (k := 1) rfl rfl (by decide) rfl (fun ls hl => ?_)
        refine lv_goto (tgt := 2) hx hb dX10_begin_20 (by decide) ?_
        exact K2 (x1 + (nI 1)) (wA S 24 (x1.toNatClampNeg) (nI 7)) h _ _ Z ls (lv_sub hl [1, 0] rfl)
  have hl := lv_entry ([.ref (zad g 0)] : List Value) (n := 4) (Nat.le_of_ble_eq_true rfl)
  rw [lg_entry_eq]
  generalize (lg_sl ([.ref (zad g 0)] : List Value) ++ List.replicate (4 - (lg_sl ([.ref (zad g 0)] : List Value)).length) Slot.unset).toArray = ls at hl ⊢
  have hl : lv_has ls 4 [(0, .ref (zad g 0))] := hl
  unfold fX10_begin at h
  refine lv_iconst (v := (nI 0)) hx hb dX10_begin_0 (by decide) ?_
  refine lv_istore_n (lv' := [(1, .int (nI 0)), (0, .ref (zad g 0))]) hx hb dX10_begin_1 rfl hl (by decide) rfl (fun ls hl => ?_)
  exact B2 zFU (nI 0) S h _ _ Z ls (lv_sub hl [1, 0] rfl)

set_option maxHeartbeats 4000000 in
set_option maxRecDepth 100000 in
theorem kX10_read {g : zG} (l : Launch) (hO : zinjM g) (S : zSt) (r : Int32) (S' : zSt) (h : fX10_read S = some (r, S')) : zMi (zYM g) l yX10_read vX10_read { frames := 6, cells := 0, slots := 0, locals := 129 } ([.ref (zad g 0)] : List Value) S r S' := by
  have hY := zOkM hO
  refine Met.ofW (cc := cX10_read) (maxL := 3) (ret := (some .int)) (by decide) rfl ?_
  intro p e s m args below meth c s₁ B hml hv
  obtain ⟨rfl, hP⟩ := hv
  have hx := B.exec
  have hb := B.bytes
  have hr := B.returns
  have hts := atoms_spec (ws := vX10_read) B.pre
  have hT : ∀ w ∈ zTB, w.before ([.ref (zad g 0)] : List Value).toArray s = true := fun w h => hts w (List.mem_cons_of_mem _ h)
  have hown : s.vm.findClass RX10 = some m.cls := findClass_of_methodNamed B.named
  have hlocks := B.notSynchronized
  have P0 := hP.2
  have Z : zZ (zYM g) S s s.heap [] := ⟨hP.1, va_S.rf⟩
  have hf : ∀ w ∈ u_ws RX10 TX10 67, w.before ([.ref (zad g 0)] : List Value).toArray s = true := fun w hw => hT w (mU_X10 w hw)
  have L153 := hT _ mF_X10_153
  have L246 := hT _ mF_X10_246
  have L208 := hT _ mF_X10_208
  have L240 := hT _ mF_X10_240
  have L243 := hT _ mF_X10_243
  have L230 := hT _ mF_X10_230
  have L167 := hT _ mF_X10_167
  have L164 := hT _ mF_X10_164
  have L177 := hT _ mF_X10_177
  have L157 := hT _ mF_X10_157
  have L47 := hT _ mF_X10_47
  have C269 := hT _ mK_X10_269
  have L50 := hT _ mF_X10_50
  have L292 := hT _ mF_X10_292
  have L296 := hT _ mF_X10_296
  have L299 := hT _ mF_X10_299
  have L194 := hT _ mF_X10_194
  have B162 : ∀ (y0 : Int32) (S : zSt), fX10_read_162 y0 S = some (r, S') → ∀ (H : Heap) (locs : List Loc), zZ (zYM g) S s H locs → ∀ ls : Array Slot, lv_has ls 3 [(0, .ref (zad g 0))] → W p l e (headSpec vX10_read { frames := 6, cells := 0, slots := 0, locals := 129 }).room s m ([.ref (zad g 0)] : List Value).toArray below meth c H locs 0 0 (MQ below (zQi (zYM g) r S') ([.ref (zad g 0)] : List Value).toArray s 0 0 (zYM g).2.2.1) (F0 m 162 ls [.int y0, .ref (zad g 0)]) := by
    intro y0 S h H locs Z ls hl
    unfold fX10_read_162 at h
    obtain ⟨hn, h⟩ := zbo_s h
    refine zpX10_56 hO hx hb hf hown P0 Z L292 hn dX10_read_162 (fun H locs Z => ?_)
    refine lv_aload_n hx hb dX10_read_165 rfl (lv_at hl 0 rfl) ?_
    refine lv_iconst (v := (nI 0)) hx hb dX10_read_166 (by decide) ?_
    refine zpX10_57 hO hx hb hf hown P0 Z L296 dX10_read_167 (fun H locs Z => ?_)
    refine lv_aload_n hx hb dX10_read_170 rfl (lv_at hl 0 rfl) ?_
    refine lv_iconst (v := (-1 : Int32)) hx hb dX10_read_171 (by decide) ?_
    refine zpX10_55 hO hx hb hf hown P0 Z L299 dX10_read_172 (fun H locs Z => ?_)
    refine lv_aload_n hx hb dX10_read_175 rfl (lv_at hl 0 rfl) ?_
    refine zgX10_56 (v := y0) hx hb hf hown P0 Z L292 rfl dX10_read_176 ?_
    refine lv_if_ne (tgt := 190) hx hb dX10_read_179 (by decide) (fun q => ?_) (fun q => ?_)
    · have h := zi_f q h
      refine lv_aload_n hx hb dX10_read_190 rfl (lv_at hl 0 rfl) ?_
      obtain ⟨r13, S14, ec, h⟩ := zbd_s h
      refine zc_Vv hY P0 ⟨hx, hb, hml, hown, hT⟩ (As := []) (rest := []) (kX10_begin l hO  (wI (wI (wI S 24 y0) 25 (nI 0)) 23 (-1 : Int32)) r13 S14 ec) (cwV 0 hT (zgV mL_X10_302 mI_X10_begin mS_X10_begin mN_X10 mC_X10_begin) rfl rfl rfl hdnX10_begin ⟨Nat.le_of_ble_eq_true rfl, Nat.le_of_ble_eq_true rfl⟩) (zrecM_0 P0 Z) Z rfl hl.1 rfl (Nat.le_of_ble_eq_true rfl) dX10_read_191 (fun H locs Z => ?_)
      refine lv_aload_n hx hb dX10_read_194 rfl (lv_at hl 0 rfl) ?_
      refine zgX10_11 (v := (zI S14 8)) hx hb hf hown P0 Z L246 rfl dX10_read_195 ?_
      exact zr_i hY P0 hx hb hr hlocks h Z dX10_read_198
    · have h := zi_t q h
      refine lv_bipush (v := (-10 : Int32)) hx hb dX10_read_182 (by decide) ?_
      refine lv_aload_n hx hb dX10_read_184 rfl (lv_at hl 0 rfl) ?_
      refine zgX10_10 (v := (zI S 7)) hx hb hf hown P0 Z L194 rfl dX10_read_185 ?_
      refine lv_isub hx hb dX10_read_188 ?_
      exact zr_i hY P0 hx hb hr hlocks h Z dX10_read_189
  have B144 : ∀ (S : zSt), fX10_read_144 S = some (r, S') → ∀ (H : Heap) (locs : List Loc), zZ (zYM g) S s H locs → ∀ ls : Array Slot, lv_has ls 3 [(0, .ref (zad g 0))] → W p l e (headSpec vX10_read { frames := 6, cells := 0, slots := 0, locals := 129 }).room s m ([.ref (zad g 0)] : List Value).toArray below meth c H locs 0 0 (MQ below (zQi (zYM g) r S') ([.ref (zad g 0)] : List Value).toArray s 0 0 (zYM g).2.2.1) (F0 m 144 ls []) := by
    intro S h H locs Z ls hl
    unfold fX10_read_144 at h
    refine lv_aload_n hx hb dX10_read_144 rfl (lv_at hl 0 rfl) ?_
    refine lv_iconst (v := (nI 0)) hx hb dX10_read_145 (by decide) ?_
    refine zpX10_2 hO hx hb hf hown P0 Z L157 dX10_read_146 (fun H locs Z => ?_)
    refine lv_aload_n hx hb dX10_read_149 rfl (lv_at hl 0 rfl) ?_
    refine lv_aload_n hx hb dX10_read_150 rfl (lv_at hl 0 rfl) ?_
    refine zgX10_9 (v := (zI S 6)) hx hb hf hown P0 Z L164 rfl dX10_read_151 ?_
    refine lv_if_ne (tgt := 161) hx hb dX10_read_154 (by decide) (fun q => ?_) (fun q => ?_)
    · have h := zi_f q h
      refine lv_iconst (v := (nI 0)) hx hb dX10_read_161 (by decide) ?_
      exact B162 (nI 0) (wI S 1 (nI 0)) h _ _ Z ls (lv_sub hl [0] rfl)
    · have h := zi_t q h
      refine lv_iconst (v := (nI 1)) hx hb dX10_read_157 (by decide) ?_
      refine lv_goto (tgt := 162) hx hb dX10_read_158 (by decide) ?_
      exact B162 (nI 1) (wI S 1 (nI 0)) h _ _ Z ls (lv_sub hl [0] rfl)
  have B84 : ∀ (n : Nat) (x1 : Int32) (x2 : Int32) (S : zSt), fX10_read_84L n (x1, x2, S) = some (r, S') → ∀ (H : Heap) (locs : List Loc), zZ (zYM g) S s H locs → ∀ ls : Array Slot, lv_has ls 3 [(0, .ref (zad g 0)), (1, .int x1), (2, .int x2)] → W p l e (headSpec vX10_read { frames := 6, cells := 0, slots := 0, locals := 129 }).room s m ([.ref (zad g 0)] : List Value).toArray below meth c H locs 0 0 (MQ below (zQi (zYM g) r S') ([.ref (zad g 0)] : List Value).toArray s 0 0 (zYM g).2.2.1) (F0 m 84 ls []) := by
    intro n
    induction n with
    | zero => intro x1 x2 S h; exact absurd h (fun h => nomatch h)
    | succ n K84 =>
      intro x1 x2 S h H locs Z ls hl
      have h : fX10_read_84 (fX10_read_84L n) x1 x2 S = some (r, S') := h
      unfold fX10_read_84 at h
      refine lv_iload_n hx hb dX10_read_84 rfl (lv_at hl 2 rfl) ?_
      refine lv_aload_n hx hb dX10_read_85 rfl (lv_at hl 0 rfl) ?_
      refine zgX10_11 (v := (zI S 8)) hx hb hf hown P0 Z L246 rfl dX10_read_86 ?_
      refine lv_icmp_ge (tgt := 130) hx hb dX10_read_89 (by decide) (fun q => ?_) (fun q => ?_)
      · have h := zi_t q h
        refine lv_iload_n hx hb dX10_read_130 rfl (lv_at hl 1 rfl) ?_
        refine lv_if_ne (tgt := 144) hx hb dX10_read_131 (by decide) (fun q => ?_) (fun q => ?_)
        · have h := zi_f q h
          exact B144 S h _ _ Z ls (lv_sub hl [0] rfl)
        · have h := zi_t q h
          refine lv_aload_n hx hb dX10_read_134 rfl (lv_at hl 0 rfl) ?_
          refine lv_bipush (v := (nI 6)) hx hb dX10_read_135 (by decide) ?_
          refine lv_aload_n hx hb dX10_read_137 rfl (lv_at hl 0 rfl) ?_
          refine zgX10_2 (v := (zI S 1)) hx hb hf hown P0 Z L157 rfl dX10_read_138 ?_
          obtain ⟨r9, S10, ec, h⟩ := zbd_s h
          refine zc_Vv hY P0 ⟨hx, hb, hml, hown, hT⟩ (As := [.int (nI 6), .int (zI S 1)]) (rest := []) (kX10_fail l hO (nI 6) (zI S 1) S r9 S10 ec) (cwV 2 hT (zgV mL_X10_197 mI_X10_fail mS_X10_fail mN_X10 mC_X10_fail) rfl rfl rfl hdnX10_fail ⟨Nat.le_of_ble_eq_true rfl, Nat.le_of_ble_eq_true rfl⟩) (zrecM_0 P0 Z) Z rfl hl.1 rfl (Nat.le_of_ble_eq_true rfl) dX10_read_141 (fun H locs Z => ?_)
          exact B144 S10 h _ _ Z ls (lv_sub hl [0] rfl)
      · have h := zi_f q h
        refine lv_iload_n hx hb dX10_read_92 rfl (lv_at hl 1 rfl) ?_
        refine lv_if_ne (tgt := 118) hx hb dX10_read_93 (by decide) (fun q => ?_) (fun q => ?_)
        · have h := zi_f q h
          refine lv_iconst (v := (nI 1)) hx hb dX10_read_118 (by decide) ?_
          refine lv_goto (tgt := 123) hx hb dX10_read_119 (by decide) ?_
          refine lv_istore_n (lv' := [(1, .int (nI 1)), (0, .ref (zad g 0)), (2, .int x2)]) hx hb dX10_read_123 rfl hl (by decide) rfl (fun ls hl => ?_)
          refine lv_iinc (v := (x2 + (nI 1))) (lv' := [(2, .int (x2 + (nI 1))), (1, .int (nI 1)), (0, .ref (zad g 0))]) hx hb dX10_read_124 hl (k := 2) rfl rfl (by decide) rfl (fun ls hl => ?_)
          refine lv_goto (tgt := 84) hx hb dX10_read_127 (by decide) ?_
          exact K84 (nI 1) (x2 + (nI 1)) S h _ _ Z ls (lv_sub hl [2, 1, 0] rfl)
        · have h := zi_t q h
          refine lv_aload_n hx hb dX10_read_96 rfl (lv_at hl 0 rfl) ?_
          refine zgX10_12 hx hb hf hown P0 Z L47 dX10_read_97 ?_
          refine lv_iload_n hx hb dX10_read_100 rfl (lv_at hl 2 rfl) ?_
          obtain ⟨v11, ev, hin, h⟩ := zld_s h
          refine zlM_3 hx hb P0 Z ev hin dX10_read_101 ?_
          refine lv_ldc2 (v := (1835100526 : Int64)) hx hb hown C269 dX10_read_102 ?_
          refine W.lcmp hx hb dX10_read_105 ?_
          refine lv_if_ne (tgt := 122) hx hb dX10_read_106 (by decide) (fun q => ?_) (fun q => ?_)
          · have h := zi_f q h
            refine lv_iconst (v := (nI 0)) hx hb dX10_read_122 (by decide) ?_
            refine lv_istore_n (lv' := [(1, .int (nI 0)), (0, .ref (zad g 0)), (2, .int x2)]) hx hb dX10_read_123 rfl hl (by decide) rfl (fun ls hl => ?_)
            refine lv_iinc (v := (x2 + (nI 1))) (lv' := [(2, .int (x2 + (nI 1))), (1, .int (nI 0)), (0, .ref (zad g 0))]) hx hb dX10_read_124 hl (k := 2) rfl rfl (by decide) rfl (fun ls hl => ?_)
            refine lv_goto (tgt := 84) hx hb dX10_read_127 (by decide) ?_
            exact K84 (nI 0) (x2 + (nI 1)) S h _ _ Z ls (lv_sub hl [2, 1, 0] rfl)
          · have h := zi_t q h
            refine lv_aload_n hx hb dX10_read_109 rfl (lv_at hl 0 rfl) ?_
            refine zgX10_13 hx hb hf hown P0 Z L50 dX10_read_110 ?_
            refine lv_iload_n hx hb dX10_read_113 rfl (lv_at hl 2 rfl) ?_
            obtain ⟨v12, ev, hin, h⟩ := zld_s h
            refine zlM_4 hx hb P0 Z ev hin dX10_read_114 ?_
            refine lv_if_ne (tgt := 122) hx hb dX10_read_115 (by decide) (fun q => ?_) (fun q => ?_)
            · have h := zi_f q h
              refine lv_iconst (v := (nI 0)) hx hb dX10_read_122 (by decide) ?_
              refine lv_istore_n (lv' := [(1, .int (nI 0)), (0, .ref (zad g 0)), (2, .int x2)]) hx hb dX10_read_123 rfl hl (by decide) rfl (fun ls hl => ?_)
              refine lv_iinc (v := (x2 + (nI 1))) (lv' := [(2, .int (x2 + (nI 1))), (1, .int (nI 0)), (0, .ref (zad g 0))]) hx hb dX10_read_124 hl (k := 2) rfl rfl (by decide) rfl (fun ls hl => ?_)
              refine lv_goto (tgt := 84) hx hb dX10_read_127 (by decide) ?_
              exact K84 (nI 0) (x2 + (nI 1)) S h _ _ Z ls (lv_sub hl [2, 1, 0] rfl)
            · have h := zi_t q h
              refine lv_iconst (v := (nI 1)) hx hb dX10_read_118 (by decide) ?_
              refine lv_goto (tgt := 123) hx hb dX10_read_119 (by decide) ?_
              refine lv_istore_n (lv' := [(1, .int (nI 1)), (0, .ref (zad g 0)), (2, .int x2)]) hx hb dX10_read_123 rfl hl (by decide) rfl (fun ls hl => ?_)
              refine lv_iinc (v := (x2 + (nI 1))) (lv' := [(2, .int (x2 + (nI 1))), (1, .int (nI 1)), (0, .ref (zad g 0))]) hx hb dX10_read_124 hl (k := 2) rfl rfl (by decide) rfl (fun ls hl => ?_)
              refine lv_goto (tgt := 84) hx hb dX10_read_127 (by decide) ?_
              exact K84 (nI 1) (x2 + (nI 1)) S h _ _ Z ls (lv_sub hl [2, 1, 0] rfl)
  have B80 : ∀ (S : zSt), fX10_read_80 S = some (r, S') → ∀ (H : Heap) (locs : List Loc), zZ (zYM g) S s H locs → ∀ ls : Array Slot, lv_has ls 3 [(0, .ref (zad g 0))] → W p l e (headSpec vX10_read { frames := 6, cells := 0, slots := 0, locals := 129 }).room s m ([.ref (zad g 0)] : List Value).toArray below meth c H locs 0 0 (MQ below (zQi (zYM g) r S') ([.ref (zad g 0)] : List Value).toArray s 0 0 (zYM g).2.2.1) (F0 m 80 ls []) := by
    intro S h H locs Z ls hl
    unfold fX10_read_80 at h
    refine lv_iconst (v := (nI 0)) hx hb dX10_read_80 (by decide) ?_
    refine lv_istore_n (lv' := [(1, .int (nI 0)), (0, .ref (zad g 0))]) hx hb dX10_read_81 rfl hl (by decide) rfl (fun ls hl => ?_)
    refine lv_iconst (v := (nI 0)) hx hb dX10_read_82 (by decide) ?_
    refine lv_istore_n (lv' := [(2, .int (nI 0)), (1, .int (nI 0)), (0, .ref (zad g 0))]) hx hb dX10_read_83 rfl hl (by decide) rfl (fun ls hl => ?_)
    exact B84 zFU (nI 0) (nI 0) S h _ _ Z ls (lv_sub hl [2, 1, 0] rfl)
  have B69 : ∀ (S : zSt), fX10_read_69 S = some (r, S') → ∀ (H : Heap) (locs : List Loc), zZ (zYM g) S s H locs → ∀ ls : Array Slot, lv_has ls 3 [(0, .ref (zad g 0))] → W p l e (headSpec vX10_read { frames := 6, cells := 0, slots := 0, locals := 129 }).room s m ([.ref (zad g 0)] : List Value).toArray below meth c H locs 0 0 (MQ below (zQi (zYM g) r S') ([.ref (zad g 0)] : List Value).toArray s 0 0 (zYM g).2.2.1) (F0 m 69 ls []) := by
    intro S h H locs Z ls hl
    unfold fX10_read_69 at h
    refine lv_aload_n hx hb dX10_read_69 rfl (lv_at hl 0 rfl) ?_
    refine zgX10_9 (v := (zI S 6)) hx hb hf hown P0 Z L164 rfl dX10_read_70 ?_
    refine lv_if_ne (tgt := 80) hx hb dX10_read_73 (by decide) (fun q => ?_) (fun q => ?_)
    · have h := zi_f q h
      exact B80 S h _ _ Z ls (lv_sub hl [0] rfl)
    · have h := zi_t q h
      refine lv_aload_n hx hb dX10_read_76 rfl (lv_at hl 0 rfl) ?_
      obtain ⟨r7, S8, ec, h⟩ := zbd_s h
      refine zc_Vv hY P0 ⟨hx, hb, hml, hown, hT⟩ (As := []) (rest := []) (kX10_resolve l hO  S r7 S8 ec) (cwV 0 hT (zgV mL_X10_289 mI_X10_resolve mS_X10_resolve mN_X10 mC_X10_resolve) rfl rfl rfl hdnX10_resolve ⟨Nat.le_of_ble_eq_true rfl, Nat.le_of_ble_eq_true rfl⟩) (zrecM_0 P0 Z) Z rfl hl.1 rfl (Nat.le_of_ble_eq_true rfl) dX10_read_77 (fun H locs Z => ?_)
      exact B80 S8 h _ _ Z ls (lv_sub hl [0] rfl)
  have B48 : ∀ (n : Nat) (S : zSt), fX10_read_48L n S = some (r, S') → ∀ (H : Heap) (locs : List Loc), zZ (zYM g) S s H locs → ∀ ls : Array Slot, lv_has ls 3 [(0, .ref (zad g 0))] → W p l e (headSpec vX10_read { frames := 6, cells := 0, slots := 0, locals := 129 }).room s m ([.ref (zad g 0)] : List Value).toArray below meth c H locs 0 0 (MQ below (zQi (zYM g) r S') ([.ref (zad g 0)] : List Value).toArray s 0 0 (zYM g).2.2.1) (F0 m 48 ls []) := by
    intro n
    induction n with
    | zero => intro S h; exact absurd h (fun h => nomatch h)
    | succ n K48 =>
      intro S h H locs Z ls hl
      have h : fX10_read_48 (fX10_read_48L n) S = some (r, S') := h
      unfold fX10_read_48 at h
      refine lv_aload_n hx hb dX10_read_48 rfl (lv_at hl 0 rfl) ?_
      refine zgX10_9 (v := (zI S 6)) hx hb hf hown P0 Z L164 rfl dX10_read_49 ?_
      refine lv_if_ne (tgt := 69) hx hb dX10_read_52 (by decide) (fun q => ?_) (fun q => ?_)
      · have h := zi_f q h
        exact B69 S h _ _ Z ls (lv_sub hl [0] rfl)
      · have h := zi_t q h
        refine lv_aload_n hx hb dX10_read_55 rfl (lv_at hl 0 rfl) ?_
        refine zgX10_4 (v := (zI S 2)) hx hb hf hown P0 Z L177 rfl dX10_read_56 ?_
        refine lv_if_eq (tgt := 69) hx hb dX10_read_59 (by decide) (fun q => ?_) (fun q => ?_)
        · have h := zi_t q h
          exact B69 S h _ _ Z ls (lv_sub hl [0] rfl)
        · have h := zi_f q h
          refine lv_aload_n hx hb dX10_read_62 rfl (lv_at hl 0 rfl) ?_
          obtain ⟨r5, S6, ec, h⟩ := zbd_s h
          refine zc_Vv hY P0 ⟨hx, hb, hml, hown, hT⟩ (As := []) (rest := []) (kX10_definition l hO  S r5 S6 ec) (cwV 0 hT (zgV mL_X10_286 mI_X10_definition mS_X10_definition mN_X10 mC_X10_definition) rfl rfl rfl hdnX10_definition ⟨Nat.le_of_ble_eq_true rfl, Nat.le_of_ble_eq_true rfl⟩) (zrecM_0 P0 Z) Z rfl hl.1 rfl (Nat.le_of_ble_eq_true rfl) dX10_read_63 (fun H locs Z => ?_)
          refine lv_goto (tgt := 48) hx hb dX10_read_66 (by decide) ?_
          exact K48 S6 h _ _ Z ls (lv_sub hl [0] rfl)
  have hl := lv_entry ([.ref (zad g 0)] : List Value) (n := 3) (Nat.le_of_ble_eq_true rfl)
  rw [lg_entry_eq]
  generalize (lg_sl ([.ref (zad g 0)] : List Value) ++ List.replicate (3 - (lg_sl ([.ref (zad g 0)] : List Value)).length) Slot.unset).toArray = ls at hl ⊢
  have hl : lv_has ls 3 [(0, .ref (zad g 0))] := hl
  unfold fX10_read at h
  refine lv_aload_n hx hb dX10_read_0 rfl (lv_at hl 0 rfl) ?_
  refine lv_iconst (v := (nI 0)) hx hb dX10_read_1 (by decide) ?_
  refine zpX10_0 hO hx hb hf hown P0 Z L153 dX10_read_2 (fun H locs Z => ?_)
  refine lv_aload_n hx hb dX10_read_5 rfl (lv_at hl 0 rfl) ?_
  refine lv_iconst (v := (nI 0)) hx hb dX10_read_6 (by decide) ?_
  refine zpX10_11 hO hx hb hf hown P0 Z L246 dX10_read_7 (fun H locs Z => ?_)
  refine lv_aload_n hx hb dX10_read_10 rfl (lv_at hl 0 rfl) ?_
  refine lv_iconst (v := (nI 0)) hx hb dX10_read_11 (by decide) ?_
  refine zpX10_18 hO hx hb hf hown P0 Z L208 dX10_read_12 (fun H locs Z => ?_)
  refine lv_aload_n hx hb dX10_read_15 rfl (lv_at hl 0 rfl) ?_
  refine lv_iconst (v := (nI 0)) hx hb dX10_read_16 (by decide) ?_
  refine zpX10_24 hO hx hb hf hown P0 Z L240 dX10_read_17 (fun H locs Z => ?_)
  refine lv_aload_n hx hb dX10_read_20 rfl (lv_at hl 0 rfl) ?_
  refine lv_iconst (v := (nI 0)) hx hb dX10_read_21 (by decide) ?_
  refine zpX10_27 hO hx hb hf hown P0 Z L243 dX10_read_22 (fun H locs Z => ?_)
  refine lv_aload_n hx hb dX10_read_25 rfl (lv_at hl 0 rfl) ?_
  refine lv_iconst (v := (nI 0)) hx hb dX10_read_26 (by decide) ?_
  refine zpX10_34 hO hx hb hf hown P0 Z L230 dX10_read_27 (fun H locs Z => ?_)
  refine lv_aload_n hx hb dX10_read_30 rfl (lv_at hl 0 rfl) ?_
  refine lv_iconst (v := (nI 0)) hx hb dX10_read_31 (by decide) ?_
  refine zpX10_6 hO hx hb hf hown P0 Z L167 dX10_read_32 (fun H locs Z => ?_)
  refine lv_aload_n hx hb dX10_read_35 rfl (lv_at hl 0 rfl) ?_
  refine lv_iconst (v := (nI 0)) hx hb dX10_read_36 (by decide) ?_
  refine zpX10_9 hO hx hb hf hown P0 Z L164 dX10_read_37 (fun H locs Z => ?_)
  refine lv_aload_n hx hb dX10_read_40 rfl (lv_at hl 0 rfl) ?_
  obtain ⟨r1, S2, ec, h⟩ := zbd_s h
  refine zc_Vv hY P0 ⟨hx, hb, hml, hown, hT⟩ (As := []) (rest := []) (kX10_token l hO  (wI (wI (wI (wI (wI (wI (wI (wI S 0 (nI 0)) 8 (nI 0)) 9 (nI 0)) 10 (nI 0)) 11 (nI 0)) 13 (nI 0)) 4 (nI 0)) 6 (nI 0)) r1 S2 ec) (cwV 0 hT (zgV mL_X10_205 mI_X10_token mS_X10_token mN_X10 mC_X10_token) rfl rfl rfl hdnX10_token ⟨Nat.le_of_ble_eq_true rfl, Nat.le_of_ble_eq_true rfl⟩) (zrecM_0 P0 Z) Z rfl hl.1 rfl (Nat.le_of_ble_eq_true rfl) dX10_read_41 (fun H locs Z => ?_)
  refine lv_aload_n hx hb dX10_read_44 rfl (lv_at hl 0 rfl) ?_
  obtain ⟨r3, S4, ec, h⟩ := zbd_s h
  refine zc_Vv hY P0 ⟨hx, hb, hml, hown, hT⟩ (As := []) (rest := []) (kX10_definition l hO  S2 r3 S4 ec) (cwV 0 hT (zgV mL_X10_286 mI_X10_definition mS_X10_definition mN_X10 mC_X10_definition) rfl rfl rfl hdnX10_definition ⟨Nat.le_of_ble_eq_true rfl, Nat.le_of_ble_eq_true rfl⟩) (zrecM_0 P0 Z) Z rfl hl.1 rfl (Nat.le_of_ble_eq_true rfl) dX10_read_45 (fun H locs Z => ?_)
  exact B48 zFU S4 h _ _ Z ls (lv_sub hl [0] rfl)

set_option maxHeartbeats 4000000 in
set_option maxRecDepth 100000 in
theorem kX10_fault {g : zG} (l : Launch) (hO : zinjM g) (S : zSt) (r : Int32) (S' : zSt) (h : fX10_fault S = some (r, S')) : zMi (zYM g) l yX10_fault vX10_fault { frames := 0, cells := 0, slots := 0, locals := 0 } ([.ref (zad g 0)] : List Value) S r S' := by
  have hY := zOkM hO
  refine Met.ofW (cc := cX10_fault) (maxL := 1) (ret := (some .int)) (by decide) rfl ?_
  intro p e s m args below meth c s₁ B hml hv
  obtain ⟨rfl, hP⟩ := hv
  have hx := B.exec
  have hb := B.bytes
  have hr := B.returns
  have hts := atoms_spec (ws := vX10_fault) B.pre
  have hT : ∀ w ∈ zTB, w.before ([.ref (zad g 0)] : List Value).toArray s = true := fun w h => hts w (List.mem_cons_of_mem _ h)
  have hown : s.vm.findClass RX10 = some m.cls := findClass_of_methodNamed B.named
  have hlocks := B.notSynchronized
  have P0 := hP.2
  have Z : zZ (zYM g) S s s.heap [] := ⟨hP.1, va_S.rf⟩
  have hf : ∀ w ∈ u_ws RX10 TX10 67, w.before ([.ref (zad g 0)] : List Value).toArray s = true := fun w hw => hT w (mU_X10 w hw)
  have L153 := hT _ mF_X10_153
  have L164 := hT _ mF_X10_164
  have hl := lv_entry ([.ref (zad g 0)] : List Value) (n := 1) (Nat.le_of_ble_eq_true rfl)
  rw [lg_entry_eq]
  generalize (lg_sl ([.ref (zad g 0)] : List Value) ++ List.replicate (1 - (lg_sl ([.ref (zad g 0)] : List Value)).length) Slot.unset).toArray = ls at hl ⊢
  have hl : lv_has ls 1 [(0, .ref (zad g 0))] := hl
  unfold fX10_fault at h
  refine lv_aload_n hx hb dX10_fault_0 rfl (lv_at hl 0 rfl) ?_
  refine lv_iconst (v := (nI 0)) hx hb dX10_fault_1 (by decide) ?_
  refine zpX10_0 hO hx hb hf hown P0 Z L153 dX10_fault_2 (fun H locs Z => ?_)
  refine lv_aload_n hx hb dX10_fault_5 rfl (lv_at hl 0 rfl) ?_
  refine zgX10_9 (v := (zI S 6)) hx hb hf hown P0 Z L164 rfl dX10_fault_6 ?_
  exact zr_i hY P0 hx hb hr hlocks h Z dX10_fault_9

set_option maxHeartbeats 4000000 in
set_option maxRecDepth 100000 in
theorem kX10_followed {g : zG} (l : Launch) (hO : zinjM g) (a1 : Int32) (S : zSt) (r : Int32) (S' : zSt) (h : fX10_followed a1 S = some (r, S')) : zMi (zYM g) l yX10_followed vX10_followed { frames := 0, cells := 0, slots := 0, locals := 0 } ([.ref (zad g 0), .int a1] : List Value) S r S' := by
  have hY := zOkM hO
  refine Met.ofW (cc := cX10_followed) (maxL := 4) (ret := (some .int)) (by decide) rfl ?_
  intro p e s m args below meth c s₁ B hml hv
  obtain ⟨rfl, hP⟩ := hv
  have hx := B.exec
  have hb := B.bytes
  have hr := B.returns
  have hts := atoms_spec (ws := vX10_followed) B.pre
  have hT : ∀ w ∈ zTB, w.before ([.ref (zad g 0), .int a1] : List Value).toArray s = true := fun w h => hts w (List.mem_cons_of_mem _ h)
  have hown : s.vm.findClass RX10 = some m.cls := findClass_of_methodNamed B.named
  have hlocks := B.notSynchronized
  have P0 := hP.2
  have Z : zZ (zYM g) S s s.heap [] := ⟨hP.1, va_S.rf⟩
  have hf : ∀ w ∈ u_ws RX10 TX10 67, w.before ([.ref (zad g 0), .int a1] : List Value).toArray s = true := fun w hw => hT w (mU_X10 w hw)
  have L110 := hT _ mF_X10_110
  have L113 := hT _ mF_X10_113
  have B35 : ∀ (x2 : Int32) (S : zSt), fX10_followed_35 x2 S = some (r, S') → ∀ (H : Heap) (locs : List Loc), zZ (zYM g) S s H locs → ∀ ls : Array Slot, lv_has ls 4 [(0, .ref (zad g 0)), (2, .int x2)] → W p l e (headSpec vX10_followed { frames := 0, cells := 0, slots := 0, locals := 0 }).room s m ([.ref (zad g 0), .int a1] : List Value).toArray below meth c H locs 0 0 (MQ below (zQi (zYM g) r S') ([.ref (zad g 0), .int a1] : List Value).toArray s 0 0 (zYM g).2.2.1) (F0 m 35 ls []) := by
    intro x2 S h H locs Z ls hl
    unfold fX10_followed_35 at h
    refine lv_aload_n hx hb dX10_followed_35 rfl (lv_at hl 0 rfl) ?_
    refine zgX10_39 hx hb hf hown P0 Z L110 dX10_followed_36 ?_
    refine lv_iload_n hx hb dX10_followed_39 rfl (lv_at hl 1 rfl) ?_
    obtain ⟨v3, ev, hin, h⟩ := zld_s h
    refine zlM_24 hx hb P0 Z ev hin dX10_followed_40 ?_
    refine lv_bipush (v := (nI 6)) hx hb dX10_followed_41 (by decide) ?_
    refine lv_icmp_ne (tgt := 50) hx hb dX10_followed_43 (by decide) (fun q => ?_) (fun q => ?_)
    · have h := zi_f q h
      refine lv_iload_n hx hb dX10_followed_50 rfl (lv_at hl 1 rfl) ?_
      exact zr_i hY P0 hx hb hr hlocks h Z dX10_followed_51
    · have h := zi_t q h
      refine lv_iconst (v := (-1 : Int32)) hx hb dX10_followed_46 (by decide) ?_
      refine lv_goto (tgt := 51) hx hb dX10_followed_47 (by decide) ?_
      exact zr_i hY P0 hx hb hr hlocks h Z dX10_followed_51
  have B4 : ∀ (n : Nat) (x2 : Int32) (x3 : Int32) (S : zSt), fX10_followed_4L n (x2, x3, S) = some (r, S') → ∀ (H : Heap) (locs : List Loc), zZ (zYM g) S s H locs → ∀ ls : Array Slot, lv_has ls 4 [(0, .ref (zad g 0)), (2, .int x2), (3, .int x3)] → W p l e (headSpec vX10_followed { frames := 0, cells := 0, slots := 0, locals := 0 }).room s m ([.ref (zad g 0), .int a1] : List Value).toArray below meth c H locs 0 0 (MQ below (zQi (zYM g) r S') ([.ref (zad g 0), .int a1] : List Value).toArray s 0 0 (zYM g).2.2.1) (F0 m 4 ls []) := by
    intro n
    induction n with
    | zero => intro x2 x3 S h; exact absurd h (fun h => nomatch h)
    | succ n K4 =>
      intro x2 x3 S h H locs Z ls hl
      have h : fX10_followed_4 (fX10_followed_4L n) x2 x3 S = some (r, S') := h
      unfold fX10_followed_4 at h
      refine lv_iload_n hx hb dX10_followed_4 rfl (lv_at hl 2 rfl) ?_
      refine lv_sipush (v := (nI 400)) hx hb dX10_followed_5 (by decide) ?_
      refine lv_icmp_gt (tgt := 35) hx hb dX10_followed_8 (by decide) (fun q => ?_) (fun q => ?_)
      · have h := zi_t q h
        exact B35 x2 S h _ _ Z ls (lv_sub hl [0, 1] rfl)
      · have h := zi_f q h
        refine lv_aload_n hx hb dX10_followed_11 rfl (lv_at hl 0 rfl) ?_
        refine zgX10_39 hx hb hf hown P0 Z L110 dX10_followed_12 ?_
        refine lv_iload_n hx hb dX10_followed_15 rfl (lv_at hl 1 rfl) ?_
        obtain ⟨v1, ev, hin, h⟩ := zld_s h
        refine zlM_24 hx hb P0 Z ev hin dX10_followed_16 ?_
        refine lv_bipush (v := (nI 6)) hx hb dX10_followed_17 (by decide) ?_
        refine lv_icmp_ne (tgt := 35) hx hb dX10_followed_19 (by decide) (fun q => ?_) (fun q => ?_)
        · have h := zi_f q h
          exact B35 x2 S h _ _ Z ls (lv_sub hl [0, 1] rfl)
        · have h := zi_t q h
          refine lv_aload_n hx hb dX10_followed_22 rfl (lv_at hl 0 rfl) ?_
          refine zgX10_40 hx hb hf hown P0 Z L113 dX10_followed_23 ?_
          refine lv_iload_n hx hb dX10_followed_26 rfl (lv_at hl 1 rfl) ?_
          obtain ⟨v2, ev, hin, h⟩ := zld_s h
          refine zlM_25 hx hb P0 Z ev hin dX10_followed_27 ?_
          refine lv_istore_n (lv' := [(2, .int v2), (0, .ref (zad g 0)), (3, .int x3)]) hx hb dX10_followed_28 rfl hl (by decide) rfl (fun ls hl => ?_)
          refine lv_iinc (v := (x3 + (nI 1))) (lv' := [(3, .int (x3 + (nI 1))), (2, .int v2), (0, .ref (zad g 0))]) hx hb dX10_followed_29 hl (k := 2) rfl rfl (by decide) rfl (fun ls hl => ?_)
          refine lv_goto (tgt := 4) hx hb dX10_followed_32 (by decide) ?_
          exact K4 v2 (x3 + (nI 1)) S h _ _ Z ls (lv_sub hl [2, 1, 0] rfl)
  have hl := lv_entry ([.ref (zad g 0), .int a1] : List Value) (n := 4) (Nat.le_of_ble_eq_true rfl)
  rw [lg_entry_eq]
  generalize (lg_sl ([.ref (zad g 0), .int a1] : List Value) ++ List.replicate (4 - (lg_sl ([.ref (zad g 0), .int a1] : List Value)).length) Slot.unset).toArray = ls at hl ⊢
  have hl : lv_has ls 4 [(0, .ref (zad g 0)), (1, .int a1)] := hl
  unfold fX10_followed at h
  refine lv_iload_n hx hb dX10_followed_0 rfl (lv_at hl 1 rfl) ?_
  refine lv_istore_n (lv' := [(2, .int a1), (0, .ref (zad g 0)), (1, .int a1)]) hx hb dX10_followed_1 rfl hl (by decide) rfl (fun ls hl => ?_)
  refine lv_iconst (v := (nI 0)) hx hb dX10_followed_2 (by decide) ?_
  refine lv_istore_n (lv' := [(3, .int (nI 0)), (2, .int a1), (0, .ref (zad g 0)), (1, .int a1)]) hx hb dX10_followed_3 rfl hl (by decide) rfl (fun ls hl => ?_)
  exact B4 zFU a1 (nI 0) S h _ _ Z ls (lv_sub hl [2, 1, 0] rfl)

set_option maxHeartbeats 4000000 in
set_option maxRecDepth 100000 in
theorem kX10_wants {g : zG} (l : Launch) (hO : zinjM g) (a0 : Int32) (S : zSt) (r : Int32) (S' : zSt) (h : fX10_wants a0 S = some (r, S')) : zMi (zYM g) l yX10_wants vX10_wants { frames := 0, cells := 0, slots := 0, locals := 0 } ([.int a0] : List Value) S r S' := by
  have hY := zOkM hO
  refine Met.ofW (cc := cX10_wants) (maxL := 1) (ret := (some .int)) (by decide) rfl ?_
  intro p e s m args below meth c s₁ B hml hv
  obtain ⟨rfl, hP⟩ := hv
  have hx := B.exec
  have hb := B.bytes
  have hr := B.returns
  have hts := atoms_spec (ws := vX10_wants) B.pre
  have hT : ∀ w ∈ zTB, w.before ([.int a0] : List Value).toArray s = true := fun w h => hts w (List.mem_cons_of_mem _ h)
  have hown : s.vm.findClass RX10 = some m.cls := findClass_of_methodNamed B.named
  have hlocks := B.notSynchronized
  have P0 := hP.2
  have Z : zZ (zYM g) S s s.heap [] := ⟨hP.1, va_S.rf⟩
  have hl := lv_entry ([.int a0] : List Value) (n := 1) (Nat.le_of_ble_eq_true rfl)
  rw [lg_entry_eq]
  generalize (lg_sl ([.int a0] : List Value) ++ List.replicate (1 - (lg_sl ([.int a0] : List Value)).length) Slot.unset).toArray = ls at hl ⊢
  have hl : lv_has ls 1 [(0, .int a0)] := hl
  unfold fX10_wants at h
  refine lv_iload_n hx hb dX10_wants_0 rfl (lv_at hl 0 rfl) ?_
  refine lv_bipush (v := (nI 6)) hx hb dX10_wants_1 (by decide) ?_
  refine lv_icmp_ne (tgt := 10) hx hb dX10_wants_3 (by decide) (fun q => ?_) (fun q => ?_)
  · have h := zi_f q h
    refine lv_iload_n hx hb dX10_wants_10 rfl (lv_at hl 0 rfl) ?_
    refine lv_bipush (v := (nI 8)) hx hb dX10_wants_11 (by decide) ?_
    refine lv_icmp_le (tgt := 26) hx hb dX10_wants_13 (by decide) (fun q => ?_) (fun q => ?_)
    · have h := zi_t q h
      refine lv_iconst (v := (nI 2)) hx hb dX10_wants_26 (by decide) ?_
      exact zr_i hY P0 hx hb hr hlocks h Z dX10_wants_27
    · have h := zi_f q h
      refine lv_iload_n hx hb dX10_wants_16 rfl (lv_at hl 0 rfl) ?_
      refine lv_bipush (v := (nI 12)) hx hb dX10_wants_17 (by decide) ?_
      refine lv_icmp_ge (tgt := 26) hx hb dX10_wants_19 (by decide) (fun q => ?_) (fun q => ?_)
      · have h := zi_t q h
        refine lv_iconst (v := (nI 2)) hx hb dX10_wants_26 (by decide) ?_
        exact zr_i hY P0 hx hb hr hlocks h Z dX10_wants_27
      · have h := zi_f q h
        refine lv_iconst (v := (nI 1)) hx hb dX10_wants_22 (by decide) ?_
        refine lv_goto (tgt := 27) hx hb dX10_wants_23 (by decide) ?_
        exact zr_i hY P0 hx hb hr hlocks h Z dX10_wants_27
  · have h := zi_t q h
    refine lv_iconst (v := (nI 3)) hx hb dX10_wants_6 (by decide) ?_
    refine lv_goto (tgt := 27) hx hb dX10_wants_7 (by decide) ?_
    exact zr_i hY P0 hx hb hr hlocks h Z dX10_wants_27
