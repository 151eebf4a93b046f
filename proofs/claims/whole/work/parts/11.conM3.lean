set_option maxHeartbeats 4000000 in
set_option maxRecDepth 100000 in
theorem kX10_stepOne {g : zG} (l : Launch) (hO : zinjM g) (S : zSt) (r : Int32) (S' : zSt) (h : fX10_stepOne S = some (r, S')) : zMi (zYM g) l yX10_stepOne vX10_stepOne { frames := 4, cells := 0, slots := 0, locals := 93 } ([.ref (zad g 0)] : List Value) S r S' := by
  have hY := zOkM hO
  refine Met.ofW (cc := cX10_stepOne) (maxL := 3) (ret := (some .boolean)) (by decide) rfl ?_
  intro p e s m args below meth c s₁ B hml hv
  obtain ⟨rfl, hP⟩ := hv
  have hx := B.exec
  have hb := B.bytes
  have hr := B.returns
  have hts := atoms_spec (ws := vX10_stepOne) B.pre
  have hT : ∀ w ∈ zTB, w.before ([.ref (zad g 0)] : List Value).toArray s = true := fun w h => hts w (List.mem_cons_of_mem _ h)
  have hown : s.vm.findClass RX10 = some m.cls := findClass_of_methodNamed B.named
  have hlocks := B.notSynchronized
  have P0 := hP.2
  have Z : zZ (zYM g) S s s.heap [] := ⟨hP.1, va_S.rf⟩
  have hf : ∀ w ∈ u_ws RX10 TX10 67, w.before ([.ref (zad g 0)] : List Value).toArray s = true := fun w hw => hT w (mU_X10 w hw)
  have L283 := hT _ mF_X10_283
  have L280 := hT _ mF_X10_280
  have L277 := hT _ mF_X10_277
  have L128 := hT _ mF_X10_128
  have L271 := hT _ mF_X10_271
  have L113 := hT _ mF_X10_113
  have L131 := hT _ mF_X10_131
  have L274 := hT _ mF_X10_274
  have L318 := hT _ mF_X10_318
  have L321 := hT _ mF_X10_321
  have B22 : ∀ (y0 : Int32) (S : zSt), fX10_stepOne_22 y0 S = some (r, S') → ∀ (H : Heap) (locs : List Loc), zZ (zYM g) S s H locs → ∀ ls : Array Slot, lv_has ls 3 [(0, .ref (zad g 0))] → W p l e (headSpec vX10_stepOne { frames := 4, cells := 0, slots := 0, locals := 93 }).room s m ([.ref (zad g 0)] : List Value).toArray below meth c H locs 0 0 (MQ below (zQi (zYM g) r S') ([.ref (zad g 0)] : List Value).toArray s 0 0 (zYM g).2.2.1) (F0 m 22 ls [.int y0, .ref (zad g 0)]) := by
    intro y0 S h H locs Z ls hl
    unfold fX10_stepOne_22 at h
    refine zpX10_53 hO hx hb hf hown P0 Z L280 dX10_stepOne_22 (fun H locs Z => ?_)
    refine lv_aload_n hx hb dX10_stepOne_25 rfl (lv_at hl 0 rfl) ?_
    refine lv_aload_n hx hb dX10_stepOne_26 rfl (lv_at hl 0 rfl) ?_
    refine zgX10_62 (v := (zI S 27)) hx hb hf hown P0 Z L321 rfl dX10_stepOne_27 ?_
    refine zpX10_54 hO hx hb hf hown P0 Z L283 dX10_stepOne_30 (fun H locs Z => ?_)
    refine lv_iconst (v := (nI 0)) hx hb dX10_stepOne_33 (by decide) ?_
    exact zr_z hY P0 hx hb hr hlocks (by decide) h Z dX10_stepOne_34
  have hl := lv_entry ([.ref (zad g 0)] : List Value) (n := 3) (Nat.le_of_ble_eq_true rfl)
  rw [lg_entry_eq]
  generalize (lg_sl ([.ref (zad g 0)] : List Value) ++ List.replicate (3 - (lg_sl ([.ref (zad g 0)] : List Value)).length) Slot.unset).toArray = ls at hl ⊢
  have hl : lv_has ls 3 [(0, .ref (zad g 0))] := hl
  unfold fX10_stepOne at h
  refine lv_aload_n hx hb dX10_stepOne_0 rfl (lv_at hl 0 rfl) ?_
  obtain ⟨r1, S2, ec, h⟩ := zbd_s h
  refine zc_Vi hY P0 ⟨hx, hb, hml, hown, hT⟩ (As := []) (rest := []) (kX10_look l hO  S r1 S2 ec) (cwV 0 hT (zgV mL_X10_333 mI_X10_look mS_X10_look mN_X10 mC_X10_look) rfl rfl rfl hdnX10_look ⟨Nat.le_of_ble_eq_true rfl, Nat.le_of_ble_eq_true rfl⟩) (zrecM_0 P0 Z) Z rfl hl.1 rfl (Nat.le_of_ble_eq_true rfl) dX10_stepOne_1 (fun H locs Z => ?_)
  refine lv_istore_n (lv' := [(1, .int r1), (0, .ref (zad g 0))]) hx hb dX10_stepOne_4 rfl hl (by decide) rfl (fun ls hl => ?_)
  refine lv_iload_n hx hb dX10_stepOne_5 rfl (lv_at hl 0 rfl) ?_
  refine lv_iconst (v := (nI 5)) hx hb dX10_stepOne_6 (by decide) ?_
  refine lv_icmp_le (tgt := 35) hx hb dX10_stepOne_7 (by decide) (fun q => ?_) (fun q => ?_)
  · have h := zi_t q h
    refine lv_aload_n hx hb dX10_stepOne_35 rfl (lv_at hl 1 rfl) ?_
    refine lv_iconst (v := (nI 0)) hx hb dX10_stepOne_36 (by decide) ?_
    refine zpX10_54 hO hx hb hf hown P0 Z L283 dX10_stepOne_37 (fun H locs Z => ?_)
    refine lv_aload_n hx hb dX10_stepOne_40 rfl (lv_at hl 1 rfl) ?_
    refine lv_iload_n hx hb dX10_stepOne_41 rfl (lv_at hl 0 rfl) ?_
    obtain ⟨r3, S4, ec, h⟩ := zbd_s h
    refine zc_Vi hY P0 ⟨hx, hb, hml, hown, hT⟩ (As := [.int r1]) (rest := []) (kX10_isFull l hO r1 (wI S2 22 (nI 0)) r3 S4 ec) (cwV 1 hT (zgV mL_X10_336 mI_X10_isFull mS_X10_isFull mN_X10 mC_X10_isFull) rfl rfl rfl hdnX10_isFull ⟨Nat.le_of_ble_eq_true rfl, Nat.le_of_ble_eq_true rfl⟩) (zrecM_0 P0 Z) Z rfl hl.1 rfl (Nat.le_of_ble_eq_true rfl) dX10_stepOne_42 (fun H locs Z => ?_)
    refine lv_if_eq (tgt := 55) hx hb dX10_stepOne_45 (by decide) (fun q => ?_) (fun q => ?_)
    · have h := zi_t q h
      refine lv_aload_n hx hb dX10_stepOne_55 rfl (lv_at hl 1 rfl) ?_
      refine lv_iconst (v := (nI 0)) hx hb dX10_stepOne_56 (by decide) ?_
      refine zpX10_53 hO hx hb hf hown P0 Z L280 dX10_stepOne_57 (fun H locs Z => ?_)
      refine lv_aload_n hx hb dX10_stepOne_60 rfl (lv_at hl 1 rfl) ?_
      refine lv_dup hx hb dX10_stepOne_61 rfl ?_
      refine zgX10_52 (v := (zI S4 20)) hx hb hf hown P0 Z L277 rfl dX10_stepOne_62 ?_
      refine lv_iconst (v := (nI 1)) hx hb dX10_stepOne_65 (by decide) ?_
      refine lv_iadd hx hb dX10_stepOne_66 ?_
      refine zpX10_52 hO hx hb hf hown P0 Z L277 dX10_stepOne_67 (fun H locs Z => ?_)
      refine lv_aload_n hx hb dX10_stepOne_70 rfl (lv_at hl 1 rfl) ?_
      obtain ⟨r5, S6, ec, h⟩ := zbd_s h
      refine zc_Vi hY P0 ⟨hx, hb, hml, hown, hT⟩ (As := []) (rest := []) (kX10_topNode l hO  (wI (wI S4 21 (nI 0)) 20 ((zI S4 20) + (nI 1))) r5 S6 ec) (cwV 0 hT (zgV mL_X10_311 mI_X10_topNode mS_X10_topNode mN_X10 mC_X10_topNode) rfl rfl rfl hdnX10_topNode ⟨Nat.le_of_ble_eq_true rfl, Nat.le_of_ble_eq_true rfl⟩) (zrecM_0 P0 Z) Z rfl hl.1 rfl (Nat.le_of_ble_eq_true rfl) dX10_stepOne_71 (fun H locs Z => ?_)
      refine lv_istore_n (lv' := [(2, .int r5), (1, .int r1), (0, .ref (zad g 0))]) hx hb dX10_stepOne_74 rfl hl (by decide) rfl (fun ls hl => ?_)
      refine lv_iload_n hx hb dX10_stepOne_75 rfl (lv_at hl 1 rfl) ?_
      by_cases q0 : r1 = (nI 0)
      · have h := zi_t q0 h
        refine ztbl (off := 36) (tgt := 112) hx hb q0 dX10_stepOne_76 (by decide) (by decide) (by decide) (by decide) ?_
        refine lv_aload_n hx hb dX10_stepOne_112 rfl (lv_at hl 2 rfl) ?_
        refine zgX10_49 hx hb hf hown P0 Z L128 dX10_stepOne_113 ?_
        refine lv_aload_n hx hb dX10_stepOne_116 rfl (lv_at hl 2 rfl) ?_
        refine zgX10_48 (v := (zI S6 18)) hx hb hf hown P0 Z L271 rfl dX10_stepOne_117 ?_
        refine lv_iconst (v := (nI 1)) hx hb dX10_stepOne_120 (by decide) ?_
        refine lv_isub hx hb dX10_stepOne_121 ?_
        refine lv_aload_n hx hb dX10_stepOne_122 rfl (lv_at hl 2 rfl) ?_
        refine zgX10_40 hx hb hf hown P0 Z L113 dX10_stepOne_123 ?_
        refine lv_iload_n hx hb dX10_stepOne_126 rfl (lv_at hl 0 rfl) ?_
        obtain ⟨v7, ev, hin, h⟩ := zld_s h
        refine zlM_25 hx hb P0 Z ev hin dX10_stepOne_127 ?_
        obtain ⟨hin, h⟩ := zck_s h
        refine zsM_30 hO hx hb P0 Z hin dX10_stepOne_128 (fun H locs Z => ?_)
        refine lv_goto (tgt := 258) hx hb dX10_stepOne_129 (by decide) ?_
        refine lv_iconst (v := (nI 1)) hx hb dX10_stepOne_258 (by decide) ?_
        exact zr_z hY P0 hx hb hr hlocks (by decide) h Z dX10_stepOne_259
      have h := zi_f q0 h
      by_cases q1 : r1 = (nI 1)
      · have h := zi_t q1 h
        refine ztbl (off := 56) (tgt := 132) hx hb q1 dX10_stepOne_76 (by decide) (by decide) (by decide) (by decide) ?_
        refine lv_aload_n hx hb dX10_stepOne_132 rfl (lv_at hl 2 rfl) ?_
        refine zgX10_49 hx hb hf hown P0 Z L128 dX10_stepOne_133 ?_
        refine lv_aload_n hx hb dX10_stepOne_136 rfl (lv_at hl 2 rfl) ?_
        refine zgX10_48 (v := (zI S6 18)) hx hb hf hown P0 Z L271 rfl dX10_stepOne_137 ?_
        refine lv_aload_n hx hb dX10_stepOne_140 rfl (lv_at hl 2 rfl) ?_
        refine zgX10_40 hx hb hf hown P0 Z L113 dX10_stepOne_141 ?_
        refine lv_iload_n hx hb dX10_stepOne_144 rfl (lv_at hl 0 rfl) ?_
        obtain ⟨v8, ev, hin, h⟩ := zld_s h
        refine zlM_25 hx hb P0 Z ev hin dX10_stepOne_145 ?_
        obtain ⟨hin, h⟩ := zck_s h
        refine zsM_30 hO hx hb P0 Z hin dX10_stepOne_146 (fun H locs Z => ?_)
        refine lv_aload_n hx hb dX10_stepOne_147 rfl (lv_at hl 2 rfl) ?_
        refine lv_dup hx hb dX10_stepOne_148 rfl ?_
        refine zgX10_48 (v := (zI S6 18)) hx hb hf hown P0 Z L271 rfl dX10_stepOne_149 ?_
        refine lv_iconst (v := (nI 1)) hx hb dX10_stepOne_152 (by decide) ?_
        refine lv_iadd hx hb dX10_stepOne_153 ?_
        refine zpX10_48 hO hx hb hf hown P0 Z L271 dX10_stepOne_154 (fun H locs Z => ?_)
        refine lv_goto (tgt := 258) hx hb dX10_stepOne_157 (by decide) ?_
        refine lv_iconst (v := (nI 1)) hx hb dX10_stepOne_258 (by decide) ?_
        exact zr_z hY P0 hx hb hr hlocks (by decide) h Z dX10_stepOne_259
      have h := zi_f q1 h
      by_cases q2 : r1 = (nI 2)
      · have h := zi_t q2 h
        refine ztbl (off := 84) (tgt := 160) hx hb q2 dX10_stepOne_76 (by decide) (by decide) (by decide) (by decide) ?_
        refine lv_aload_n hx hb dX10_stepOne_160 rfl (lv_at hl 2 rfl) ?_
        refine lv_aload_n hx hb dX10_stepOne_161 rfl (lv_at hl 2 rfl) ?_
        refine zgX10_40 hx hb hf hown P0 Z L113 dX10_stepOne_162 ?_
        refine lv_iload_n hx hb dX10_stepOne_165 rfl (lv_at hl 0 rfl) ?_
        obtain ⟨v9, ev, hin, h⟩ := zld_s h
        refine zlM_25 hx hb P0 Z ev hin dX10_stepOne_166 ?_
        obtain ⟨r10, S11, ec, h⟩ := zbd_s h
        refine zc_Vv hY P0 ⟨hx, hb, hml, hown, hT⟩ (As := [.int v9]) (rest := []) (kX10_build l hO v9 S6 r10 S11 ec) (cwV 1 hT (zgV mL_X10_339 mI_X10_build mS_X10_build mN_X10 mC_X10_build) rfl rfl rfl hdnX10_build ⟨Nat.le_of_ble_eq_true rfl, Nat.le_of_ble_eq_true rfl⟩) (zrecM_0 P0 Z) Z rfl hl.1 rfl (Nat.le_of_ble_eq_true rfl) dX10_stepOne_167 (fun H locs Z => ?_)
        refine lv_goto (tgt := 258) hx hb dX10_stepOne_170 (by decide) ?_
        refine lv_iconst (v := (nI 1)) hx hb dX10_stepOne_258 (by decide) ?_
        exact zr_z hY P0 hx hb hr hlocks (by decide) h Z dX10_stepOne_259
      have h := zi_f q2 h
      by_cases q3 : r1 = (nI 3)
      · have h := zi_t q3 h
        refine ztbl (off := 97) (tgt := 173) hx hb q3 dX10_stepOne_76 (by decide) (by decide) (by decide) (by decide) ?_
        refine lv_aload_n hx hb dX10_stepOne_173 rfl (lv_at hl 2 rfl) ?_
        refine zgX10_51 hx hb hf hown P0 Z L131 dX10_stepOne_174 ?_
        refine lv_aload_n hx hb dX10_stepOne_177 rfl (lv_at hl 2 rfl) ?_
        refine zgX10_50 (v := (zI S6 19)) hx hb hf hown P0 Z L274 rfl dX10_stepOne_178 ?_
        refine lv_aload_n hx hb dX10_stepOne_181 rfl (lv_at hl 2 rfl) ?_
        refine zgX10_48 (v := (zI S6 18)) hx hb hf hown P0 Z L271 rfl dX10_stepOne_182 ?_
        obtain ⟨hin, h⟩ := zck_s h
        refine zsM_31 hO hx hb P0 Z hin dX10_stepOne_185 (fun H locs Z => ?_)
        refine lv_aload_n hx hb dX10_stepOne_186 rfl (lv_at hl 2 rfl) ?_
        refine lv_dup hx hb dX10_stepOne_187 rfl ?_
        refine zgX10_50 (v := (zI S6 19)) hx hb hf hown P0 Z L274 rfl dX10_stepOne_188 ?_
        refine lv_iconst (v := (nI 1)) hx hb dX10_stepOne_191 (by decide) ?_
        refine lv_iadd hx hb dX10_stepOne_192 ?_
        refine zpX10_50 hO hx hb hf hown P0 Z L274 dX10_stepOne_193 (fun H locs Z => ?_)
        refine lv_aload_n hx hb dX10_stepOne_196 rfl (lv_at hl 2 rfl) ?_
        refine zgX10_49 hx hb hf hown P0 Z L128 dX10_stepOne_197 ?_
        refine lv_aload_n hx hb dX10_stepOne_200 rfl (lv_at hl 2 rfl) ?_
        refine zgX10_48 (v := (zI S6 18)) hx hb hf hown P0 Z L271 rfl dX10_stepOne_201 ?_
        refine lv_aload_n hx hb dX10_stepOne_204 rfl (lv_at hl 2 rfl) ?_
        refine zgX10_61 (v := (zI S6 26)) hx hb hf hown P0 Z L318 rfl dX10_stepOne_205 ?_
        obtain ⟨hin, h⟩ := zck_s h
        refine zsM_30 hO hx hb P0 Z hin dX10_stepOne_208 (fun H locs Z => ?_)
        refine lv_aload_n hx hb dX10_stepOne_209 rfl (lv_at hl 2 rfl) ?_
        refine lv_dup hx hb dX10_stepOne_210 rfl ?_
        refine zgX10_48 (v := (zI S6 18)) hx hb hf hown P0 Z L271 rfl dX10_stepOne_211 ?_
        refine lv_iconst (v := (nI 1)) hx hb dX10_stepOne_214 (by decide) ?_
        refine lv_iadd hx hb dX10_stepOne_215 ?_
        refine zpX10_48 hO hx hb hf hown P0 Z L271 dX10_stepOne_216 (fun H locs Z => ?_)
        refine lv_goto (tgt := 258) hx hb dX10_stepOne_219 (by decide) ?_
        refine lv_iconst (v := (nI 1)) hx hb dX10_stepOne_258 (by decide) ?_
        exact zr_z hY P0 hx hb hr hlocks (by decide) h Z dX10_stepOne_259
      have h := zi_f q3 h
      by_cases q4 : r1 = (nI 4)
      · have h := zi_t q4 h
        refine ztbl (off := 146) (tgt := 222) hx hb q4 dX10_stepOne_76 (by decide) (by decide) (by decide) (by decide) ?_
        refine lv_aload_n hx hb dX10_stepOne_222 rfl (lv_at hl 2 rfl) ?_
        refine lv_aload_n hx hb dX10_stepOne_223 rfl (lv_at hl 2 rfl) ?_
        refine zgX10_40 hx hb hf hown P0 Z L113 dX10_stepOne_224 ?_
        refine lv_iload_n hx hb dX10_stepOne_227 rfl (lv_at hl 0 rfl) ?_
        obtain ⟨v12, ev, hin, h⟩ := zld_s h
        refine zlM_25 hx hb P0 Z ev hin dX10_stepOne_228 ?_
        obtain ⟨r13, S14, ec, h⟩ := zbd_s h
        refine zc_Vv hY P0 ⟨hx, hb, hml, hown, hT⟩ (As := [.int v12]) (rest := []) (kX10_compute l hO v12 S6 r13 S14 ec) (cwV 1 hT (zgV mL_X10_342 mI_X10_compute mS_X10_compute mN_X10 mC_X10_compute) rfl rfl rfl hdnX10_compute ⟨Nat.le_of_ble_eq_true rfl, Nat.le_of_ble_eq_true rfl⟩) (zrecM_0 P0 Z) Z rfl hl.1 rfl (Nat.le_of_ble_eq_true rfl) dX10_stepOne_229 (fun H locs Z => ?_)
        refine lv_goto (tgt := 258) hx hb dX10_stepOne_232 (by decide) ?_
        refine lv_iconst (v := (nI 1)) hx hb dX10_stepOne_258 (by decide) ?_
        exact zr_z hY P0 hx hb hr hlocks (by decide) h Z dX10_stepOne_259
      have h := zi_f q4 h
      have u0 : ¬ r1.toInt = 0 := lv_neT q0 (by decide)
      have u1 : ¬ r1.toInt = 1 := lv_neT q1 (by decide)
      have u2 : ¬ r1.toInt = 2 := lv_neT q2 (by decide)
      have u3 : ¬ r1.toInt = 3 := lv_neT q3 (by decide)
      have u4 : ¬ r1.toInt = 4 := lv_neT q4 (by decide)
      refine lv_tableOut (tgt := 235) hx hb dX10_stepOne_76 (by omega) (by decide) ?_
      refine lv_aload_n hx hb dX10_stepOne_235 rfl (lv_at hl 2 rfl) ?_
      refine lv_dup hx hb dX10_stepOne_236 rfl ?_
      refine zgX10_50 (v := (zI S6 19)) hx hb hf hown P0 Z L274 rfl dX10_stepOne_237 ?_
      refine lv_iconst (v := (nI 1)) hx hb dX10_stepOne_240 (by decide) ?_
      refine lv_isub hx hb dX10_stepOne_241 ?_
      refine zpX10_50 hO hx hb hf hown P0 Z L274 dX10_stepOne_242 (fun H locs Z => ?_)
      refine lv_aload_n hx hb dX10_stepOne_245 rfl (lv_at hl 2 rfl) ?_
      refine lv_aload_n hx hb dX10_stepOne_246 rfl (lv_at hl 2 rfl) ?_
      refine zgX10_51 hx hb hf hown P0 Z L131 dX10_stepOne_247 ?_
      refine lv_aload_n hx hb dX10_stepOne_250 rfl (lv_at hl 2 rfl) ?_
      refine zgX10_50 (v := ((zI S6 19) - (nI 1))) hx hb hf hown P0 Z L274 rfl dX10_stepOne_251 ?_
      obtain ⟨v15, ev, hin, h⟩ := zld_s h
      refine zlM_31 hx hb P0 Z ev hin dX10_stepOne_254 ?_
      refine zpX10_48 hO hx hb hf hown P0 Z L271 dX10_stepOne_255 (fun H locs Z => ?_)
      refine lv_iconst (v := (nI 1)) hx hb dX10_stepOne_258 (by decide) ?_
      exact zr_z hY P0 hx hb hr hlocks (by decide) h Z dX10_stepOne_259
    · have h := zi_f q h
      refine lv_aload_n hx hb dX10_stepOne_48 rfl (lv_at hl 1 rfl) ?_
      refine lv_iconst (v := (nI 3)) hx hb dX10_stepOne_49 (by decide) ?_
      refine zpX10_53 hO hx hb hf hown P0 Z L280 dX10_stepOne_50 (fun H locs Z => ?_)
      refine lv_iconst (v := (nI 0)) hx hb dX10_stepOne_53 (by decide) ?_
      exact zr_z hY P0 hx hb hr hlocks (by decide) h Z dX10_stepOne_54
  · have h := zi_f q h
    refine lv_aload_n hx hb dX10_stepOne_10 rfl (lv_at hl 1 rfl) ?_
    refine lv_iload_n hx hb dX10_stepOne_11 rfl (lv_at hl 0 rfl) ?_
    refine lv_bipush (v := (nI 6)) hx hb dX10_stepOne_12 (by decide) ?_
    refine lv_icmp_ne (tgt := 21) hx hb dX10_stepOne_14 (by decide) (fun q => ?_) (fun q => ?_)
    · have h := zi_f q h
      refine lv_iconst (v := (nI 2)) hx hb dX10_stepOne_21 (by decide) ?_
      exact B22 (nI 2) S2 h _ _ Z ls (lv_sub hl [1] rfl)
    · have h := zi_t q h
      refine lv_iconst (v := (nI 1)) hx hb dX10_stepOne_17 (by decide) ?_
      refine lv_goto (tgt := 22) hx hb dX10_stepOne_18 (by decide) ?_
      exact B22 (nI 1) S2 h _ _ Z ls (lv_sub hl [1] rfl)

set_option maxHeartbeats 4000000 in
set_option maxRecDepth 100000 in
theorem kX10_step {g : zG} (l : Launch) (hO : zinjM g) (a1 : Int32) (S : zSt) (r : Int32) (S' : zSt) (h : fX10_step a1 S = some (r, S')) : zMi (zYM g) l yX10_step vX10_step { frames := 5, cells := 0, slots := 0, locals := 115 } ([.ref (zad g 0), .int a1] : List Value) S r S' := by
  have hY := zOkM hO
  refine Met.ofW (cc := cX10_step) (maxL := 5) (ret := (some .int)) (by decide) rfl ?_
  intro p e s m args below meth c s₁ B hml hv
  obtain ⟨rfl, hP⟩ := hv
  have hx := B.exec
  have hb := B.bytes
  have hr := B.returns
  have hts := atoms_spec (ws := vX10_step) B.pre
  have hT : ∀ w ∈ zTB, w.before ([.ref (zad g 0), .int a1] : List Value).toArray s = true := fun w h => hts w (List.mem_cons_of_mem _ h)
  have hown : s.vm.findClass RX10 = some m.cls := findClass_of_methodNamed B.named
  have hlocks := B.notSynchronized
  have P0 := hP.2
  have Z : zZ (zYM g) S s s.heap [] := ⟨hP.1, va_S.rf⟩
  have hf : ∀ w ∈ u_ws RX10 TX10 67, w.before ([.ref (zad g 0), .int a1] : List Value).toArray s = true := fun w hw => hT w (mU_X10 w hw)
  have L153 := hT _ mF_X10_153
  have L292 := hT _ mF_X10_292
  have L299 := hT _ mF_X10_299
  have L113 := hT _ mF_X10_113
  have B100 : ∀ (k32 : Int32 × Int32 × Int32 × zSt → Option (Int32 × zSt)) (K32 : (∀ (x1 : Int32) (x2 : Int32) (x3 : Int32) (S : zSt), k32 (x1, x2, x3, S) = some (r, S') → ∀ (H : Heap) (locs : List Loc), zZ (zYM g) S s H locs → ∀ ls : Array Slot, lv_has ls 5 [(0, .ref (zad g 0)), (1, .int x1), (2, .int x2), (3, .int x3)] → W p l e (headSpec vX10_step { frames := 5, cells := 0, slots := 0, locals := 115 }).room s m ([.ref (zad g 0), .int a1] : List Value).toArray below meth c H locs 0 0 (MQ below (zQi (zYM g) r S') ([.ref (zad g 0), .int a1] : List Value).toArray s 0 0 (zYM g).2.2.1) (F0 m 32 ls []))) (x1 : Int32) (x2 : Int32) (y0 : Int32) (S : zSt), fX10_step_100 k32 x1 x2 y0 S = some (r, S') → ∀ (H : Heap) (locs : List Loc), zZ (zYM g) S s H locs → ∀ ls : Array Slot, lv_has ls 5 [(0, .ref (zad g 0)), (1, .int x1), (2, .int x2)] → W p l e (headSpec vX10_step { frames := 5, cells := 0, slots := 0, locals := 115 }).room s m ([.ref (zad g 0), .int a1] : List Value).toArray below meth c H locs 0 0 (MQ below (zQi (zYM g) r S') ([.ref (zad g 0), .int a1] : List Value).toArray s 0 0 (zYM g).2.2.1) (F0 m 100 ls [.int y0]) := by
    intro k32 K32 x1 x2 y0 S h H locs Z ls hl
    unfold fX10_step_100 at h
    refine lv_istore_n (lv' := [(3, .int y0), (0, .ref (zad g 0)), (1, .int x1), (2, .int x2)]) hx hb dX10_step_100 rfl hl (by decide) rfl (fun ls hl => ?_)
    refine lv_iload_n hx hb dX10_step_101 rfl (lv_at hl 3 rfl) ?_
    refine lv_iload_n hx hb dX10_step_102 rfl (lv_at hl 0 rfl) ?_
    refine lv_if_eq (tgt := 110) hx hb dX10_step_103 (by decide) (fun q => ?_) (fun q => ?_)
    · have h := zi_t q h
      refine lv_iconst (v := (nI 0)) hx hb dX10_step_110 (by decide) ?_
      refine lv_iadd hx hb dX10_step_111 ?_
      refine lv_istore_n (lv' := [(2, .int (x2 + (nI 0))), (3, .int y0), (0, .ref (zad g 0)), (1, .int x1)]) hx hb dX10_step_112 rfl hl (by decide) rfl (fun ls hl => ?_)
      refine lv_goto (tgt := 32) hx hb dX10_step_113 (by decide) ?_
      exact K32 x1 (x2 + (nI 0)) y0 S h _ _ Z ls (lv_sub hl [2, 3, 0, 1] rfl)
    · have h := zi_f q h
      refine lv_iconst (v := (nI 1)) hx hb dX10_step_106 (by decide) ?_
      refine lv_goto (tgt := 111) hx hb dX10_step_107 (by decide) ?_
      refine lv_iadd hx hb dX10_step_111 ?_
      refine lv_istore_n (lv' := [(2, .int (x2 + (nI 1))), (3, .int y0), (0, .ref (zad g 0)), (1, .int x1)]) hx hb dX10_step_112 rfl hl (by decide) rfl (fun ls hl => ?_)
      refine lv_goto (tgt := 32) hx hb dX10_step_113 (by decide) ?_
      exact K32 x1 (x2 + (nI 1)) y0 S h _ _ Z ls (lv_sub hl [2, 3, 0, 1] rfl)
  have B99 : ∀ (k32 : Int32 × Int32 × Int32 × zSt → Option (Int32 × zSt)) (K32 : (∀ (x1 : Int32) (x2 : Int32) (x3 : Int32) (S : zSt), k32 (x1, x2, x3, S) = some (r, S') → ∀ (H : Heap) (locs : List Loc), zZ (zYM g) S s H locs → ∀ ls : Array Slot, lv_has ls 5 [(0, .ref (zad g 0)), (1, .int x1), (2, .int x2), (3, .int x3)] → W p l e (headSpec vX10_step { frames := 5, cells := 0, slots := 0, locals := 115 }).room s m ([.ref (zad g 0), .int a1] : List Value).toArray below meth c H locs 0 0 (MQ below (zQi (zYM g) r S') ([.ref (zad g 0), .int a1] : List Value).toArray s 0 0 (zYM g).2.2.1) (F0 m 32 ls []))) (x1 : Int32) (x2 : Int32) (S : zSt), fX10_step_99 k32 x1 x2 S = some (r, S') → ∀ (H : Heap) (locs : List Loc), zZ (zYM g) S s H locs → ∀ ls : Array Slot, lv_has ls 5 [(0, .ref (zad g 0)), (1, .int x1), (2, .int x2)] → W p l e (headSpec vX10_step { frames := 5, cells := 0, slots := 0, locals := 115 }).room s m ([.ref (zad g 0), .int a1] : List Value).toArray below meth c H locs 0 0 (MQ below (zQi (zYM g) r S') ([.ref (zad g 0), .int a1] : List Value).toArray s 0 0 (zYM g).2.2.1) (F0 m 99 ls []) := by
    intro k32 K32 x1 x2 S h H locs Z ls hl
    unfold fX10_step_99 at h
    refine lv_iconst (v := (nI 0)) hx hb dX10_step_99 (by decide) ?_
    exact B100 k32 K32 x1 x2 (nI 0) S h _ _ Z ls (lv_sub hl [0, 1, 2] rfl)
  have B76 : ∀ (k32 : Int32 × Int32 × Int32 × zSt → Option (Int32 × zSt)) (K32 : (∀ (x1 : Int32) (x2 : Int32) (x3 : Int32) (S : zSt), k32 (x1, x2, x3, S) = some (r, S') → ∀ (H : Heap) (locs : List Loc), zZ (zYM g) S s H locs → ∀ ls : Array Slot, lv_has ls 5 [(0, .ref (zad g 0)), (1, .int x1), (2, .int x2), (3, .int x3)] → W p l e (headSpec vX10_step { frames := 5, cells := 0, slots := 0, locals := 115 }).room s m ([.ref (zad g 0), .int a1] : List Value).toArray below meth c H locs 0 0 (MQ below (zQi (zYM g) r S') ([.ref (zad g 0), .int a1] : List Value).toArray s 0 0 (zYM g).2.2.1) (F0 m 32 ls []))) (x1 : Int32) (x2 : Int32) (y0 : Int32) (S : zSt), fX10_step_76 k32 x1 x2 y0 S = some (r, S') → ∀ (H : Heap) (locs : List Loc), zZ (zYM g) S s H locs → ∀ ls : Array Slot, lv_has ls 5 [(0, .ref (zad g 0)), (1, .int x1), (2, .int x2)] → W p l e (headSpec vX10_step { frames := 5, cells := 0, slots := 0, locals := 115 }).room s m ([.ref (zad g 0), .int a1] : List Value).toArray below meth c H locs 0 0 (MQ below (zQi (zYM g) r S') ([.ref (zad g 0), .int a1] : List Value).toArray s 0 0 (zYM g).2.2.1) (F0 m 76 ls [.int y0]) := by
    intro k32 K32 x1 x2 y0 S h H locs Z ls hl
    unfold fX10_step_76 at h
    refine lv_istore (lv' := [(4, .int y0), (0, .ref (zad g 0)), (1, .int x1), (2, .int x2)]) hx hb dX10_step_76 hl (by decide) rfl (fun ls hl => ?_)
    refine lv_iload hx hb dX10_step_78 (lv_at hl 0 rfl) ?_
    refine lv_if_ne (tgt := 99) hx hb dX10_step_80 (by decide) (fun q => ?_) (fun q => ?_)
    · have h := zi_f q h
      exact B99 k32 K32 x1 x2 S h _ _ Z ls (lv_sub hl [1, 2, 3] rfl)
    · have h := zi_t q h
      refine lv_iload_n hx hb dX10_step_83 rfl (lv_at hl 3 rfl) ?_
      refine lv_iload_n hx hb dX10_step_84 rfl (lv_at hl 2 rfl) ?_
      refine lv_icmp_ge (tgt := 99) hx hb dX10_step_85 (by decide) (fun q => ?_) (fun q => ?_)
      · have h := zi_t q h
        exact B99 k32 K32 x1 x2 S h _ _ Z ls (lv_sub hl [1, 2, 3] rfl)
      · have h := zi_f q h
        refine lv_aload_n hx hb dX10_step_88 rfl (lv_at hl 1 rfl) ?_
        obtain ⟨r8, S9, ec, h⟩ := zbd_s h
        refine zc_Vi hY P0 ⟨hx, hb, hml, hown, hT⟩ (As := []) (rest := []) (kX10_stepOne l hO  S r8 S9 ec) (cwV 0 hT (zgV mL_X10_349 mI_X10_stepOne mS_X10_stepOne mN_X10 mC_X10_stepOne) rfl rfl rfl hdnX10_stepOne ⟨Nat.le_of_ble_eq_true rfl, Nat.le_of_ble_eq_true rfl⟩) (zrecM_0 P0 Z) Z rfl hl.1 rfl (Nat.le_of_ble_eq_true rfl) dX10_step_89 (fun H locs Z => ?_)
        refine lv_if_eq (tgt := 99) hx hb dX10_step_92 (by decide) (fun q => ?_) (fun q => ?_)
        · have h := zi_t q h
          exact B99 k32 K32 x1 x2 S9 h _ _ Z ls (lv_sub hl [1, 2, 3] rfl)
        · have h := zi_f q h
          refine lv_iconst (v := (nI 1)) hx hb dX10_step_95 (by decide) ?_
          refine lv_goto (tgt := 100) hx hb dX10_step_96 (by decide) ?_
          exact B100 k32 K32 x1 x2 (nI 1) S9 h _ _ Z ls (lv_sub hl [1, 2, 3] rfl)
  have B75 : ∀ (k32 : Int32 × Int32 × Int32 × zSt → Option (Int32 × zSt)) (K32 : (∀ (x1 : Int32) (x2 : Int32) (x3 : Int32) (S : zSt), k32 (x1, x2, x3, S) = some (r, S') → ∀ (H : Heap) (locs : List Loc), zZ (zYM g) S s H locs → ∀ ls : Array Slot, lv_has ls 5 [(0, .ref (zad g 0)), (1, .int x1), (2, .int x2), (3, .int x3)] → W p l e (headSpec vX10_step { frames := 5, cells := 0, slots := 0, locals := 115 }).room s m ([.ref (zad g 0), .int a1] : List Value).toArray below meth c H locs 0 0 (MQ below (zQi (zYM g) r S') ([.ref (zad g 0), .int a1] : List Value).toArray s 0 0 (zYM g).2.2.1) (F0 m 32 ls []))) (x1 : Int32) (x2 : Int32) (S : zSt), fX10_step_75 k32 x1 x2 S = some (r, S') → ∀ (H : Heap) (locs : List Loc), zZ (zYM g) S s H locs → ∀ ls : Array Slot, lv_has ls 5 [(0, .ref (zad g 0)), (1, .int x1), (2, .int x2)] → W p l e (headSpec vX10_step { frames := 5, cells := 0, slots := 0, locals := 115 }).room s m ([.ref (zad g 0), .int a1] : List Value).toArray below meth c H locs 0 0 (MQ below (zQi (zYM g) r S') ([.ref (zad g 0), .int a1] : List Value).toArray s 0 0 (zYM g).2.2.1) (F0 m 75 ls []) := by
    intro k32 K32 x1 x2 S h H locs Z ls hl
    unfold fX10_step_75 at h
    refine lv_iconst (v := (nI 0)) hx hb dX10_step_75 (by decide) ?_
    exact B76 k32 K32 x1 x2 (nI 0) S h _ _ Z ls (lv_sub hl [0, 1, 2] rfl)
  have B32 : ∀ (n : Nat) (x1 : Int32) (x2 : Int32) (x3 : Int32) (S : zSt), fX10_step_32L n (x1, x2, x3, S) = some (r, S') → ∀ (H : Heap) (locs : List Loc), zZ (zYM g) S s H locs → ∀ ls : Array Slot, lv_has ls 5 [(0, .ref (zad g 0)), (1, .int x1), (2, .int x2), (3, .int x3)] → W p l e (headSpec vX10_step { frames := 5, cells := 0, slots := 0, locals := 115 }).room s m ([.ref (zad g 0), .int a1] : List Value).toArray below meth c H locs 0 0 (MQ below (zQi (zYM g) r S') ([.ref (zad g 0), .int a1] : List Value).toArray s 0 0 (zYM g).2.2.1) (F0 m 32 ls []) := by
    intro n
    induction n with
    | zero => intro x1 x2 x3 S h; exact absurd h (fun h => nomatch h)
    | succ n K32 =>
      intro x1 x2 x3 S h H locs Z ls hl
      have h : fX10_step_32 (fX10_step_32L n) x1 x2 x3 S = some (r, S') := h
      unfold fX10_step_32 at h
      refine lv_iload_n hx hb dX10_step_32 rfl (lv_at hl 3 rfl) ?_
      refine lv_if_eq (tgt := 116) hx hb dX10_step_33 (by decide) (fun q => ?_) (fun q => ?_)
      · have h := zi_t q h
        refine lv_iload_n hx hb dX10_step_116 rfl (lv_at hl 2 rfl) ?_
        exact zr_i hY P0 hx hb hr hlocks h Z dX10_step_117
      · have h := zi_f q h
        refine lv_iload_n hx hb dX10_step_36 rfl (lv_at hl 2 rfl) ?_
        refine lv_if_le (tgt := 75) hx hb dX10_step_37 (by decide) (fun q => ?_) (fun q => ?_)
        · have h := zi_t q h
          exact B75 (fX10_step_32L n) K32 x1 x2 S h _ _ Z ls (lv_sub hl [0, 1, 2] rfl)
        · have h := zi_f q h
          refine lv_aload_n hx hb dX10_step_40 rfl (lv_at hl 0 rfl) ?_
          refine zgX10_55 (v := (zI S 23)) hx hb hf hown P0 Z L299 rfl dX10_step_41 ?_
          refine lv_if_lt (tgt := 75) hx hb dX10_step_44 (by decide) (fun q => ?_) (fun q => ?_)
          · have h := zi_t q h
            exact B75 (fX10_step_32L n) K32 x1 x2 S h _ _ Z ls (lv_sub hl [0, 1, 2] rfl)
          · have h := zi_f q h
            refine lv_aload_n hx hb dX10_step_47 rfl (lv_at hl 0 rfl) ?_
            obtain ⟨r3, S4, ec, h⟩ := zbd_s h
            refine zc_Vi hY P0 ⟨hx, hb, hml, hown, hT⟩ (As := []) (rest := []) (kX10_look l hO  S r3 S4 ec) (cwV 0 hT (zgV mL_X10_333 mI_X10_look mS_X10_look mN_X10 mC_X10_look) rfl rfl rfl hdnX10_look ⟨Nat.le_of_ble_eq_true rfl, Nat.le_of_ble_eq_true rfl⟩) (zrecM_0 P0 Z) Z rfl hl.1 rfl (Nat.le_of_ble_eq_true rfl) dX10_step_48 (fun H locs Z => ?_)
            refine lv_iconst (v := (nI 2)) hx hb dX10_step_51 (by decide) ?_
            refine lv_icmp_ne (tgt := 75) hx hb dX10_step_52 (by decide) (fun q => ?_) (fun q => ?_)
            · have h := zi_f q h
              exact B75 (fX10_step_32L n) K32 x1 x2 S4 h _ _ Z ls (lv_sub hl [0, 1, 2] rfl)
            · have h := zi_t q h
              refine lv_aload_n hx hb dX10_step_55 rfl (lv_at hl 0 rfl) ?_
              refine zgX10_40 hx hb hf hown P0 Z L113 dX10_step_56 ?_
              refine lv_aload_n hx hb dX10_step_59 rfl (lv_at hl 0 rfl) ?_
              obtain ⟨r5, S6, ec, h⟩ := zbd_s h
              refine zc_Vi hY P0 ⟨hx, hb, hml, hown, hT⟩ (As := []) (rest := [.ref (zad g 25)]) (kX10_topNode l hO  S4 r5 S6 ec) (cwV 0 hT (zgV mL_X10_311 mI_X10_topNode mS_X10_topNode mN_X10 mC_X10_topNode) rfl rfl rfl hdnX10_topNode ⟨Nat.le_of_ble_eq_true rfl, Nat.le_of_ble_eq_true rfl⟩) (zrecM_0 P0 Z) Z rfl hl.1 rfl (Nat.le_of_ble_eq_true rfl) dX10_step_60 (fun H locs Z => ?_)
              obtain ⟨v7, ev, hin, h⟩ := zld_s h
              refine zlM_25 hx hb P0 Z ev hin dX10_step_63 ?_
              refine lv_aload_n hx hb dX10_step_64 rfl (lv_at hl 0 rfl) ?_
              refine zgX10_55 (v := (zI S6 23)) hx hb hf hown P0 Z L299 rfl dX10_step_65 ?_
              refine lv_icmp_ne (tgt := 75) hx hb dX10_step_68 (by decide) (fun q => ?_) (fun q => ?_)
              · have h := zi_f q h
                exact B75 (fX10_step_32L n) K32 x1 x2 S6 h _ _ Z ls (lv_sub hl [0, 1, 2] rfl)
              · have h := zi_t q h
                refine lv_iconst (v := (nI 1)) hx hb dX10_step_71 (by decide) ?_
                refine lv_goto (tgt := 76) hx hb dX10_step_72 (by decide) ?_
                exact B76 (fX10_step_32L n) K32 x1 x2 (nI 1) S6 h _ _ Z ls (lv_sub hl [0, 1, 2] rfl)
  have hl := lv_entry ([.ref (zad g 0), .int a1] : List Value) (n := 5) (Nat.le_of_ble_eq_true rfl)
  rw [lg_entry_eq]
  generalize (lg_sl ([.ref (zad g 0), .int a1] : List Value) ++ List.replicate (5 - (lg_sl ([.ref (zad g 0), .int a1] : List Value)).length) Slot.unset).toArray = ls at hl ⊢
  have hl : lv_has ls 5 [(0, .ref (zad g 0)), (1, .int a1)] := hl
  unfold fX10_step at h
  refine lv_aload_n hx hb dX10_step_0 rfl (lv_at hl 0 rfl) ?_
  refine lv_iconst (v := (nI 0)) hx hb dX10_step_1 (by decide) ?_
  refine zpX10_0 hO hx hb hf hown P0 Z L153 dX10_step_2 (fun H locs Z => ?_)
  refine lv_aload_n hx hb dX10_step_5 rfl (lv_at hl 0 rfl) ?_
  refine zgX10_56 (v := (zI S 24)) hx hb hf hown P0 Z L292 rfl dX10_step_6 ?_
  refine lv_if_ne (tgt := 15) hx hb dX10_step_9 (by decide) (fun q => ?_) (fun q => ?_)
  · have h := zi_f q h
    refine lv_iload_n hx hb dX10_step_15 rfl (lv_at hl 1 rfl) ?_
    refine lv_iconst (v := (nI 1)) hx hb dX10_step_16 (by decide) ?_
    refine lv_sipush (v := (nI 2000)) hx hb dX10_step_17 (by decide) ?_
    obtain ⟨r1, S2, ec, h⟩ := zbd_s h
    refine zc_Si hY P0 ⟨hx, hb, hml, hown, hT⟩ (As := [.int a1, .int (nI 1), .int (nI 2000)]) (rest := []) (kX10_in l hO a1 (nI 1) (nI 2000) (wI S 0 (nI 0)) r1 S2 ec) (va_cwS 3 hT (zgS mL_X10_160 mT_X10_in mN_X10 mC_X10_in) rfl rfl rfl hdnX10_in ⟨Nat.le_of_ble_eq_true rfl, Nat.le_of_ble_eq_true rfl⟩) Z rfl hl.1 rfl (Nat.le_of_ble_eq_true rfl) dX10_step_20 (fun H locs Z => ?_)
    refine lv_if_ne (tgt := 28) hx hb dX10_step_23 (by decide) (fun q => ?_) (fun q => ?_)
    · have h := zi_f q h
      refine lv_iconst (v := (nI 0)) hx hb dX10_step_28 (by decide) ?_
      refine lv_istore_n (lv' := [(2, .int (nI 0)), (0, .ref (zad g 0)), (1, .int a1)]) hx hb dX10_step_29 rfl hl (by decide) rfl (fun ls hl => ?_)
      refine lv_iconst (v := (nI 1)) hx hb dX10_step_30 (by decide) ?_
      refine lv_istore_n (lv' := [(3, .int (nI 1)), (2, .int (nI 0)), (0, .ref (zad g 0)), (1, .int a1)]) hx hb dX10_step_31 rfl hl (by decide) rfl (fun ls hl => ?_)
      exact B32 zFU a1 (nI 0) (nI 1) S2 h _ _ Z ls (lv_sub hl [2, 3, 1, 0] rfl)
    · have h := zi_t q h
      refine lv_iconst (v := (-1 : Int32)) hx hb dX10_step_26 (by decide) ?_
      exact zr_i hY P0 hx hb hr hlocks h Z dX10_step_27
  · have h := zi_t q h
    refine lv_bipush (v := (-3 : Int32)) hx hb dX10_step_12 (by decide) ?_
    exact zr_i hY P0 hx hb hr hlocks h Z dX10_step_14

set_option maxHeartbeats 4000000 in
set_option maxRecDepth 100000 in
theorem kX10_state {g : zG} (l : Launch) (hO : zinjM g) (S : zSt) (r : Int32) (S' : zSt) (h : fX10_state S = some (r, S')) : zMi (zYM g) l yX10_state vX10_state { frames := 0, cells := 0, slots := 0, locals := 0 } ([.ref (zad g 0)] : List Value) S r S' := by
  have hY := zOkM hO
  refine Met.ofW (cc := cX10_state) (maxL := 1) (ret := (some .int)) (by decide) rfl ?_
  intro p e s m args below meth c s₁ B hml hv
  obtain ⟨rfl, hP⟩ := hv
  have hx := B.exec
  have hb := B.bytes
  have hr := B.returns
  have hts := atoms_spec (ws := vX10_state) B.pre
  have hT : ∀ w ∈ zTB, w.before ([.ref (zad g 0)] : List Value).toArray s = true := fun w h => hts w (List.mem_cons_of_mem _ h)
  have hown : s.vm.findClass RX10 = some m.cls := findClass_of_methodNamed B.named
  have hlocks := B.notSynchronized
  have P0 := hP.2
  have Z : zZ (zYM g) S s s.heap [] := ⟨hP.1, va_S.rf⟩
  have hf : ∀ w ∈ u_ws RX10 TX10 67, w.before ([.ref (zad g 0)] : List Value).toArray s = true := fun w hw => hT w (mU_X10 w hw)
  have L153 := hT _ mF_X10_153
  have L292 := hT _ mF_X10_292
  have L280 := hT _ mF_X10_280
  have hl := lv_entry ([.ref (zad g 0)] : List Value) (n := 1) (Nat.le_of_ble_eq_true rfl)
  rw [lg_entry_eq]
  generalize (lg_sl ([.ref (zad g 0)] : List Value) ++ List.replicate (1 - (lg_sl ([.ref (zad g 0)] : List Value)).length) Slot.unset).toArray = ls at hl ⊢
  have hl : lv_has ls 1 [(0, .ref (zad g 0))] := hl
  unfold fX10_state at h
  refine lv_aload_n hx hb dX10_state_0 rfl (lv_at hl 0 rfl) ?_
  refine lv_iconst (v := (nI 0)) hx hb dX10_state_1 (by decide) ?_
  refine zpX10_0 hO hx hb hf hown P0 Z L153 dX10_state_2 (fun H locs Z => ?_)
  refine lv_aload_n hx hb dX10_state_5 rfl (lv_at hl 0 rfl) ?_
  refine zgX10_56 (v := (zI S 24)) hx hb hf hown P0 Z L292 rfl dX10_state_6 ?_
  refine lv_if_eq (tgt := 19) hx hb dX10_state_9 (by decide) (fun q => ?_) (fun q => ?_)
  · have h := zi_t q h
    refine lv_bipush (v := (-3 : Int32)) hx hb dX10_state_19 (by decide) ?_
    exact zr_i hY P0 hx hb hr hlocks h Z dX10_state_21
  · have h := zi_f q h
    refine lv_aload_n hx hb dX10_state_12 rfl (lv_at hl 0 rfl) ?_
    refine zgX10_53 (v := (zI S 21)) hx hb hf hown P0 Z L280 rfl dX10_state_13 ?_
    refine lv_goto (tgt := 21) hx hb dX10_state_16 (by decide) ?_
    exact zr_i hY P0 hx hb hr hlocks h Z dX10_state_21

set_option maxHeartbeats 4000000 in
set_option maxRecDepth 100000 in
theorem kX10_error {g : zG} (l : Launch) (hO : zinjM g) (S : zSt) (r : Int32) (S' : zSt) (h : fX10_error S = some (r, S')) : zMi (zYM g) l yX10_error vX10_error { frames := 0, cells := 0, slots := 0, locals := 0 } ([.ref (zad g 0)] : List Value) S r S' := by
  have hY := zOkM hO
  refine Met.ofW (cc := cX10_error) (maxL := 1) (ret := (some .int)) (by decide) rfl ?_
  intro p e s m args below meth c s₁ B hml hv
  obtain ⟨rfl, hP⟩ := hv
  have hx := B.exec
  have hb := B.bytes
  have hr := B.returns
  have hts := atoms_spec (ws := vX10_error) B.pre
  have hT : ∀ w ∈ zTB, w.before ([.ref (zad g 0)] : List Value).toArray s = true := fun w h => hts w (List.mem_cons_of_mem _ h)
  have hown : s.vm.findClass RX10 = some m.cls := findClass_of_methodNamed B.named
  have hlocks := B.notSynchronized
  have P0 := hP.2
  have Z : zZ (zYM g) S s s.heap [] := ⟨hP.1, va_S.rf⟩
  have hf : ∀ w ∈ u_ws RX10 TX10 67, w.before ([.ref (zad g 0)] : List Value).toArray s = true := fun w hw => hT w (mU_X10 w hw)
  have L153 := hT _ mF_X10_153
  have L292 := hT _ mF_X10_292
  have L283 := hT _ mF_X10_283
  have hl := lv_entry ([.ref (zad g 0)] : List Value) (n := 1) (Nat.le_of_ble_eq_true rfl)
  rw [lg_entry_eq]
  generalize (lg_sl ([.ref (zad g 0)] : List Value) ++ List.replicate (1 - (lg_sl ([.ref (zad g 0)] : List Value)).length) Slot.unset).toArray = ls at hl ⊢
  have hl : lv_has ls 1 [(0, .ref (zad g 0))] := hl
  unfold fX10_error at h
  refine lv_aload_n hx hb dX10_error_0 rfl (lv_at hl 0 rfl) ?_
  refine lv_iconst (v := (nI 0)) hx hb dX10_error_1 (by decide) ?_
  refine zpX10_0 hO hx hb hf hown P0 Z L153 dX10_error_2 (fun H locs Z => ?_)
  refine lv_aload_n hx hb dX10_error_5 rfl (lv_at hl 0 rfl) ?_
  refine zgX10_56 (v := (zI S 24)) hx hb hf hown P0 Z L292 rfl dX10_error_6 ?_
  refine lv_if_eq (tgt := 19) hx hb dX10_error_9 (by decide) (fun q => ?_) (fun q => ?_)
  · have h := zi_t q h
    refine lv_bipush (v := (-3 : Int32)) hx hb dX10_error_19 (by decide) ?_
    exact zr_i hY P0 hx hb hr hlocks h Z dX10_error_21
  · have h := zi_f q h
    refine lv_aload_n hx hb dX10_error_12 rfl (lv_at hl 0 rfl) ?_
    refine zgX10_54 (v := (zI S 22)) hx hb hf hown P0 Z L283 rfl dX10_error_13 ?_
    refine lv_goto (tgt := 21) hx hb dX10_error_16 (by decide) ?_
    exact zr_i hY P0 hx hb hr hlocks h Z dX10_error_21

set_option maxHeartbeats 4000000 in
set_option maxRecDepth 100000 in
theorem kX10_next {g : zG} (l : Launch) (hO : zinjM g) (S : zSt) (r : Int32) (S' : zSt) (h : fX10_next S = some (r, S')) : zMi (zYM g) l yX10_next vX10_next { frames := 4, cells := 0, slots := 0, locals := 93 } ([.ref (zad g 0)] : List Value) S r S' := by
  have hY := zOkM hO
  refine Met.ofW (cc := cX10_next) (maxL := 1) (ret := (some .int)) (by decide) rfl ?_
  intro p e s m args below meth c s₁ B hml hv
  obtain ⟨rfl, hP⟩ := hv
  have hx := B.exec
  have hb := B.bytes
  have hr := B.returns
  have hts := atoms_spec (ws := vX10_next) B.pre
  have hT : ∀ w ∈ zTB, w.before ([.ref (zad g 0)] : List Value).toArray s = true := fun w h => hts w (List.mem_cons_of_mem _ h)
  have hown : s.vm.findClass RX10 = some m.cls := findClass_of_methodNamed B.named
  have hlocks := B.notSynchronized
  have P0 := hP.2
  have Z : zZ (zYM g) S s s.heap [] := ⟨hP.1, va_S.rf⟩
  have hf : ∀ w ∈ u_ws RX10 TX10 67, w.before ([.ref (zad g 0)] : List Value).toArray s = true := fun w hw => hT w (mU_X10 w hw)
  have L153 := hT _ mF_X10_153
  have L292 := hT _ mF_X10_292
  have hl := lv_entry ([.ref (zad g 0)] : List Value) (n := 1) (Nat.le_of_ble_eq_true rfl)
  rw [lg_entry_eq]
  generalize (lg_sl ([.ref (zad g 0)] : List Value) ++ List.replicate (1 - (lg_sl ([.ref (zad g 0)] : List Value)).length) Slot.unset).toArray = ls at hl ⊢
  have hl : lv_has ls 1 [(0, .ref (zad g 0))] := hl
  unfold fX10_next at h
  refine lv_aload_n hx hb dX10_next_0 rfl (lv_at hl 0 rfl) ?_
  refine lv_iconst (v := (nI 0)) hx hb dX10_next_1 (by decide) ?_
  refine zpX10_0 hO hx hb hf hown P0 Z L153 dX10_next_2 (fun H locs Z => ?_)
  refine lv_aload_n hx hb dX10_next_5 rfl (lv_at hl 0 rfl) ?_
  refine zgX10_56 (v := (zI S 24)) hx hb hf hown P0 Z L292 rfl dX10_next_6 ?_
  refine lv_if_eq (tgt := 19) hx hb dX10_next_9 (by decide) (fun q => ?_) (fun q => ?_)
  · have h := zi_t q h
    refine lv_bipush (v := (-3 : Int32)) hx hb dX10_next_19 (by decide) ?_
    exact zr_i hY P0 hx hb hr hlocks h Z dX10_next_21
  · have h := zi_f q h
    refine lv_aload_n hx hb dX10_next_12 rfl (lv_at hl 0 rfl) ?_
    obtain ⟨r1, S2, ec, h⟩ := zbd_s h
    refine zc_Vi hY P0 ⟨hx, hb, hml, hown, hT⟩ (As := []) (rest := []) (kX10_look l hO  (wI S 0 (nI 0)) r1 S2 ec) (cwV 0 hT (zgV mL_X10_333 mI_X10_look mS_X10_look mN_X10 mC_X10_look) rfl rfl rfl hdnX10_look ⟨Nat.le_of_ble_eq_true rfl, Nat.le_of_ble_eq_true rfl⟩) (zrecM_0 P0 Z) Z rfl hl.1 rfl (Nat.le_of_ble_eq_true rfl) dX10_next_13 (fun H locs Z => ?_)
    refine lv_goto (tgt := 21) hx hb dX10_next_16 (by decide) ?_
    exact zr_i hY P0 hx hb hr hlocks h Z dX10_next_21

set_option maxHeartbeats 4000000 in
set_option maxRecDepth 100000 in
theorem kX10_stopAt {g : zG} (l : Launch) (hO : zinjM g) (a1 : Int32) (S : zSt) (r : Int32) (S' : zSt) (h : fX10_stopAt a1 S = some (r, S')) : zMi (zYM g) l yX10_stopAt vX10_stopAt { frames := 1, cells := 0, slots := 0, locals := 22 } ([.ref (zad g 0), .int a1] : List Value) S r S' := by
  have hY := zOkM hO
  refine Met.ofW (cc := cX10_stopAt) (maxL := 3) (ret := (some .int)) (by decide) rfl ?_
  intro p e s m args below meth c s₁ B hml hv
  obtain ⟨rfl, hP⟩ := hv
  have hx := B.exec
  have hb := B.bytes
  have hr := B.returns
  have hts := atoms_spec (ws := vX10_stopAt) B.pre
  have hT : ∀ w ∈ zTB, w.before ([.ref (zad g 0), .int a1] : List Value).toArray s = true := fun w h => hts w (List.mem_cons_of_mem _ h)
  have hown : s.vm.findClass RX10 = some m.cls := findClass_of_methodNamed B.named
  have hlocks := B.notSynchronized
  have P0 := hP.2
  have Z : zZ (zYM g) S s s.heap [] := ⟨hP.1, va_S.rf⟩
  have hf : ∀ w ∈ u_ws RX10 TX10 67, w.before ([.ref (zad g 0), .int a1] : List Value).toArray s = true := fun w hw => hT w (mU_X10 w hw)
  have L153 := hT _ mF_X10_153
  have L292 := hT _ mF_X10_292
  have L246 := hT _ mF_X10_246
  have L299 := hT _ mF_X10_299
  have hl := lv_entry ([.ref (zad g 0), .int a1] : List Value) (n := 3) (Nat.le_of_ble_eq_true rfl)
  rw [lg_entry_eq]
  generalize (lg_sl ([.ref (zad g 0), .int a1] : List Value) ++ List.replicate (3 - (lg_sl ([.ref (zad g 0), .int a1] : List Value)).length) Slot.unset).toArray = ls at hl ⊢
  have hl : lv_has ls 3 [(0, .ref (zad g 0)), (1, .int a1)] := hl
  unfold fX10_stopAt at h
  refine lv_aload_n hx hb dX10_stopAt_0 rfl (lv_at hl 0 rfl) ?_
  refine lv_iconst (v := (nI 0)) hx hb dX10_stopAt_1 (by decide) ?_
  refine zpX10_0 hO hx hb hf hown P0 Z L153 dX10_stopAt_2 (fun H locs Z => ?_)
  refine lv_aload_n hx hb dX10_stopAt_5 rfl (lv_at hl 0 rfl) ?_
  refine zgX10_56 (v := (zI S 24)) hx hb hf hown P0 Z L292 rfl dX10_stopAt_6 ?_
  refine lv_if_ne (tgt := 15) hx hb dX10_stopAt_9 (by decide) (fun q => ?_) (fun q => ?_)
  · have h := zi_f q h
    refine lv_iload_n hx hb dX10_stopAt_15 rfl (lv_at hl 1 rfl) ?_
    refine lv_iconst (v := (-1 : Int32)) hx hb dX10_stopAt_16 (by decide) ?_
    refine lv_aload_n hx hb dX10_stopAt_17 rfl (lv_at hl 0 rfl) ?_
    refine zgX10_11 (v := (zI S 8)) hx hb hf hown P0 Z L246 rfl dX10_stopAt_18 ?_
    refine lv_iconst (v := (nI 1)) hx hb dX10_stopAt_21 (by decide) ?_
    refine lv_isub hx hb dX10_stopAt_22 ?_
    obtain ⟨r1, S2, ec, h⟩ := zbd_s h
    refine zc_Si hY P0 ⟨hx, hb, hml, hown, hT⟩ (As := [.int a1, .int (-1 : Int32), .int ((zI S 8) - (nI 1))]) (rest := []) (kX10_in l hO a1 (-1 : Int32) ((zI S 8) - (nI 1)) (wI S 0 (nI 0)) r1 S2 ec) (va_cwS 3 hT (zgS mL_X10_160 mT_X10_in mN_X10 mC_X10_in) rfl rfl rfl hdnX10_in ⟨Nat.le_of_ble_eq_true rfl, Nat.le_of_ble_eq_true rfl⟩) Z rfl hl.1 rfl (Nat.le_of_ble_eq_true rfl) dX10_stopAt_23 (fun H locs Z => ?_)
    refine lv_if_ne (tgt := 31) hx hb dX10_stopAt_26 (by decide) (fun q => ?_) (fun q => ?_)
    · have h := zi_f q h
      refine lv_aload_n hx hb dX10_stopAt_31 rfl (lv_at hl 0 rfl) ?_
      refine zgX10_55 (v := (zI S2 23)) hx hb hf hown P0 Z L299 rfl dX10_stopAt_32 ?_
      refine lv_istore_n (lv' := [(2, .int (zI S2 23)), (0, .ref (zad g 0)), (1, .int a1)]) hx hb dX10_stopAt_35 rfl hl (by decide) rfl (fun ls hl => ?_)
      refine lv_aload_n hx hb dX10_stopAt_36 rfl (lv_at hl 1 rfl) ?_
      refine lv_iload_n hx hb dX10_stopAt_37 rfl (lv_at hl 2 rfl) ?_
      refine zpX10_55 hO hx hb hf hown P0 Z L299 dX10_stopAt_38 (fun H locs Z => ?_)
      refine lv_iload_n hx hb dX10_stopAt_41 rfl (lv_at hl 0 rfl) ?_
      exact zr_i hY P0 hx hb hr hlocks h Z dX10_stopAt_42
    · have h := zi_t q h
      refine lv_iconst (v := (-1 : Int32)) hx hb dX10_stopAt_29 (by decide) ?_
      exact zr_i hY P0 hx hb hr hlocks h Z dX10_stopAt_30
  · have h := zi_t q h
    refine lv_bipush (v := (-3 : Int32)) hx hb dX10_stopAt_12 (by decide) ?_
    exact zr_i hY P0 hx hb hr hlocks h Z dX10_stopAt_14

set_option maxHeartbeats 4000000 in
set_option maxRecDepth 100000 in
theorem kX10_fields {g : zG} (l : Launch) (hO : zinjM g) (a0 : Int32) (S : zSt) (r : Int32) (S' : zSt) (h : fX10_fields a0 S = some (r, S')) : zMi (zYM g) l yX10_fields vX10_fields { frames := 0, cells := 0, slots := 0, locals := 0 } ([.int a0] : List Value) S r S' := by
  have hY := zOkM hO
  refine Met.ofW (cc := cX10_fields) (maxL := 1) (ret := (some .int)) (by decide) rfl ?_
  intro p e s m args below meth c s₁ B hml hv
  obtain ⟨rfl, hP⟩ := hv
  have hx := B.exec
  have hb := B.bytes
  have hr := B.returns
  have hts := atoms_spec (ws := vX10_fields) B.pre
  have hT : ∀ w ∈ zTB, w.before ([.int a0] : List Value).toArray s = true := fun w h => hts w (List.mem_cons_of_mem _ h)
  have hown : s.vm.findClass RX10 = some m.cls := findClass_of_methodNamed B.named
  have hlocks := B.notSynchronized
  have P0 := hP.2
  have Z : zZ (zYM g) S s s.heap [] := ⟨hP.1, va_S.rf⟩
  have hl := lv_entry ([.int a0] : List Value) (n := 1) (Nat.le_of_ble_eq_true rfl)
  rw [lg_entry_eq]
  generalize (lg_sl ([.int a0] : List Value) ++ List.replicate (1 - (lg_sl ([.int a0] : List Value)).length) Slot.unset).toArray = ls at hl ⊢
  have hl : lv_has ls 1 [(0, .int a0)] := hl
  unfold fX10_fields at h
  refine lv_iload_n hx hb dX10_fields_0 rfl (lv_at hl 0 rfl) ?_
  refine lv_iconst (v := (nI 1)) hx hb dX10_fields_1 (by decide) ?_
  refine lv_icmp_eq (tgt := 10) hx hb dX10_fields_2 (by decide) (fun q => ?_) (fun q => ?_)
  · have h := zi_t q h
    refine lv_iconst (v := (nI 2)) hx hb dX10_fields_10 (by decide) ?_
    refine lv_goto (tgt := 25) hx hb dX10_fields_11 (by decide) ?_
    exact zr_i hY P0 hx hb hr hlocks h Z dX10_fields_25
  · have h := zi_f q h
    refine lv_iload_n hx hb dX10_fields_5 rfl (lv_at hl 0 rfl) ?_
    refine lv_iconst (v := (nI 4)) hx hb dX10_fields_6 (by decide) ?_
    refine lv_icmp_ne (tgt := 14) hx hb dX10_fields_7 (by decide) (fun q => ?_) (fun q => ?_)
    · have h := zi_f q h
      refine lv_iload_n hx hb dX10_fields_14 rfl (lv_at hl 0 rfl) ?_
      refine lv_bipush (v := (nI 6)) hx hb dX10_fields_15 (by decide) ?_
      refine lv_icmp_ne (tgt := 24) hx hb dX10_fields_17 (by decide) (fun q => ?_) (fun q => ?_)
      · have h := zi_f q h
        refine lv_iconst (v := (nI 0)) hx hb dX10_fields_24 (by decide) ?_
        exact zr_i hY P0 hx hb hr hlocks h Z dX10_fields_25
      · have h := zi_t q h
        refine lv_iconst (v := (nI 1)) hx hb dX10_fields_20 (by decide) ?_
        refine lv_goto (tgt := 25) hx hb dX10_fields_21 (by decide) ?_
        exact zr_i hY P0 hx hb hr hlocks h Z dX10_fields_25
    · have h := zi_t q h
      refine lv_iconst (v := (nI 2)) hx hb dX10_fields_10 (by decide) ?_
      refine lv_goto (tgt := 25) hx hb dX10_fields_11 (by decide) ?_
      exact zr_i hY P0 hx hb hr hlocks h Z dX10_fields_25

set_option maxHeartbeats 4000000 in
set_option maxRecDepth 100000 in
theorem kX10_keep {g : zG} (l : Launch) (hO : zinjM g) (a1 : Int32) (S : zSt) (r : Unit) (S' : zSt) (h : fX10_keep a1 S = some (r, S')) : zMv (zYM g) l yX10_keep vX10_keep { frames := 0, cells := 0, slots := 0, locals := 0 } ([.ref (zad g 0), .int a1] : List Value) S S' := by
  have hY := zOkM hO
  refine Met.ofW (cc := cX10_keep) (maxL := 2) (ret := none) (by decide) rfl ?_
  intro p e s m args below meth c s₁ B hml hv
  obtain ⟨rfl, hP⟩ := hv
  have hx := B.exec
  have hb := B.bytes
  have hr := B.returns
  have hts := atoms_spec (ws := vX10_keep) B.pre
  have hT : ∀ w ∈ zTB, w.before ([.ref (zad g 0), .int a1] : List Value).toArray s = true := fun w h => hts w (List.mem_cons_of_mem _ h)
  have hown : s.vm.findClass RX10 = some m.cls := findClass_of_methodNamed B.named
  have hlocks := B.notSynchronized
  have P0 := hP.2
  have Z : zZ (zYM g) S s s.heap [] := ⟨hP.1, va_S.rf⟩
  have hf : ∀ w ∈ u_ws RX10 TX10 67, w.before ([.ref (zad g 0), .int a1] : List Value).toArray s = true := fun w hw => hT w (mU_X10 w hw)
  have L143 := hT _ mF_X10_143
  have L147 := hT _ mF_X10_147
  have L356 := hT _ mF_X10_356
  have hl := lv_entry ([.ref (zad g 0), .int a1] : List Value) (n := 2) (Nat.le_of_ble_eq_true rfl)
  rw [lg_entry_eq]
  generalize (lg_sl ([.ref (zad g 0), .int a1] : List Value) ++ List.replicate (2 - (lg_sl ([.ref (zad g 0), .int a1] : List Value)).length) Slot.unset).toArray = ls at hl ⊢
  have hl : lv_has ls 2 [(0, .ref (zad g 0)), (1, .int a1)] := hl
  unfold fX10_keep at h
  refine lv_aload_n hx hb dX10_keep_0 rfl (lv_at hl 0 rfl) ?_
  refine zgX10_63 hx hb hf hown P0 Z L143 dX10_keep_1 ?_
  refine lv_iload_n hx hb dX10_keep_4 rfl (lv_at hl 1 rfl) ?_
  obtain ⟨v1, ev, hin, h⟩ := zld_s h
  refine zlM_35 hx hb P0 Z ev hin dX10_keep_5 ?_
  refine lv_if_ne (tgt := 36) hx hb dX10_keep_6 (by decide) (fun q => ?_) (fun q => ?_)
  · have h := zi_f q h
    exact zr_v hY P0 hx hb hr hlocks h Z dX10_keep_36
  · have h := zi_t q h
    refine lv_aload_n hx hb dX10_keep_9 rfl (lv_at hl 0 rfl) ?_
    refine zgX10_63 hx hb hf hown P0 Z L143 dX10_keep_10 ?_
    refine lv_iload_n hx hb dX10_keep_13 rfl (lv_at hl 1 rfl) ?_
    refine lv_iconst (v := (nI 1)) hx hb dX10_keep_14 (by decide) ?_
    obtain ⟨hin, h⟩ := zck_s h
    refine zsM_35 hO hx hb P0 Z hin dX10_keep_15 (fun H locs Z => ?_)
    refine lv_aload_n hx hb dX10_keep_16 rfl (lv_at hl 0 rfl) ?_
    refine zgX10_64 hx hb hf hown P0 Z L147 dX10_keep_17 ?_
    refine lv_aload_n hx hb dX10_keep_20 rfl (lv_at hl 0 rfl) ?_
    refine zgX10_65 (v := (zI S 28)) hx hb hf hown P0 Z L356 rfl dX10_keep_21 ?_
    refine lv_iload_n hx hb dX10_keep_24 rfl (lv_at hl 1 rfl) ?_
    obtain ⟨hin, h⟩ := zck_s h
    refine zsM_36 hO hx hb P0 Z hin dX10_keep_25 (fun H locs Z => ?_)
    refine lv_aload_n hx hb dX10_keep_26 rfl (lv_at hl 0 rfl) ?_
    refine lv_dup hx hb dX10_keep_27 rfl ?_
    refine zgX10_65 (v := (zI S 28)) hx hb hf hown P0 Z L356 rfl dX10_keep_28 ?_
    refine lv_iconst (v := (nI 1)) hx hb dX10_keep_31 (by decide) ?_
    refine lv_iadd hx hb dX10_keep_32 ?_
    refine zpX10_65 hO hx hb hf hown P0 Z L356 dX10_keep_33 (fun H locs Z => ?_)
    exact zr_v hY P0 hx hb hr hlocks h Z dX10_keep_36

set_option maxHeartbeats 4000000 in
set_option maxRecDepth 100000 in
theorem kX10_findKept {g : zG} (l : Launch) (hO : zinjM g) (S : zSt) (r : Int32) (S' : zSt) (h : fX10_findKept S = some (r, S')) : zMi (zYM g) l yX10_findKept vX10_findKept { frames := 1, cells := 0, slots := 0, locals := 21 } ([.ref (zad g 0)] : List Value) S r S' := by
  have hY := zOkM hO
  refine Met.ofW (cc := cX10_findKept) (maxL := 3) (ret := (some .int)) (by decide) rfl ?_
  intro p e s m args below meth c s₁ B hml hv
  obtain ⟨rfl, hP⟩ := hv
  have hx := B.exec
  have hb := B.bytes
  have hr := B.returns
  have hts := atoms_spec (ws := vX10_findKept) B.pre
  have hT : ∀ w ∈ zTB, w.before ([.ref (zad g 0)] : List Value).toArray s = true := fun w h => hts w (List.mem_cons_of_mem _ h)
  have hown : s.vm.findClass RX10 = some m.cls := findClass_of_methodNamed B.named
  have hlocks := B.notSynchronized
  have P0 := hP.2
  have Z : zZ (zYM g) S s s.heap [] := ⟨hP.1, va_S.rf⟩
  have hf : ∀ w ∈ u_ws RX10 TX10 67, w.before ([.ref (zad g 0)] : List Value).toArray s = true := fun w hw => hT w (mU_X10 w hw)
  have L356 := hT _ mF_X10_356
  have L143 := hT _ mF_X10_143
  have L246 := hT _ mF_X10_246
  have L271 := hT _ mF_X10_271
  have L128 := hT _ mF_X10_128
  have L147 := hT _ mF_X10_147
  have L110 := hT _ mF_X10_110
  have L113 := hT _ mF_X10_113
  have L116 := hT _ mF_X10_116
  have B113 : ∀ (k76 : Int32 × zSt → Option (Int32 × zSt)) (K76 : (∀ (x1 : Int32) (S : zSt), k76 (x1, S) = some (r, S') → ∀ (H : Heap) (locs : List Loc), zZ (zYM g) S s H locs → ∀ ls : Array Slot, lv_has ls 3 [(0, .ref (zad g 0)), (1, .int x1)] → W p l e (headSpec vX10_findKept { frames := 1, cells := 0, slots := 0, locals := 21 }).room s m ([.ref (zad g 0)] : List Value).toArray below meth c H locs 0 0 (MQ below (zQi (zYM g) r S') ([.ref (zad g 0)] : List Value).toArray s 0 0 (zYM g).2.2.1) (F0 m 76 ls []))) (x1 : Int32) (x2 : Int32) (S : zSt), fX10_findKept_113 k76 x1 x2 S = some (r, S') → ∀ (H : Heap) (locs : List Loc), zZ (zYM g) S s H locs → ∀ ls : Array Slot, lv_has ls 3 [(0, .ref (zad g 0)), (1, .int x1), (2, .int x2)] → W p l e (headSpec vX10_findKept { frames := 1, cells := 0, slots := 0, locals := 21 }).room s m ([.ref (zad g 0)] : List Value).toArray below meth c H locs 0 0 (MQ below (zQi (zYM g) r S') ([.ref (zad g 0)] : List Value).toArray s 0 0 (zYM g).2.2.1) (F0 m 113 ls []) := by
    intro k76 K76 x1 x2 S h H locs Z ls hl
    unfold fX10_findKept_113 at h
    refine lv_aload_n hx hb dX10_findKept_113 rfl (lv_at hl 0 rfl) ?_
    refine zgX10_39 hx hb hf hown P0 Z L110 dX10_findKept_114 ?_
    refine lv_iload_n hx hb dX10_findKept_117 rfl (lv_at hl 2 rfl) ?_
    obtain ⟨v13, ev, hin, h⟩ := zld_s h
    refine zlM_24 hx hb P0 Z ev hin dX10_findKept_118 ?_
    obtain ⟨r14, S15, ec, h⟩ := zbd_s h
    refine zc_Si hY P0 ⟨hx, hb, hml, hown, hT⟩ (As := [.int v13]) (rest := []) (kX10_fields l hO v13 S r14 S15 ec) (va_cwS 1 hT (zgS mL_X10_362 mT_X10_fields mN_X10 mC_X10_fields) rfl rfl rfl hdnX10_fields ⟨Nat.le_of_ble_eq_true rfl, Nat.le_of_ble_eq_true rfl⟩) Z rfl hl.1 rfl (Nat.le_of_ble_eq_true rfl) dX10_findKept_119 (fun H locs Z => ?_)
    refine lv_iconst (v := (nI 1)) hx hb dX10_findKept_122 (by decide) ?_
    refine lv_icmp_le (tgt := 136) hx hb dX10_findKept_123 (by decide) (fun q => ?_) (fun q => ?_)
    · have h := zi_t q h
      refine lv_iinc (v := (x1 + (nI 1))) (lv' := [(1, .int (x1 + (nI 1))), (0, .ref (zad g 0)), (2, .int x2)]) hx hb dX10_findKept_136 hl (k := 1) rfl rfl (by decide) rfl (fun ls hl => ?_)
      refine lv_goto (tgt := 76) hx hb dX10_findKept_139 (by decide) ?_
      exact K76 (x1 + (nI 1)) S15 h _ _ Z ls (lv_sub hl [1, 0] rfl)
    · have h := zi_f q h
      refine lv_aload_n hx hb dX10_findKept_126 rfl (lv_at hl 0 rfl) ?_
      refine lv_aload_n hx hb dX10_findKept_127 rfl (lv_at hl 0 rfl) ?_
      refine zgX10_41 hx hb hf hown P0 Z L116 dX10_findKept_128 ?_
      refine lv_iload_n hx hb dX10_findKept_131 rfl (lv_at hl 2 rfl) ?_
      obtain ⟨v16, ev, hin, h⟩ := zld_s h
      refine zlM_26 hx hb P0 Z ev hin dX10_findKept_132 ?_
      obtain ⟨r17, S18, ec, h⟩ := zbd_s h
      refine zc_Vv hY P0 ⟨hx, hb, hml, hown, hT⟩ (As := [.int v16]) (rest := []) (kX10_keep l hO v16 S15 r17 S18 ec) (cwV 1 hT (zgV mL_X10_359 mI_X10_keep mS_X10_keep mN_X10 mC_X10_keep) rfl rfl rfl hdnX10_keep ⟨Nat.le_of_ble_eq_true rfl, Nat.le_of_ble_eq_true rfl⟩) (zrecM_0 P0 Z) Z rfl hl.1 rfl (Nat.le_of_ble_eq_true rfl) dX10_findKept_133 (fun H locs Z => ?_)
      refine lv_iinc (v := (x1 + (nI 1))) (lv' := [(1, .int (x1 + (nI 1))), (0, .ref (zad g 0)), (2, .int x2)]) hx hb dX10_findKept_136 hl (k := 1) rfl rfl (by decide) rfl (fun ls hl => ?_)
      refine lv_goto (tgt := 76) hx hb dX10_findKept_139 (by decide) ?_
      exact K76 (x1 + (nI 1)) S18 h _ _ Z ls (lv_sub hl [1, 0] rfl)
  have B76 : ∀ (n : Nat) (x1 : Int32) (S : zSt), fX10_findKept_76L n (x1, S) = some (r, S') → ∀ (H : Heap) (locs : List Loc), zZ (zYM g) S s H locs → ∀ ls : Array Slot, lv_has ls 3 [(0, .ref (zad g 0)), (1, .int x1)] → W p l e (headSpec vX10_findKept { frames := 1, cells := 0, slots := 0, locals := 21 }).room s m ([.ref (zad g 0)] : List Value).toArray below meth c H locs 0 0 (MQ below (zQi (zYM g) r S') ([.ref (zad g 0)] : List Value).toArray s 0 0 (zYM g).2.2.1) (F0 m 76 ls []) := by
    intro n
    induction n with
    | zero => intro x1 S h; exact absurd h (fun h => nomatch h)
    | succ n K76 =>
      intro x1 S h H locs Z ls hl
      have h : fX10_findKept_76 (fX10_findKept_76L n) x1 S = some (r, S') := h
      unfold fX10_findKept_76 at h
      refine lv_iload_n hx hb dX10_findKept_76 rfl (lv_at hl 1 rfl) ?_
      refine lv_aload_n hx hb dX10_findKept_77 rfl (lv_at hl 0 rfl) ?_
      refine zgX10_65 (v := (zI S 28)) hx hb hf hown P0 Z L356 rfl dX10_findKept_78 ?_
      refine lv_icmp_ge (tgt := 142) hx hb dX10_findKept_81 (by decide) (fun q => ?_) (fun q => ?_)
      · have h := zi_t q h
        refine lv_aload_n hx hb dX10_findKept_142 rfl (lv_at hl 0 rfl) ?_
        refine zgX10_65 (v := (zI S 28)) hx hb hf hown P0 Z L356 rfl dX10_findKept_143 ?_
        exact zr_i hY P0 hx hb hr hlocks h Z dX10_findKept_146
      · have h := zi_f q h
        refine lv_aload_n hx hb dX10_findKept_84 rfl (lv_at hl 0 rfl) ?_
        refine zgX10_64 hx hb hf hown P0 Z L147 dX10_findKept_85 ?_
        refine lv_iload_n hx hb dX10_findKept_88 rfl (lv_at hl 1 rfl) ?_
        obtain ⟨v6, ev, hin, h⟩ := zld_s h
        refine zlM_36 hx hb P0 Z ev hin dX10_findKept_89 ?_
        refine lv_istore_n (lv' := [(2, .int v6), (0, .ref (zad g 0)), (1, .int x1)]) hx hb dX10_findKept_90 rfl hl (by decide) rfl (fun ls hl => ?_)
        refine lv_aload_n hx hb dX10_findKept_91 rfl (lv_at hl 1 rfl) ?_
        refine zgX10_39 hx hb hf hown P0 Z L110 dX10_findKept_92 ?_
        refine lv_iload_n hx hb dX10_findKept_95 rfl (lv_at hl 0 rfl) ?_
        obtain ⟨v7, ev, hin, h⟩ := zld_s h
        refine zlM_24 hx hb P0 Z ev hin dX10_findKept_96 ?_
        obtain ⟨r8, S9, ec, h⟩ := zbd_s h
        refine zc_Si hY P0 ⟨hx, hb, hml, hown, hT⟩ (As := [.int v7]) (rest := []) (kX10_fields l hO v7 S r8 S9 ec) (va_cwS 1 hT (zgS mL_X10_362 mT_X10_fields mN_X10 mC_X10_fields) rfl rfl rfl hdnX10_fields ⟨Nat.le_of_ble_eq_true rfl, Nat.le_of_ble_eq_true rfl⟩) Z rfl hl.1 rfl (Nat.le_of_ble_eq_true rfl) dX10_findKept_97 (fun H locs Z => ?_)
        refine lv_if_le (tgt := 113) hx hb dX10_findKept_100 (by decide) (fun q => ?_) (fun q => ?_)
        · have h := zi_t q h
          exact B113 (fX10_findKept_76L n) K76 x1 v6 S9 h _ _ Z ls (lv_sub hl [1, 2, 0] rfl)
        · have h := zi_f q h
          refine lv_aload_n hx hb dX10_findKept_103 rfl (lv_at hl 1 rfl) ?_
          refine lv_aload_n hx hb dX10_findKept_104 rfl (lv_at hl 1 rfl) ?_
          refine zgX10_40 hx hb hf hown P0 Z L113 dX10_findKept_105 ?_
          refine lv_iload_n hx hb dX10_findKept_108 rfl (lv_at hl 0 rfl) ?_
          obtain ⟨v10, ev, hin, h⟩ := zld_s h
          refine zlM_25 hx hb P0 Z ev hin dX10_findKept_109 ?_
          obtain ⟨r11, S12, ec, h⟩ := zbd_s h
          refine zc_Vv hY P0 ⟨hx, hb, hml, hown, hT⟩ (As := [.int v10]) (rest := []) (kX10_keep l hO v10 S9 r11 S12 ec) (cwV 1 hT (zgV mL_X10_359 mI_X10_keep mS_X10_keep mN_X10 mC_X10_keep) rfl rfl rfl hdnX10_keep ⟨Nat.le_of_ble_eq_true rfl, Nat.le_of_ble_eq_true rfl⟩) (zrecM_0 P0 Z) Z rfl hl.1 rfl (Nat.le_of_ble_eq_true rfl) dX10_findKept_110 (fun H locs Z => ?_)
          exact B113 (fX10_findKept_76L n) K76 x1 v6 S12 h _ _ Z ls (lv_sub hl [1, 2, 0] rfl)
  have B50 : ∀ (n : Nat) (x1 : Int32) (S : zSt), fX10_findKept_50L n (x1, S) = some (r, S') → ∀ (H : Heap) (locs : List Loc), zZ (zYM g) S s H locs → ∀ ls : Array Slot, lv_has ls 3 [(0, .ref (zad g 0)), (1, .int x1)] → W p l e (headSpec vX10_findKept { frames := 1, cells := 0, slots := 0, locals := 21 }).room s m ([.ref (zad g 0)] : List Value).toArray below meth c H locs 0 0 (MQ below (zQi (zYM g) r S') ([.ref (zad g 0)] : List Value).toArray s 0 0 (zYM g).2.2.1) (F0 m 50 ls []) := by
    intro n
    induction n with
    | zero => intro x1 S h; exact absurd h (fun h => nomatch h)
    | succ n K50 =>
      intro x1 S h H locs Z ls hl
      have h : fX10_findKept_50 (fX10_findKept_50L n) x1 S = some (r, S') := h
      unfold fX10_findKept_50 at h
      refine lv_iload_n hx hb dX10_findKept_50 rfl (lv_at hl 1 rfl) ?_
      refine lv_aload_n hx hb dX10_findKept_51 rfl (lv_at hl 0 rfl) ?_
      refine zgX10_48 (v := (zI S 18)) hx hb hf hown P0 Z L271 rfl dX10_findKept_52 ?_
      refine lv_icmp_ge (tgt := 74) hx hb dX10_findKept_55 (by decide) (fun q => ?_) (fun q => ?_)
      · have h := zi_t q h
        refine lv_iconst (v := (nI 0)) hx hb dX10_findKept_74 (by decide) ?_
        refine lv_istore_n (lv' := [(1, .int (nI 0)), (0, .ref (zad g 0))]) hx hb dX10_findKept_75 rfl hl (by decide) rfl (fun ls hl => ?_)
        exact B76 zFU (nI 0) S h _ _ Z ls (lv_sub hl [1, 0] rfl)
      · have h := zi_f q h
        refine lv_aload_n hx hb dX10_findKept_58 rfl (lv_at hl 0 rfl) ?_
        refine lv_aload_n hx hb dX10_findKept_59 rfl (lv_at hl 0 rfl) ?_
        refine zgX10_49 hx hb hf hown P0 Z L128 dX10_findKept_60 ?_
        refine lv_iload_n hx hb dX10_findKept_63 rfl (lv_at hl 1 rfl) ?_
        obtain ⟨v3, ev, hin, h⟩ := zld_s h
        refine zlM_30 hx hb P0 Z ev hin dX10_findKept_64 ?_
        obtain ⟨r4, S5, ec, h⟩ := zbd_s h
        refine zc_Vv hY P0 ⟨hx, hb, hml, hown, hT⟩ (As := [.int v3]) (rest := []) (kX10_keep l hO v3 S r4 S5 ec) (cwV 1 hT (zgV mL_X10_359 mI_X10_keep mS_X10_keep mN_X10 mC_X10_keep) rfl rfl rfl hdnX10_keep ⟨Nat.le_of_ble_eq_true rfl, Nat.le_of_ble_eq_true rfl⟩) (zrecM_0 P0 Z) Z rfl hl.1 rfl (Nat.le_of_ble_eq_true rfl) dX10_findKept_65 (fun H locs Z => ?_)
        refine lv_iinc (v := (x1 + (nI 1))) (lv' := [(1, .int (x1 + (nI 1))), (0, .ref (zad g 0))]) hx hb dX10_findKept_68 hl (k := 1) rfl rfl (by decide) rfl (fun ls hl => ?_)
        refine lv_goto (tgt := 50) hx hb dX10_findKept_71 (by decide) ?_
        exact K50 (x1 + (nI 1)) S5 h _ _ Z ls (lv_sub hl [1, 0] rfl)
  have B29 : ∀ (n : Nat) (x1 : Int32) (S : zSt), fX10_findKept_29L n (x1, S) = some (r, S') → ∀ (H : Heap) (locs : List Loc), zZ (zYM g) S s H locs → ∀ ls : Array Slot, lv_has ls 3 [(0, .ref (zad g 0)), (1, .int x1)] → W p l e (headSpec vX10_findKept { frames := 1, cells := 0, slots := 0, locals := 21 }).room s m ([.ref (zad g 0)] : List Value).toArray below meth c H locs 0 0 (MQ below (zQi (zYM g) r S') ([.ref (zad g 0)] : List Value).toArray s 0 0 (zYM g).2.2.1) (F0 m 29 ls []) := by
    intro n
    induction n with
    | zero => intro x1 S h; exact absurd h (fun h => nomatch h)
    | succ n K29 =>
      intro x1 S h H locs Z ls hl
      have h : fX10_findKept_29 (fX10_findKept_29L n) x1 S = some (r, S') := h
      unfold fX10_findKept_29 at h
      refine lv_iload_n hx hb dX10_findKept_29 rfl (lv_at hl 1 rfl) ?_
      refine lv_aload_n hx hb dX10_findKept_30 rfl (lv_at hl 0 rfl) ?_
      refine zgX10_11 (v := (zI S 8)) hx hb hf hown P0 Z L246 rfl dX10_findKept_31 ?_
      refine lv_icmp_ge (tgt := 48) hx hb dX10_findKept_34 (by decide) (fun q => ?_) (fun q => ?_)
      · have h := zi_t q h
        refine lv_iconst (v := (nI 0)) hx hb dX10_findKept_48 (by decide) ?_
        refine lv_istore_n (lv' := [(1, .int (nI 0)), (0, .ref (zad g 0))]) hx hb dX10_findKept_49 rfl hl (by decide) rfl (fun ls hl => ?_)
        exact B50 zFU (nI 0) S h _ _ Z ls (lv_sub hl [1, 0] rfl)
      · have h := zi_f q h
        refine lv_aload_n hx hb dX10_findKept_37 rfl (lv_at hl 0 rfl) ?_
        refine lv_iload_n hx hb dX10_findKept_38 rfl (lv_at hl 1 rfl) ?_
        obtain ⟨r1, S2, ec, h⟩ := zbd_s h
        refine zc_Vv hY P0 ⟨hx, hb, hml, hown, hT⟩ (As := [.int x1]) (rest := []) (kX10_keep l hO x1 S r1 S2 ec) (cwV 1 hT (zgV mL_X10_359 mI_X10_keep mS_X10_keep mN_X10 mC_X10_keep) rfl rfl rfl hdnX10_keep ⟨Nat.le_of_ble_eq_true rfl, Nat.le_of_ble_eq_true rfl⟩) (zrecM_0 P0 Z) Z rfl hl.1 rfl (Nat.le_of_ble_eq_true rfl) dX10_findKept_39 (fun H locs Z => ?_)
        refine lv_iinc (v := (x1 + (nI 1))) (lv' := [(1, .int (x1 + (nI 1))), (0, .ref (zad g 0))]) hx hb dX10_findKept_42 hl (k := 1) rfl rfl (by decide) rfl (fun ls hl => ?_)
        refine lv_goto (tgt := 29) hx hb dX10_findKept_45 (by decide) ?_
        exact K29 (x1 + (nI 1)) S2 h _ _ Z ls (lv_sub hl [1, 0] rfl)
  have B2 : ∀ (n : Nat) (x1 : Int32) (S : zSt), fX10_findKept_2L n (x1, S) = some (r, S') → ∀ (H : Heap) (locs : List Loc), zZ (zYM g) S s H locs → ∀ ls : Array Slot, lv_has ls 3 [(0, .ref (zad g 0)), (1, .int x1)] → W p l e (headSpec vX10_findKept { frames := 1, cells := 0, slots := 0, locals := 21 }).room s m ([.ref (zad g 0)] : List Value).toArray below meth c H locs 0 0 (MQ below (zQi (zYM g) r S') ([.ref (zad g 0)] : List Value).toArray s 0 0 (zYM g).2.2.1) (F0 m 2 ls []) := by
    intro n
    induction n with
    | zero => intro x1 S h; exact absurd h (fun h => nomatch h)
    | succ n K2 =>
      intro x1 S h H locs Z ls hl
      have h : fX10_findKept_2 (fX10_findKept_2L n) x1 S = some (r, S') := h
      unfold fX10_findKept_2 at h
      refine lv_iload_n hx hb dX10_findKept_2 rfl (lv_at hl 1 rfl) ?_
      refine lv_sipush (v := (nI 400)) hx hb dX10_findKept_3 (by decide) ?_
      refine lv_icmp_ge (tgt := 22) hx hb dX10_findKept_6 (by decide) (fun q => ?_) (fun q => ?_)
      · have h := zi_t q h
        refine lv_aload_n hx hb dX10_findKept_22 rfl (lv_at hl 0 rfl) ?_
        refine lv_iconst (v := (nI 0)) hx hb dX10_findKept_23 (by decide) ?_
        refine zpX10_65 hO hx hb hf hown P0 Z L356 dX10_findKept_24 (fun H locs Z => ?_)
        refine lv_iconst (v := (nI 0)) hx hb dX10_findKept_27 (by decide) ?_
        refine lv_istore_n (lv' := [(1, .int (nI 0)), (0, .ref (zad g 0))]) hx hb dX10_findKept_28 rfl hl (by decide) rfl (fun ls hl => ?_)
        exact B29 zFU (nI 0) (wI S 28 (nI 0)) h _ _ Z ls (lv_sub hl [1, 0] rfl)
      · have h := zi_f q h
        refine lv_aload_n hx hb dX10_findKept_9 rfl (lv_at hl 0 rfl) ?_
        refine zgX10_63 hx hb hf hown P0 Z L143 dX10_findKept_10 ?_
        refine lv_iload_n hx hb dX10_findKept_13 rfl (lv_at hl 1 rfl) ?_
        refine lv_iconst (v := (nI 0)) hx hb dX10_findKept_14 (by decide) ?_
        obtain ⟨hin, h⟩ := zck_s h
        refine zsM_35 hO hx hb P0 Z hin dX10_findKept_15 (fun H locs Z => ?_)
        refine lv_iinc (v := (x1 + (nI 1))) (lv' := [(1, .int (x1 + (nI 1))), (0, .ref (zad g 0))]) hx hb dX10_findKept_16 hl (k := 1) rfl rfl (by decide) rfl (fun ls hl => ?_)
        refine lv_goto (tgt := 2) hx hb dX10_findKept_19 (by decide) ?_
        exact K2 (x1 + (nI 1)) (wA S 35 (x1.toNatClampNeg) (vp_nar .boolean (nI 0))) h _ _ Z ls (lv_sub hl [1, 0] rfl)
  have hl := lv_entry ([.ref (zad g 0)] : List Value) (n := 3) (Nat.le_of_ble_eq_true rfl)
  rw [lg_entry_eq]
  generalize (lg_sl ([.ref (zad g 0)] : List Value) ++ List.replicate (3 - (lg_sl ([.ref (zad g 0)] : List Value)).length) Slot.unset).toArray = ls at hl ⊢
  have hl : lv_has ls 3 [(0, .ref (zad g 0))] := hl
  unfold fX10_findKept at h
  refine lv_iconst (v := (nI 0)) hx hb dX10_findKept_0 (by decide) ?_
  refine lv_istore_n (lv' := [(1, .int (nI 0)), (0, .ref (zad g 0))]) hx hb dX10_findKept_1 rfl hl (by decide) rfl (fun ls hl => ?_)
  exact B2 zFU (nI 0) S h _ _ Z ls (lv_sub hl [1, 0] rfl)

set_option maxHeartbeats 4000000 in
set_option maxRecDepth 100000 in
theorem kX10_sweepAll {g : zG} (l : Launch) (hO : zinjM g) (S : zSt) (r : Int32) (S' : zSt) (h : fX10_sweepAll S = some (r, S')) : zMi (zYM g) l yX10_sweepAll vX10_sweepAll { frames := 2, cells := 0, slots := 0, locals := 43 } ([.ref (zad g 0)] : List Value) S r S' := by
  have hY := zOkM hO
  refine Met.ofW (cc := cX10_sweepAll) (maxL := 4) (ret := (some .int)) (by decide) rfl ?_
  intro p e s m args below meth c s₁ B hml hv
  obtain ⟨rfl, hP⟩ := hv
  have hx := B.exec
  have hb := B.bytes
  have hr := B.returns
  have hts := atoms_spec (ws := vX10_sweepAll) B.pre
  have hT : ∀ w ∈ zTB, w.before ([.ref (zad g 0)] : List Value).toArray s = true := fun w h => hts w (List.mem_cons_of_mem _ h)
  have hown : s.vm.findClass RX10 = some m.cls := findClass_of_methodNamed B.named
  have hlocks := B.notSynchronized
  have P0 := hP.2
  have Z : zZ (zYM g) S s s.heap [] := ⟨hP.1, va_S.rf⟩
  have hf : ∀ w ∈ u_ws RX10 TX10 67, w.before ([.ref (zad g 0)] : List Value).toArray s = true := fun w hw => hT w (mU_X10 w hw)
  have L256 := hT _ mF_X10_256
  have L110 := hT _ mF_X10_110
  have L143 := hT _ mF_X10_143
  have B9 : ∀ (n : Nat) (x2 : Int32) (x3 : Int32) (S : zSt), fX10_sweepAll_9L n (x2, x3, S) = some (r, S') → ∀ (H : Heap) (locs : List Loc), zZ (zYM g) S s H locs → ∀ ls : Array Slot, lv_has ls 4 [(0, .ref (zad g 0)), (2, .int x2), (3, .int x3)] → W p l e (headSpec vX10_sweepAll { frames := 2, cells := 0, slots := 0, locals := 43 }).room s m ([.ref (zad g 0)] : List Value).toArray below meth c H locs 0 0 (MQ below (zQi (zYM g) r S') ([.ref (zad g 0)] : List Value).toArray s 0 0 (zYM g).2.2.1) (F0 m 9 ls []) := by
    intro n
    induction n with
    | zero => intro x2 x3 S h; exact absurd h (fun h => nomatch h)
    | succ n K9 =>
      intro x2 x3 S h H locs Z ls hl
      have h : fX10_sweepAll_9 (fX10_sweepAll_9L n) x2 x3 S = some (r, S') := h
      unfold fX10_sweepAll_9 at h
      refine lv_iload_n hx hb dX10_sweepAll_9 rfl (lv_at hl 2 rfl) ?_
      refine lv_sipush (v := (nI 400)) hx hb dX10_sweepAll_10 (by decide) ?_
      refine lv_icmp_ge (tgt := 53) hx hb dX10_sweepAll_13 (by decide) (fun q => ?_) (fun q => ?_)
      · have h := zi_t q h
        refine lv_aload_n hx hb dX10_sweepAll_53 rfl (lv_at hl 0 rfl) ?_
        refine lv_dup hx hb dX10_sweepAll_54 rfl ?_
        refine zgX10_43 (v := (zI S 15)) hx hb hf hown P0 Z L256 rfl dX10_sweepAll_55 ?_
        refine lv_iload_n hx hb dX10_sweepAll_58 rfl (lv_at hl 1 rfl) ?_
        refine lv_isub hx hb dX10_sweepAll_59 ?_
        refine zpX10_43 hO hx hb hf hown P0 Z L256 dX10_sweepAll_60 (fun H locs Z => ?_)
        refine lv_iload_n hx hb dX10_sweepAll_63 rfl (lv_at hl 1 rfl) ?_
        exact zr_i hY P0 hx hb hr hlocks h Z dX10_sweepAll_64
      · have h := zi_f q h
        refine lv_aload_n hx hb dX10_sweepAll_16 rfl (lv_at hl 0 rfl) ?_
        refine zgX10_39 hx hb hf hown P0 Z L110 dX10_sweepAll_17 ?_
        refine lv_iload_n hx hb dX10_sweepAll_20 rfl (lv_at hl 2 rfl) ?_
        obtain ⟨v3, ev, hin, h⟩ := zld_s h
        refine zlM_24 hx hb P0 Z ev hin dX10_sweepAll_21 ?_
        refine lv_bipush (v := (nI 7)) hx hb dX10_sweepAll_22 (by decide) ?_
        refine lv_icmp_eq (tgt := 47) hx hb dX10_sweepAll_24 (by decide) (fun q => ?_) (fun q => ?_)
        · have h := zi_t q h
          refine lv_iinc (v := (x3 + (nI 1))) (lv' := [(3, .int (x3 + (nI 1))), (0, .ref (zad g 0)), (2, .int x2)]) hx hb dX10_sweepAll_47 hl (k := 2) rfl rfl (by decide) rfl (fun ls hl => ?_)
          refine lv_goto (tgt := 9) hx hb dX10_sweepAll_50 (by decide) ?_
          exact K9 x2 (x3 + (nI 1)) S h _ _ Z ls (lv_sub hl [1, 2, 0] rfl)
        · have h := zi_f q h
          refine lv_aload_n hx hb dX10_sweepAll_27 rfl (lv_at hl 0 rfl) ?_
          refine zgX10_63 hx hb hf hown P0 Z L143 dX10_sweepAll_28 ?_
          refine lv_iload_n hx hb dX10_sweepAll_31 rfl (lv_at hl 2 rfl) ?_
          obtain ⟨v4, ev, hin, h⟩ := zld_s h
          refine zlM_35 hx hb P0 Z ev hin dX10_sweepAll_32 ?_
          refine lv_if_ne (tgt := 47) hx hb dX10_sweepAll_33 (by decide) (fun q => ?_) (fun q => ?_)
          · have h := zi_f q h
            refine lv_iinc (v := (x3 + (nI 1))) (lv' := [(3, .int (x3 + (nI 1))), (0, .ref (zad g 0)), (2, .int x2)]) hx hb dX10_sweepAll_47 hl (k := 2) rfl rfl (by decide) rfl (fun ls hl => ?_)
            refine lv_goto (tgt := 9) hx hb dX10_sweepAll_50 (by decide) ?_
            exact K9 x2 (x3 + (nI 1)) S h _ _ Z ls (lv_sub hl [1, 2, 0] rfl)
          · have h := zi_t q h
            refine lv_aload_n hx hb dX10_sweepAll_36 rfl (lv_at hl 0 rfl) ?_
            refine zgX10_39 hx hb hf hown P0 Z L110 dX10_sweepAll_37 ?_
            refine lv_iload_n hx hb dX10_sweepAll_40 rfl (lv_at hl 2 rfl) ?_
            refine lv_bipush (v := (nI 7)) hx hb dX10_sweepAll_41 (by decide) ?_
            obtain ⟨hin, h⟩ := zck_s h
            refine zsM_24 hO hx hb P0 Z hin dX10_sweepAll_43 (fun H locs Z => ?_)
            refine lv_iinc (v := (x2 + (nI 1))) (lv' := [(2, .int (x2 + (nI 1))), (0, .ref (zad g 0)), (3, .int x3)]) hx hb dX10_sweepAll_44 hl (k := 1) rfl rfl (by decide) rfl (fun ls hl => ?_)
            refine lv_iinc (v := (x3 + (nI 1))) (lv' := [(3, .int (x3 + (nI 1))), (2, .int (x2 + (nI 1))), (0, .ref (zad g 0))]) hx hb dX10_sweepAll_47 hl (k := 2) rfl rfl (by decide) rfl (fun ls hl => ?_)
            refine lv_goto (tgt := 9) hx hb dX10_sweepAll_50 (by decide) ?_
            exact K9 (x2 + (nI 1)) (x3 + (nI 1)) (wA S 24 (x3.toNatClampNeg) (nI 7)) h _ _ Z ls (lv_sub hl [2, 1, 0] rfl)
  have hl := lv_entry ([.ref (zad g 0)] : List Value) (n := 4) (Nat.le_of_ble_eq_true rfl)
  rw [lg_entry_eq]
  generalize (lg_sl ([.ref (zad g 0)] : List Value) ++ List.replicate (4 - (lg_sl ([.ref (zad g 0)] : List Value)).length) Slot.unset).toArray = ls at hl ⊢
  have hl : lv_has ls 4 [(0, .ref (zad g 0))] := hl
  unfold fX10_sweepAll at h
  refine lv_aload_n hx hb dX10_sweepAll_0 rfl (lv_at hl 0 rfl) ?_
  obtain ⟨r1, S2, ec, h⟩ := zbd_s h
  refine zc_Vi hY P0 ⟨hx, hb, hml, hown, hT⟩ (As := []) (rest := []) (kX10_findKept l hO  S r1 S2 ec) (cwV 0 hT (zgV mL_X10_365 mI_X10_findKept mS_X10_findKept mN_X10 mC_X10_findKept) rfl rfl rfl hdnX10_findKept ⟨Nat.le_of_ble_eq_true rfl, Nat.le_of_ble_eq_true rfl⟩) (zrecM_0 P0 Z) Z rfl hl.1 rfl (Nat.le_of_ble_eq_true rfl) dX10_sweepAll_1 (fun H locs Z => ?_)
  refine lv_istore_n (lv' := [(1, .int r1), (0, .ref (zad g 0))]) hx hb dX10_sweepAll_4 rfl hl (by decide) rfl (fun ls hl => ?_)
  refine lv_iconst (v := (nI 0)) hx hb dX10_sweepAll_5 (by decide) ?_
  refine lv_istore_n (lv' := [(2, .int (nI 0)), (1, .int r1), (0, .ref (zad g 0))]) hx hb dX10_sweepAll_6 rfl hl (by decide) rfl (fun ls hl => ?_)
  refine lv_iconst (v := (nI 0)) hx hb dX10_sweepAll_7 (by decide) ?_
  refine lv_istore_n (lv' := [(3, .int (nI 0)), (2, .int (nI 0)), (1, .int r1), (0, .ref (zad g 0))]) hx hb dX10_sweepAll_8 rfl hl (by decide) rfl (fun ls hl => ?_)
  exact B9 zFU (nI 0) (nI 0) S2 h _ _ Z ls (lv_sub hl [3, 1, 0] rfl)

set_option maxHeartbeats 4000000 in
set_option maxRecDepth 100000 in
theorem kX10_back {g : zG} (l : Launch) (hO : zinjM g) (a1 : Int32) (S : zSt) (r : Int32) (S' : zSt) (h : fX10_back a1 S = some (r, S')) : zMi (zYM g) l yX10_back vX10_back { frames := 5, cells := 0, slots := 0, locals := 115 } ([.ref (zad g 0), .int a1] : List Value) S r S' := by
  have hY := zOkM hO
  refine Met.ofW (cc := cX10_back) (maxL := 7) (ret := (some .int)) (by decide) rfl ?_
  intro p e s m args below meth c s₁ B hml hv
  obtain ⟨rfl, hP⟩ := hv
  have hx := B.exec
  have hb := B.bytes
  have hr := B.returns
  have hts := atoms_spec (ws := vX10_back) B.pre
  have hT : ∀ w ∈ zTB, w.before ([.ref (zad g 0), .int a1] : List Value).toArray s = true := fun w h => hts w (List.mem_cons_of_mem _ h)
  have hown : s.vm.findClass RX10 = some m.cls := findClass_of_methodNamed B.named
  have hlocks := B.notSynchronized
  have P0 := hP.2
  have Z : zZ (zYM g) S s s.heap [] := ⟨hP.1, va_S.rf⟩
  have hf : ∀ w ∈ u_ws RX10 TX10 67, w.before ([.ref (zad g 0), .int a1] : List Value).toArray s = true := fun w hw => hT w (mU_X10 w hw)
  have L153 := hT _ mF_X10_153
  have L292 := hT _ mF_X10_292
  have L277 := hT _ mF_X10_277
  have L296 := hT _ mF_X10_296
  have L134 := hT _ mF_X10_134
  have L280 := hT _ mF_X10_280
  have L283 := hT _ mF_X10_283
  have B133 : ∀ (k81 : Int32 × Int32 × Int32 × zSt → Option (Int32 × zSt)) (K81 : (∀ (x2 : Int32) (x4 : Int32) (x5 : Int32) (S : zSt), k81 (x2, x4, x5, S) = some (r, S') → ∀ (H : Heap) (locs : List Loc), zZ (zYM g) S s H locs → ∀ ls : Array Slot, lv_has ls 7 [(0, .ref (zad g 0)), (2, .int x2), (4, .int x4), (5, .int x5)] → W p l e (headSpec vX10_back { frames := 5, cells := 0, slots := 0, locals := 115 }).room s m ([.ref (zad g 0), .int a1] : List Value).toArray below meth c H locs 0 0 (MQ below (zQi (zYM g) r S') ([.ref (zad g 0), .int a1] : List Value).toArray s 0 0 (zYM g).2.2.1) (F0 m 81 ls []))) (x2 : Int32) (x4 : Int32) (y0 : Int32) (S : zSt), fX10_back_133 k81 x2 x4 y0 S = some (r, S') → ∀ (H : Heap) (locs : List Loc), zZ (zYM g) S s H locs → ∀ ls : Array Slot, lv_has ls 7 [(0, .ref (zad g 0)), (2, .int x2), (4, .int x4)] → W p l e (headSpec vX10_back { frames := 5, cells := 0, slots := 0, locals := 115 }).room s m ([.ref (zad g 0), .int a1] : List Value).toArray below meth c H locs 0 0 (MQ below (zQi (zYM g) r S') ([.ref (zad g 0), .int a1] : List Value).toArray s 0 0 (zYM g).2.2.1) (F0 m 133 ls [.int y0]) := by
    intro k81 K81 x2 x4 y0 S h H locs Z ls hl
    unfold fX10_back_133 at h
    refine lv_istore (lv' := [(5, .int y0), (0, .ref (zad g 0)), (2, .int x2), (4, .int x4)]) hx hb dX10_back_133 hl (by decide) rfl (fun ls hl => ?_)
    refine lv_iload hx hb dX10_back_135 (lv_at hl 0 rfl) ?_
    refine lv_if_eq (tgt := 151) hx hb dX10_back_137 (by decide) (fun q => ?_) (fun q => ?_)
    · have h := zi_t q h
      refine lv_iconst (v := (nI 0)) hx hb dX10_back_151 (by decide) ?_
      refine lv_istore (lv' := [(6, .int (nI 0)), (5, .int y0), (0, .ref (zad g 0)), (2, .int x2), (4, .int x4)]) hx hb dX10_back_152 hl (by decide) rfl (fun ls hl => ?_)
      refine lv_goto (tgt := 81) hx hb dX10_back_154 (by decide) ?_
      exact K81 x2 x4 y0 S h _ _ Z ls (lv_sub hl [2, 3, 4, 1] rfl)
    · have h := zi_f q h
      refine lv_aload_n hx hb dX10_back_140 rfl (lv_at hl 1 rfl) ?_
      obtain ⟨r9, S10, ec, h⟩ := zbd_s h
      refine zc_Vi hY P0 ⟨hx, hb, hml, hown, hT⟩ (As := []) (rest := []) (kX10_stepOne l hO  S r9 S10 ec) (cwV 0 hT (zgV mL_X10_349 mI_X10_stepOne mS_X10_stepOne mN_X10 mC_X10_stepOne) rfl rfl rfl hdnX10_stepOne ⟨Nat.le_of_ble_eq_true rfl, Nat.le_of_ble_eq_true rfl⟩) (zrecM_0 P0 Z) Z rfl hl.1 rfl (Nat.le_of_ble_eq_true rfl) dX10_back_141 (fun H locs Z => ?_)
      refine lv_if_eq (tgt := 151) hx hb dX10_back_144 (by decide) (fun q => ?_) (fun q => ?_)
      · have h := zi_t q h
        refine lv_iconst (v := (nI 0)) hx hb dX10_back_151 (by decide) ?_
        refine lv_istore (lv' := [(6, .int (nI 0)), (5, .int y0), (0, .ref (zad g 0)), (2, .int x2), (4, .int x4)]) hx hb dX10_back_152 hl (by decide) rfl (fun ls hl => ?_)
        refine lv_goto (tgt := 81) hx hb dX10_back_154 (by decide) ?_
        exact K81 x2 x4 y0 S10 h _ _ Z ls (lv_sub hl [2, 3, 4, 1] rfl)
      · have h := zi_f q h
        refine lv_iconst (v := (nI 1)) hx hb dX10_back_147 (by decide) ?_
        refine lv_goto (tgt := 152) hx hb dX10_back_148 (by decide) ?_
        refine lv_istore (lv' := [(6, .int (nI 1)), (5, .int y0), (0, .ref (zad g 0)), (2, .int x2), (4, .int x4)]) hx hb dX10_back_152 hl (by decide) rfl (fun ls hl => ?_)
        refine lv_goto (tgt := 81) hx hb dX10_back_154 (by decide) ?_
        exact K81 x2 x4 y0 S10 h _ _ Z ls (lv_sub hl [2, 3, 4, 1] rfl)
  have B120 : ∀ (k81 : Int32 × Int32 × Int32 × zSt → Option (Int32 × zSt)) (K81 : (∀ (x2 : Int32) (x4 : Int32) (x5 : Int32) (S : zSt), k81 (x2, x4, x5, S) = some (r, S') → ∀ (H : Heap) (locs : List Loc), zZ (zYM g) S s H locs → ∀ ls : Array Slot, lv_has ls 7 [(0, .ref (zad g 0)), (2, .int x2), (4, .int x4), (5, .int x5)] → W p l e (headSpec vX10_back { frames := 5, cells := 0, slots := 0, locals := 115 }).room s m ([.ref (zad g 0), .int a1] : List Value).toArray below meth c H locs 0 0 (MQ below (zQi (zYM g) r S') ([.ref (zad g 0), .int a1] : List Value).toArray s 0 0 (zYM g).2.2.1) (F0 m 81 ls []))) (x2 : Int32) (x4 : Int32) (S : zSt), fX10_back_120 k81 x2 x4 S = some (r, S') → ∀ (H : Heap) (locs : List Loc), zZ (zYM g) S s H locs → ∀ ls : Array Slot, lv_has ls 7 [(0, .ref (zad g 0)), (2, .int x2), (4, .int x4)] → W p l e (headSpec vX10_back { frames := 5, cells := 0, slots := 0, locals := 115 }).room s m ([.ref (zad g 0), .int a1] : List Value).toArray below meth c H locs 0 0 (MQ below (zQi (zYM g) r S') ([.ref (zad g 0), .int a1] : List Value).toArray s 0 0 (zYM g).2.2.1) (F0 m 120 ls []) := by
    intro k81 K81 x2 x4 S h H locs Z ls hl
    unfold fX10_back_120 at h
    refine lv_aload_n hx hb dX10_back_120 rfl (lv_at hl 0 rfl) ?_
    refine zgX10_52 (v := (zI S 20)) hx hb hf hown P0 Z L277 rfl dX10_back_121 ?_
    refine lv_iload_n hx hb dX10_back_124 rfl (lv_at hl 1 rfl) ?_
    refine lv_icmp_ge (tgt := 132) hx hb dX10_back_125 (by decide) (fun q => ?_) (fun q => ?_)
    · have h := zi_t q h
      refine lv_iconst (v := (nI 0)) hx hb dX10_back_132 (by decide) ?_
      exact B133 k81 K81 x2 x4 (nI 0) S h _ _ Z ls (lv_sub hl [0, 1, 2] rfl)
    · have h := zi_f q h
      refine lv_iconst (v := (nI 1)) hx hb dX10_back_128 (by decide) ?_
      refine lv_goto (tgt := 133) hx hb dX10_back_129 (by decide) ?_
      exact B133 k81 K81 x2 x4 (nI 1) S h _ _ Z ls (lv_sub hl [0, 1, 2] rfl)
  have B86 : ∀ (k81 : Int32 × Int32 × Int32 × zSt → Option (Int32 × zSt)) (K81 : (∀ (x2 : Int32) (x4 : Int32) (x5 : Int32) (S : zSt), k81 (x2, x4, x5, S) = some (r, S') → ∀ (H : Heap) (locs : List Loc), zZ (zYM g) S s H locs → ∀ ls : Array Slot, lv_has ls 7 [(0, .ref (zad g 0)), (2, .int x2), (4, .int x4), (5, .int x5)] → W p l e (headSpec vX10_back { frames := 5, cells := 0, slots := 0, locals := 115 }).room s m ([.ref (zad g 0), .int a1] : List Value).toArray below meth c H locs 0 0 (MQ below (zQi (zYM g) r S') ([.ref (zad g 0), .int a1] : List Value).toArray s 0 0 (zYM g).2.2.1) (F0 m 81 ls []))) (n : Nat) (x2 : Int32) (x4 : Int32) (S : zSt), fX10_back_86L k81 n (x2, x4, S) = some (r, S') → ∀ (H : Heap) (locs : List Loc), zZ (zYM g) S s H locs → ∀ ls : Array Slot, lv_has ls 7 [(0, .ref (zad g 0)), (2, .int x2), (4, .int x4)] → W p l e (headSpec vX10_back { frames := 5, cells := 0, slots := 0, locals := 115 }).room s m ([.ref (zad g 0), .int a1] : List Value).toArray below meth c H locs 0 0 (MQ below (zQi (zYM g) r S') ([.ref (zad g 0), .int a1] : List Value).toArray s 0 0 (zYM g).2.2.1) (F0 m 86 ls []) := by
    intro k81 K81 n
    induction n with
    | zero => intro x2 x4 S h; exact absurd h (fun h => nomatch h)
    | succ n K86 =>
      intro x2 x4 S h H locs Z ls hl
      have h : fX10_back_86 k81 (fX10_back_86L k81 n) x2 x4 S = some (r, S') := h
      unfold fX10_back_86 at h
      refine lv_iload hx hb dX10_back_86 (lv_at hl 2 rfl) ?_
      refine lv_aload_n hx hb dX10_back_88 rfl (lv_at hl 0 rfl) ?_
      refine zgX10_57 (v := (zI S 25)) hx hb hf hown P0 Z L296 rfl dX10_back_89 ?_
      refine lv_icmp_ge (tgt := 120) hx hb dX10_back_92 (by decide) (fun q => ?_) (fun q => ?_)
      · have h := zi_t q h
        exact B120 k81 K81 x2 x4 S h _ _ Z ls (lv_sub hl [0, 1, 2] rfl)
      · have h := zi_f q h
        refine lv_aload_n hx hb dX10_back_95 rfl (lv_at hl 0 rfl) ?_
        refine zgX10_58 hx hb hf hown P0 Z L134 dX10_back_96 ?_
        refine lv_iload hx hb dX10_back_99 (lv_at hl 2 rfl) ?_
        obtain ⟨v6, ev, hin, h⟩ := zld_s h
        refine zlM_32 hx hb P0 Z ev hin dX10_back_101 ?_
        refine lv_aload_n hx hb dX10_back_102 rfl (lv_at hl 0 rfl) ?_
        refine zgX10_52 (v := (zI S 20)) hx hb hf hown P0 Z L277 rfl dX10_back_103 ?_
        refine lv_icmp_ne (tgt := 120) hx hb dX10_back_106 (by decide) (fun q => ?_) (fun q => ?_)
        · have h := zi_f q h
          exact B120 k81 K81 x2 x4 S h _ _ Z ls (lv_sub hl [0, 1, 2] rfl)
        · have h := zi_t q h
          refine lv_aload_n hx hb dX10_back_109 rfl (lv_at hl 0 rfl) ?_
          obtain ⟨r7, S8, ec, h⟩ := zbd_s h
          refine zc_Vi hY P0 ⟨hx, hb, hml, hown, hT⟩ (As := []) (rest := []) (kX10_sweepAll l hO  S r7 S8 ec) (cwV 0 hT (zgV mL_X10_353 mI_X10_sweepAll mS_X10_sweepAll mN_X10 mC_X10_sweepAll) rfl rfl rfl hdnX10_sweepAll ⟨Nat.le_of_ble_eq_true rfl, Nat.le_of_ble_eq_true rfl⟩) (zrecM_0 P0 Z) Z rfl hl.1 rfl (Nat.le_of_ble_eq_true rfl) dX10_back_110 (fun H locs Z => ?_)
          refine lv_pop hx hb dX10_back_113 rfl ?_
          refine lv_iinc (v := (x4 + (nI 1))) (lv' := [(4, .int (x4 + (nI 1))), (0, .ref (zad g 0)), (2, .int x2)]) hx hb dX10_back_114 hl (k := 2) rfl rfl (by decide) rfl (fun ls hl => ?_)
          refine lv_goto (tgt := 86) hx hb dX10_back_117 (by decide) ?_
          exact K86 x2 (x4 + (nI 1)) S8 h _ _ Z ls (lv_sub hl [1, 2, 0] rfl)
  have B157 : ∀ (S : zSt), fX10_back_157 S = some (r, S') → ∀ (H : Heap) (locs : List Loc), zZ (zYM g) S s H locs → ∀ ls : Array Slot, lv_has ls 7 [(0, .ref (zad g 0))] → W p l e (headSpec vX10_back { frames := 5, cells := 0, slots := 0, locals := 115 }).room s m ([.ref (zad g 0), .int a1] : List Value).toArray below meth c H locs 0 0 (MQ below (zQi (zYM g) r S') ([.ref (zad g 0), .int a1] : List Value).toArray s 0 0 (zYM g).2.2.1) (F0 m 157 ls []) := by
    intro S h H locs Z ls hl
    unfold fX10_back_157 at h
    refine lv_aload_n hx hb dX10_back_157 rfl (lv_at hl 0 rfl) ?_
    refine lv_iconst (v := (nI 0)) hx hb dX10_back_158 (by decide) ?_
    refine zpX10_53 hO hx hb hf hown P0 Z L280 dX10_back_159 (fun H locs Z => ?_)
    refine lv_aload_n hx hb dX10_back_162 rfl (lv_at hl 0 rfl) ?_
    refine lv_iconst (v := (nI 0)) hx hb dX10_back_163 (by decide) ?_
    refine zpX10_54 hO hx hb hf hown P0 Z L283 dX10_back_164 (fun H locs Z => ?_)
    refine lv_aload_n hx hb dX10_back_167 rfl (lv_at hl 0 rfl) ?_
    refine zgX10_52 (v := (zI S 20)) hx hb hf hown P0 Z L277 rfl dX10_back_168 ?_
    exact zr_i hY P0 hx hb hr hlocks h Z dX10_back_171
  have B81 : ∀ (n : Nat) (x2 : Int32) (x4 : Int32) (x5 : Int32) (S : zSt), fX10_back_81L n (x2, x4, x5, S) = some (r, S') → ∀ (H : Heap) (locs : List Loc), zZ (zYM g) S s H locs → ∀ ls : Array Slot, lv_has ls 7 [(0, .ref (zad g 0)), (2, .int x2), (4, .int x4), (5, .int x5)] → W p l e (headSpec vX10_back { frames := 5, cells := 0, slots := 0, locals := 115 }).room s m ([.ref (zad g 0), .int a1] : List Value).toArray below meth c H locs 0 0 (MQ below (zQi (zYM g) r S') ([.ref (zad g 0), .int a1] : List Value).toArray s 0 0 (zYM g).2.2.1) (F0 m 81 ls []) := by
    intro n
    induction n with
    | zero => intro x2 x4 x5 S h; exact absurd h (fun h => nomatch h)
    | succ n K81 =>
      intro x2 x4 x5 S h H locs Z ls hl
      have h : fX10_back_81 (fX10_back_81L n) x2 x4 x5 S = some (r, S') := h
      unfold fX10_back_81 at h
      refine lv_iload hx hb dX10_back_81 (lv_at hl 3 rfl) ?_
      refine lv_if_eq (tgt := 157) hx hb dX10_back_83 (by decide) (fun q => ?_) (fun q => ?_)
      · have h := zi_t q h
        exact B157 S h _ _ Z ls (lv_sub hl [0] rfl)
      · have h := zi_f q h
        exact B86 (fX10_back_81L n) K81 zFU x2 x4 S h _ _ Z ls (lv_sub hl [0, 1, 2] rfl)
  have B62 : ∀ (x1 : Int32) (x2 : Int32) (x3 : Int32) (S : zSt), fX10_back_62 x1 x2 x3 S = some (r, S') → ∀ (H : Heap) (locs : List Loc), zZ (zYM g) S s H locs → ∀ ls : Array Slot, lv_has ls 7 [(0, .ref (zad g 0)), (1, .int x1), (2, .int x2), (3, .int x3)] → W p l e (headSpec vX10_back { frames := 5, cells := 0, slots := 0, locals := 115 }).room s m ([.ref (zad g 0), .int a1] : List Value).toArray below meth c H locs 0 0 (MQ below (zQi (zYM g) r S') ([.ref (zad g 0), .int a1] : List Value).toArray s 0 0 (zYM g).2.2.1) (F0 m 62 ls []) := by
    intro x1 x2 x3 S h H locs Z ls hl
    unfold fX10_back_62 at h
    refine lv_iload_n hx hb dX10_back_62 rfl (lv_at hl 1 rfl) ?_
    refine lv_if_le (tgt := 157) hx hb dX10_back_63 (by decide) (fun q => ?_) (fun q => ?_)
    · have h := zi_t q h
      exact B157 S h _ _ Z ls (lv_sub hl [0] rfl)
    · have h := zi_f q h
      refine lv_aload_n hx hb dX10_back_66 rfl (lv_at hl 0 rfl) ?_
      obtain ⟨r4, S5, ec, h⟩ := zbd_s h
      refine zc_Vv hY P0 ⟨hx, hb, hml, hown, hT⟩ (As := []) (rest := []) (kX10_begin l hO  S r4 S5 ec) (cwV 0 hT (zgV mL_X10_302 mI_X10_begin mS_X10_begin mN_X10 mC_X10_begin) rfl rfl rfl hdnX10_begin ⟨Nat.le_of_ble_eq_true rfl, Nat.le_of_ble_eq_true rfl⟩) (zrecM_0 P0 Z) Z rfl hl.1 rfl (Nat.le_of_ble_eq_true rfl) dX10_back_67 (fun H locs Z => ?_)
      refine lv_aload_n hx hb dX10_back_70 rfl (lv_at hl 0 rfl) ?_
      refine lv_iload_n hx hb dX10_back_71 rfl (lv_at hl 3 rfl) ?_
      refine zpX10_57 hO hx hb hf hown P0 Z L296 dX10_back_72 (fun H locs Z => ?_)
      refine lv_iconst (v := (nI 0)) hx hb dX10_back_75 (by decide) ?_
      refine lv_istore (lv' := [(4, .int (nI 0)), (0, .ref (zad g 0)), (1, .int x1), (2, .int x2), (3, .int x3)]) hx hb dX10_back_76 hl (by decide) rfl (fun ls hl => ?_)
      refine lv_iconst (v := (nI 1)) hx hb dX10_back_78 (by decide) ?_
      refine lv_istore (lv' := [(5, .int (nI 1)), (4, .int (nI 0)), (0, .ref (zad g 0)), (1, .int x1), (2, .int x2), (3, .int x3)]) hx hb dX10_back_79 hl (by decide) rfl (fun ls hl => ?_)
      exact B81 zFU x2 (nI 0) (nI 1) (wI S5 25 x3) h _ _ Z ls (lv_sub hl [2, 4, 1, 0] rfl)
  have B38 : ∀ (n : Nat) (x1 : Int32) (x2 : Int32) (x3 : Int32) (S : zSt), fX10_back_38L n (x1, x2, x3, S) = some (r, S') → ∀ (H : Heap) (locs : List Loc), zZ (zYM g) S s H locs → ∀ ls : Array Slot, lv_has ls 7 [(0, .ref (zad g 0)), (1, .int x1), (2, .int x2), (3, .int x3)] → W p l e (headSpec vX10_back { frames := 5, cells := 0, slots := 0, locals := 115 }).room s m ([.ref (zad g 0), .int a1] : List Value).toArray below meth c H locs 0 0 (MQ below (zQi (zYM g) r S') ([.ref (zad g 0), .int a1] : List Value).toArray s 0 0 (zYM g).2.2.1) (F0 m 38 ls []) := by
    intro n
    induction n with
    | zero => intro x1 x2 x3 S h; exact absurd h (fun h => nomatch h)
    | succ n K38 =>
      intro x1 x2 x3 S h H locs Z ls hl
      have h : fX10_back_38 (fX10_back_38L n) x1 x2 x3 S = some (r, S') := h
      unfold fX10_back_38 at h
      refine lv_iload_n hx hb dX10_back_38 rfl (lv_at hl 3 rfl) ?_
      refine lv_aload_n hx hb dX10_back_39 rfl (lv_at hl 0 rfl) ?_
      refine zgX10_57 (v := (zI S 25)) hx hb hf hown P0 Z L296 rfl dX10_back_40 ?_
      refine lv_icmp_ge (tgt := 62) hx hb dX10_back_43 (by decide) (fun q => ?_) (fun q => ?_)
      · have h := zi_t q h
        exact B62 x1 x2 x3 S h _ _ Z ls (lv_sub hl [0, 1, 2, 3] rfl)
      · have h := zi_f q h
        refine lv_aload_n hx hb dX10_back_46 rfl (lv_at hl 0 rfl) ?_
        refine zgX10_58 hx hb hf hown P0 Z L134 dX10_back_47 ?_
        refine lv_iload_n hx hb dX10_back_50 rfl (lv_at hl 3 rfl) ?_
        obtain ⟨v3, ev, hin, h⟩ := zld_s h
        refine zlM_32 hx hb P0 Z ev hin dX10_back_51 ?_
        refine lv_iload_n hx hb dX10_back_52 rfl (lv_at hl 2 rfl) ?_
        refine lv_icmp_gt (tgt := 62) hx hb dX10_back_53 (by decide) (fun q => ?_) (fun q => ?_)
        · have h := zi_t q h
          exact B62 x1 x2 x3 S h _ _ Z ls (lv_sub hl [0, 1, 2, 3] rfl)
        · have h := zi_f q h
          refine lv_iinc (v := (x3 + (nI 1))) (lv' := [(3, .int (x3 + (nI 1))), (0, .ref (zad g 0)), (1, .int x1), (2, .int x2)]) hx hb dX10_back_56 hl (k := 3) rfl rfl (by decide) rfl (fun ls hl => ?_)
          refine lv_goto (tgt := 38) hx hb dX10_back_59 (by decide) ?_
          exact K38 x1 x2 (x3 + (nI 1)) S h _ _ Z ls (lv_sub hl [1, 2, 3, 0] rfl)
  have hl := lv_entry ([.ref (zad g 0), .int a1] : List Value) (n := 7) (Nat.le_of_ble_eq_true rfl)
  rw [lg_entry_eq]
  generalize (lg_sl ([.ref (zad g 0), .int a1] : List Value) ++ List.replicate (7 - (lg_sl ([.ref (zad g 0), .int a1] : List Value)).length) Slot.unset).toArray = ls at hl ⊢
  have hl : lv_has ls 7 [(0, .ref (zad g 0)), (1, .int a1)] := hl
  unfold fX10_back at h
  refine lv_aload_n hx hb dX10_back_0 rfl (lv_at hl 0 rfl) ?_
  refine lv_iconst (v := (nI 0)) hx hb dX10_back_1 (by decide) ?_
  refine zpX10_0 hO hx hb hf hown P0 Z L153 dX10_back_2 (fun H locs Z => ?_)
  refine lv_aload_n hx hb dX10_back_5 rfl (lv_at hl 0 rfl) ?_
  refine zgX10_56 (v := (zI S 24)) hx hb hf hown P0 Z L292 rfl dX10_back_6 ?_
  refine lv_if_ne (tgt := 15) hx hb dX10_back_9 (by decide) (fun q => ?_) (fun q => ?_)
  · have h := zi_f q h
    refine lv_iload_n hx hb dX10_back_15 rfl (lv_at hl 1 rfl) ?_
    refine lv_iconst (v := (nI 0)) hx hb dX10_back_16 (by decide) ?_
    refine lv_aload_n hx hb dX10_back_17 rfl (lv_at hl 0 rfl) ?_
    refine zgX10_52 (v := (zI S 20)) hx hb hf hown P0 Z L277 rfl dX10_back_18 ?_
    obtain ⟨r1, S2, ec, h⟩ := zbd_s h
    refine zc_Si hY P0 ⟨hx, hb, hml, hown, hT⟩ (As := [.int a1, .int (nI 0), .int (zI S 20)]) (rest := []) (kX10_in l hO a1 (nI 0) (zI S 20) (wI S 0 (nI 0)) r1 S2 ec) (va_cwS 3 hT (zgS mL_X10_160 mT_X10_in mN_X10 mC_X10_in) rfl rfl rfl hdnX10_in ⟨Nat.le_of_ble_eq_true rfl, Nat.le_of_ble_eq_true rfl⟩) Z rfl hl.1 rfl (Nat.le_of_ble_eq_true rfl) dX10_back_21 (fun H locs Z => ?_)
    refine lv_if_ne (tgt := 29) hx hb dX10_back_24 (by decide) (fun q => ?_) (fun q => ?_)
    · have h := zi_f q h
      refine lv_aload_n hx hb dX10_back_29 rfl (lv_at hl 0 rfl) ?_
      refine zgX10_52 (v := (zI S2 20)) hx hb hf hown P0 Z L277 rfl dX10_back_30 ?_
      refine lv_iload_n hx hb dX10_back_33 rfl (lv_at hl 1 rfl) ?_
      refine lv_isub hx hb dX10_back_34 ?_
      refine lv_istore_n (lv' := [(2, .int ((zI S2 20) - a1)), (0, .ref (zad g 0)), (1, .int a1)]) hx hb dX10_back_35 rfl hl (by decide) rfl (fun ls hl => ?_)
      refine lv_iconst (v := (nI 0)) hx hb dX10_back_36 (by decide) ?_
      refine lv_istore_n (lv' := [(3, .int (nI 0)), (2, .int ((zI S2 20) - a1)), (0, .ref (zad g 0)), (1, .int a1)]) hx hb dX10_back_37 rfl hl (by decide) rfl (fun ls hl => ?_)
      exact B38 zFU a1 ((zI S2 20) - a1) (nI 0) S2 h _ _ Z ls (lv_sub hl [2, 3, 1, 0] rfl)
    · have h := zi_t q h
      refine lv_iconst (v := (-1 : Int32)) hx hb dX10_back_27 (by decide) ?_
      exact zr_i hY P0 hx hb hr hlocks h Z dX10_back_28
  · have h := zi_t q h
    refine lv_bipush (v := (-3 : Int32)) hx hb dX10_back_12 (by decide) ?_
    exact zr_i hY P0 hx hb hr hlocks h Z dX10_back_14

set_option maxHeartbeats 4000000 in
set_option maxRecDepth 100000 in
theorem kX10_sweep {g : zG} (l : Launch) (hO : zinjM g) (S : zSt) (r : Int32) (S' : zSt) (h : fX10_sweep S = some (r, S')) : zMi (zYM g) l yX10_sweep vX10_sweep { frames := 3, cells := 0, slots := 0, locals := 66 } ([.ref (zad g 0)] : List Value) S r S' := by
  have hY := zOkM hO
  refine Met.ofW (cc := cX10_sweep) (maxL := 2) (ret := (some .int)) (by decide) rfl ?_
  intro p e s m args below meth c s₁ B hml hv
  obtain ⟨rfl, hP⟩ := hv
  have hx := B.exec
  have hb := B.bytes
  have hr := B.returns
  have hts := atoms_spec (ws := vX10_sweep) B.pre
  have hT : ∀ w ∈ zTB, w.before ([.ref (zad g 0)] : List Value).toArray s = true := fun w h => hts w (List.mem_cons_of_mem _ h)
  have hown : s.vm.findClass RX10 = some m.cls := findClass_of_methodNamed B.named
  have hlocks := B.notSynchronized
  have P0 := hP.2
  have Z : zZ (zYM g) S s s.heap [] := ⟨hP.1, va_S.rf⟩
  have hf : ∀ w ∈ u_ws RX10 TX10 67, w.before ([.ref (zad g 0)] : List Value).toArray s = true := fun w hw => hT w (mU_X10 w hw)
  have L153 := hT _ mF_X10_153
  have L292 := hT _ mF_X10_292
  have L134 := hT _ mF_X10_134
  have L296 := hT _ mF_X10_296
  have L277 := hT _ mF_X10_277
  have L280 := hT _ mF_X10_280
  have L283 := hT _ mF_X10_283
  have B47 : ∀ (x1 : Int32) (S : zSt), fX10_sweep_47 x1 S = some (r, S') → ∀ (H : Heap) (locs : List Loc), zZ (zYM g) S s H locs → ∀ ls : Array Slot, lv_has ls 2 [(0, .ref (zad g 0)), (1, .int x1)] → W p l e (headSpec vX10_sweep { frames := 3, cells := 0, slots := 0, locals := 66 }).room s m ([.ref (zad g 0)] : List Value).toArray below meth c H locs 0 0 (MQ below (zQi (zYM g) r S') ([.ref (zad g 0)] : List Value).toArray s 0 0 (zYM g).2.2.1) (F0 m 47 ls []) := by
    intro x1 S h H locs Z ls hl
    unfold fX10_sweep_47 at h
    refine lv_aload_n hx hb dX10_sweep_47 rfl (lv_at hl 0 rfl) ?_
    refine lv_iconst (v := (nI 0)) hx hb dX10_sweep_48 (by decide) ?_
    refine zpX10_53 hO hx hb hf hown P0 Z L280 dX10_sweep_49 (fun H locs Z => ?_)
    refine lv_aload_n hx hb dX10_sweep_52 rfl (lv_at hl 0 rfl) ?_
    refine lv_iconst (v := (nI 0)) hx hb dX10_sweep_53 (by decide) ?_
    refine zpX10_54 hO hx hb hf hown P0 Z L283 dX10_sweep_54 (fun H locs Z => ?_)
    refine lv_iload_n hx hb dX10_sweep_57 rfl (lv_at hl 1 rfl) ?_
    exact zr_i hY P0 hx hb hr hlocks h Z dX10_sweep_58
  have hl := lv_entry ([.ref (zad g 0)] : List Value) (n := 2) (Nat.le_of_ble_eq_true rfl)
  rw [lg_entry_eq]
  generalize (lg_sl ([.ref (zad g 0)] : List Value) ++ List.replicate (2 - (lg_sl ([.ref (zad g 0)] : List Value)).length) Slot.unset).toArray = ls at hl ⊢
  have hl : lv_has ls 2 [(0, .ref (zad g 0))] := hl
  unfold fX10_sweep at h
  refine lv_aload_n hx hb dX10_sweep_0 rfl (lv_at hl 0 rfl) ?_
  refine lv_iconst (v := (nI 0)) hx hb dX10_sweep_1 (by decide) ?_
  refine zpX10_0 hO hx hb hf hown P0 Z L153 dX10_sweep_2 (fun H locs Z => ?_)
  refine lv_aload_n hx hb dX10_sweep_5 rfl (lv_at hl 0 rfl) ?_
  refine zgX10_56 (v := (zI S 24)) hx hb hf hown P0 Z L292 rfl dX10_sweep_6 ?_
  refine lv_if_ne (tgt := 15) hx hb dX10_sweep_9 (by decide) (fun q => ?_) (fun q => ?_)
  · have h := zi_f q h
    refine lv_aload_n hx hb dX10_sweep_15 rfl (lv_at hl 0 rfl) ?_
    obtain ⟨r1, S2, ec, h⟩ := zbd_s h
    refine zc_Vi hY P0 ⟨hx, hb, hml, hown, hT⟩ (As := []) (rest := []) (kX10_sweepAll l hO  (wI S 0 (nI 0)) r1 S2 ec) (cwV 0 hT (zgV mL_X10_353 mI_X10_sweepAll mS_X10_sweepAll mN_X10 mC_X10_sweepAll) rfl rfl rfl hdnX10_sweepAll ⟨Nat.le_of_ble_eq_true rfl, Nat.le_of_ble_eq_true rfl⟩) (zrecM_0 P0 Z) Z rfl hl.1 rfl (Nat.le_of_ble_eq_true rfl) dX10_sweep_16 (fun H locs Z => ?_)
    refine lv_istore_n (lv' := [(1, .int r1), (0, .ref (zad g 0))]) hx hb dX10_sweep_19 rfl hl (by decide) rfl (fun ls hl => ?_)
    refine lv_iload_n hx hb dX10_sweep_20 rfl (lv_at hl 0 rfl) ?_
    refine lv_if_le (tgt := 47) hx hb dX10_sweep_21 (by decide) (fun q => ?_) (fun q => ?_)
    · have h := zi_t q h
      exact B47 r1 S2 h _ _ Z ls (lv_sub hl [1, 0] rfl)
    · have h := zi_f q h
      refine lv_aload_n hx hb dX10_sweep_24 rfl (lv_at hl 1 rfl) ?_
      refine zgX10_58 hx hb hf hown P0 Z L134 dX10_sweep_25 ?_
      refine lv_aload_n hx hb dX10_sweep_28 rfl (lv_at hl 1 rfl) ?_
      refine zgX10_57 (v := (zI S2 25)) hx hb hf hown P0 Z L296 rfl dX10_sweep_29 ?_
      refine lv_aload_n hx hb dX10_sweep_32 rfl (lv_at hl 1 rfl) ?_
      refine zgX10_52 (v := (zI S2 20)) hx hb hf hown P0 Z L277 rfl dX10_sweep_33 ?_
      obtain ⟨hin, h⟩ := zck_s h
      refine zsM_32 hO hx hb P0 Z hin dX10_sweep_36 (fun H locs Z => ?_)
      refine lv_aload_n hx hb dX10_sweep_37 rfl (lv_at hl 1 rfl) ?_
      refine lv_dup hx hb dX10_sweep_38 rfl ?_
      refine zgX10_57 (v := (zI S2 25)) hx hb hf hown P0 Z L296 rfl dX10_sweep_39 ?_
      refine lv_iconst (v := (nI 1)) hx hb dX10_sweep_42 (by decide) ?_
      refine lv_iadd hx hb dX10_sweep_43 ?_
      refine zpX10_57 hO hx hb hf hown P0 Z L296 dX10_sweep_44 (fun H locs Z => ?_)
      exact B47 r1 (wI (wA S2 32 ((zI S2 25).toNatClampNeg) (zI S2 20)) 25 ((zI S2 25) + (nI 1))) h _ _ Z ls (lv_sub hl [1, 0] rfl)
  · have h := zi_t q h
    refine lv_bipush (v := (-3 : Int32)) hx hb dX10_sweep_12 (by decide) ?_
    exact zr_i hY P0 hx hb hr hlocks h Z dX10_sweep_14

set_option maxHeartbeats 4000000 in
set_option maxRecDepth 100000 in
theorem kX10_count {g : zG} (l : Launch) (hO : zinjM g) (a1 : Int32) (S : zSt) (r : Int32) (S' : zSt) (h : fX10_count a1 S = some (r, S')) : zMi (zYM g) l yX10_count vX10_count { frames := 2, cells := 0, slots := 0, locals := 43 } ([.ref (zad g 0), .int a1] : List Value) S r S' := by
  have hY := zOkM hO
  refine Met.ofW (cc := cX10_count) (maxL := 2) (ret := (some .int)) (by decide) rfl ?_
  intro p e s m args below meth c s₁ B hml hv
  obtain ⟨rfl, hP⟩ := hv
  have hx := B.exec
  have hb := B.bytes
  have hr := B.returns
  have hts := atoms_spec (ws := vX10_count) B.pre
  have hT : ∀ w ∈ zTB, w.before ([.ref (zad g 0), .int a1] : List Value).toArray s = true := fun w h => hts w (List.mem_cons_of_mem _ h)
  have hown : s.vm.findClass RX10 = some m.cls := findClass_of_methodNamed B.named
  have hlocks := B.notSynchronized
  have P0 := hP.2
  have Z : zZ (zYM g) S s s.heap [] := ⟨hP.1, va_S.rf⟩
  have hf : ∀ w ∈ u_ws RX10 TX10 67, w.before ([.ref (zad g 0), .int a1] : List Value).toArray s = true := fun w hw => hT w (mU_X10 w hw)
  have L153 := hT _ mF_X10_153
  have L292 := hT _ mF_X10_292
  have L256 := hT _ mF_X10_256
  have L274 := hT _ mF_X10_274
  have L277 := hT _ mF_X10_277
  have L262 := hT _ mF_X10_262
  have L259 := hT _ mF_X10_259
  have hl := lv_entry ([.ref (zad g 0), .int a1] : List Value) (n := 2) (Nat.le_of_ble_eq_true rfl)
  rw [lg_entry_eq]
  generalize (lg_sl ([.ref (zad g 0), .int a1] : List Value) ++ List.replicate (2 - (lg_sl ([.ref (zad g 0), .int a1] : List Value)).length) Slot.unset).toArray = ls at hl ⊢
  have hl : lv_has ls 2 [(0, .ref (zad g 0)), (1, .int a1)] := hl
  unfold fX10_count at h
  refine lv_aload_n hx hb dX10_count_0 rfl (lv_at hl 0 rfl) ?_
  refine lv_iconst (v := (nI 0)) hx hb dX10_count_1 (by decide) ?_
  refine zpX10_0 hO hx hb hf hown P0 Z L153 dX10_count_2 (fun H locs Z => ?_)
  refine lv_aload_n hx hb dX10_count_5 rfl (lv_at hl 0 rfl) ?_
  refine zgX10_56 (v := (zI S 24)) hx hb hf hown P0 Z L292 rfl dX10_count_6 ?_
  refine lv_if_ne (tgt := 15) hx hb dX10_count_9 (by decide) (fun q => ?_) (fun q => ?_)
  · have h := zi_f q h
    refine lv_iload_n hx hb dX10_count_15 rfl (lv_at hl 1 rfl) ?_
    by_cases q0 : a1 = (nI 0)
    · have h := zi_t q0 h
      refine ztbl (off := 44) (tgt := 60) hx hb q0 dX10_count_16 (by decide) (by decide) (by decide) (by decide) ?_
      refine lv_aload_n hx hb dX10_count_60 rfl (lv_at hl 0 rfl) ?_
      refine zgX10_43 (v := (zI S 15)) hx hb hf hown P0 Z L256 rfl dX10_count_61 ?_
      exact zr_i hY P0 hx hb hr hlocks h Z dX10_count_64
    have h := zi_f q0 h
    by_cases q1 : a1 = (nI 1)
    · have h := zi_t q1 h
      refine ztbl (off := 49) (tgt := 65) hx hb q1 dX10_count_16 (by decide) (by decide) (by decide) (by decide) ?_
      refine lv_aload_n hx hb dX10_count_65 rfl (lv_at hl 0 rfl) ?_
      obtain ⟨r1, S2, ec, h⟩ := zbd_s h
      refine zc_Vi hY P0 ⟨hx, hb, hml, hown, hT⟩ (As := []) (rest := []) (kX10_findKept l hO  (wI S 0 (nI 0)) r1 S2 ec) (cwV 0 hT (zgV mL_X10_365 mI_X10_findKept mS_X10_findKept mN_X10 mC_X10_findKept) rfl rfl rfl hdnX10_findKept ⟨Nat.le_of_ble_eq_true rfl, Nat.le_of_ble_eq_true rfl⟩) (zrecM_0 P0 Z) Z rfl hl.1 rfl (Nat.le_of_ble_eq_true rfl) dX10_count_66 (fun H locs Z => ?_)
      exact zr_i hY P0 hx hb hr hlocks h Z dX10_count_69
    have h := zi_f q1 h
    by_cases q2 : a1 = (nI 2)
    · have h := zi_t q2 h
      refine ztbl (off := 54) (tgt := 70) hx hb q2 dX10_count_16 (by decide) (by decide) (by decide) (by decide) ?_
      refine lv_aload_n hx hb dX10_count_70 rfl (lv_at hl 0 rfl) ?_
      obtain ⟨r3, S4, ec, h⟩ := zbd_s h
      refine zc_Vi hY P0 ⟨hx, hb, hml, hown, hT⟩ (As := []) (rest := []) (kX10_size l hO  (wI S 0 (nI 0)) r3 S4 ec) (cwV 0 hT (zgV mL_X10_315 mI_X10_size mS_X10_size mN_X10 mC_X10_size) rfl rfl rfl hdnX10_size ⟨Nat.le_of_ble_eq_true rfl, Nat.le_of_ble_eq_true rfl⟩) (zrecM_0 P0 Z) Z rfl hl.1 rfl (Nat.le_of_ble_eq_true rfl) dX10_count_71 (fun H locs Z => ?_)
      exact zr_i hY P0 hx hb hr hlocks h Z dX10_count_74
    have h := zi_f q2 h
    by_cases q3 : a1 = (nI 3)
    · have h := zi_t q3 h
      refine ztbl (off := 59) (tgt := 75) hx hb q3 dX10_count_16 (by decide) (by decide) (by decide) (by decide) ?_
      refine lv_aload_n hx hb dX10_count_75 rfl (lv_at hl 0 rfl) ?_
      refine zgX10_50 (v := (zI S 19)) hx hb hf hown P0 Z L274 rfl dX10_count_76 ?_
      refine lv_iconst (v := (nI 1)) hx hb dX10_count_79 (by decide) ?_
      refine lv_isub hx hb dX10_count_80 ?_
      exact zr_i hY P0 hx hb hr hlocks h Z dX10_count_81
    have h := zi_f q3 h
    by_cases q4 : a1 = (nI 4)
    · have h := zi_t q4 h
      refine ztbl (off := 66) (tgt := 82) hx hb q4 dX10_count_16 (by decide) (by decide) (by decide) (by decide) ?_
      refine lv_aload_n hx hb dX10_count_82 rfl (lv_at hl 0 rfl) ?_
      refine zgX10_52 (v := (zI S 20)) hx hb hf hown P0 Z L277 rfl dX10_count_83 ?_
      exact zr_i hY P0 hx hb hr hlocks h Z dX10_count_86
    have h := zi_f q4 h
    by_cases q5 : a1 = (nI 5)
    · have h := zi_t q5 h
      refine ztbl (off := 71) (tgt := 87) hx hb q5 dX10_count_16 (by decide) (by decide) (by decide) (by decide) ?_
      refine lv_aload_n hx hb dX10_count_87 rfl (lv_at hl 0 rfl) ?_
      refine zgX10_45 (v := (zI S 17)) hx hb hf hown P0 Z L262 rfl dX10_count_88 ?_
      exact zr_i hY P0 hx hb hr hlocks h Z dX10_count_91
    have h := zi_f q5 h
    by_cases q6 : a1 = (nI 6)
    · have h := zi_t q6 h
      refine ztbl (off := 76) (tgt := 92) hx hb q6 dX10_count_16 (by decide) (by decide) (by decide) (by decide) ?_
      refine lv_aload_n hx hb dX10_count_92 rfl (lv_at hl 0 rfl) ?_
      refine zgX10_44 (v := (zI S 16)) hx hb hf hown P0 Z L259 rfl dX10_count_93 ?_
      exact zr_i hY P0 hx hb hr hlocks h Z dX10_count_96
    have h := zi_f q6 h
    have u0 : ¬ a1.toInt = 0 := lv_neT q0 (by decide)
    have u1 : ¬ a1.toInt = 1 := lv_neT q1 (by decide)
    have u2 : ¬ a1.toInt = 2 := lv_neT q2 (by decide)
    have u3 : ¬ a1.toInt = 3 := lv_neT q3 (by decide)
    have u4 : ¬ a1.toInt = 4 := lv_neT q4 (by decide)
    have u5 : ¬ a1.toInt = 5 := lv_neT q5 (by decide)
    have u6 : ¬ a1.toInt = 6 := lv_neT q6 (by decide)
    refine lv_tableOut (tgt := 97) hx hb dX10_count_16 (by omega) (by decide) ?_
    refine lv_iconst (v := (-1 : Int32)) hx hb dX10_count_97 (by decide) ?_
    exact zr_i hY P0 hx hb hr hlocks h Z dX10_count_98
  · have h := zi_t q h
    refine lv_bipush (v := (-3 : Int32)) hx hb dX10_count_12 (by decide) ?_
    exact zr_i hY P0 hx hb hr hlocks h Z dX10_count_14

set_option maxHeartbeats 4000000 in
set_option maxRecDepth 100000 in
theorem kX10_isNode {g : zG} (l : Launch) (hO : zinjM g) (a1 : Int32) (S : zSt) (r : Int32) (S' : zSt) (h : fX10_isNode a1 S = some (r, S')) : zMi (zYM g) l yX10_isNode vX10_isNode { frames := 1, cells := 0, slots := 0, locals := 22 } ([.ref (zad g 0), .int a1] : List Value) S r S' := by
  have hY := zOkM hO
  refine Met.ofW (cc := cX10_isNode) (maxL := 2) (ret := (some .boolean)) (by decide) rfl ?_
  intro p e s m args below meth c s₁ B hml hv
  obtain ⟨rfl, hP⟩ := hv
  have hx := B.exec
  have hb := B.bytes
  have hr := B.returns
  have hts := atoms_spec (ws := vX10_isNode) B.pre
  have hT : ∀ w ∈ zTB, w.before ([.ref (zad g 0), .int a1] : List Value).toArray s = true := fun w h => hts w (List.mem_cons_of_mem _ h)
  have hown : s.vm.findClass RX10 = some m.cls := findClass_of_methodNamed B.named
  have hlocks := B.notSynchronized
  have P0 := hP.2
  have Z : zZ (zYM g) S s s.heap [] := ⟨hP.1, va_S.rf⟩
  have hf : ∀ w ∈ u_ws RX10 TX10 67, w.before ([.ref (zad g 0), .int a1] : List Value).toArray s = true := fun w hw => hT w (mU_X10 w hw)
  have L110 := hT _ mF_X10_110
  have hl := lv_entry ([.ref (zad g 0), .int a1] : List Value) (n := 2) (Nat.le_of_ble_eq_true rfl)
  rw [lg_entry_eq]
  generalize (lg_sl ([.ref (zad g 0), .int a1] : List Value) ++ List.replicate (2 - (lg_sl ([.ref (zad g 0), .int a1] : List Value)).length) Slot.unset).toArray = ls at hl ⊢
  have hl : lv_has ls 2 [(0, .ref (zad g 0)), (1, .int a1)] := hl
  unfold fX10_isNode at h
  refine lv_iload_n hx hb dX10_isNode_0 rfl (lv_at hl 1 rfl) ?_
  refine lv_iconst (v := (nI 0)) hx hb dX10_isNode_1 (by decide) ?_
  refine lv_sipush (v := (nI 399)) hx hb dX10_isNode_2 (by decide) ?_
  obtain ⟨r1, S2, ec, h⟩ := zbd_s h
  refine zc_Si hY P0 ⟨hx, hb, hml, hown, hT⟩ (As := [.int a1, .int (nI 0), .int (nI 399)]) (rest := []) (kX10_in l hO a1 (nI 0) (nI 399) S r1 S2 ec) (va_cwS 3 hT (zgS mL_X10_160 mT_X10_in mN_X10 mC_X10_in) rfl rfl rfl hdnX10_in ⟨Nat.le_of_ble_eq_true rfl, Nat.le_of_ble_eq_true rfl⟩) Z rfl hl.1 rfl (Nat.le_of_ble_eq_true rfl) dX10_isNode_5 (fun H locs Z => ?_)
  refine lv_if_eq (tgt := 26) hx hb dX10_isNode_8 (by decide) (fun q => ?_) (fun q => ?_)
  · have h := zi_t q h
    refine lv_iconst (v := (nI 0)) hx hb dX10_isNode_26 (by decide) ?_
    exact zr_z hY P0 hx hb hr hlocks (by decide) h Z dX10_isNode_27
  · have h := zi_f q h
    refine lv_aload_n hx hb dX10_isNode_11 rfl (lv_at hl 0 rfl) ?_
    refine zgX10_39 hx hb hf hown P0 Z L110 dX10_isNode_12 ?_
    refine lv_iload_n hx hb dX10_isNode_15 rfl (lv_at hl 1 rfl) ?_
    obtain ⟨v3, ev, hin, h⟩ := zld_s h
    refine zlM_24 hx hb P0 Z ev hin dX10_isNode_16 ?_
    refine lv_bipush (v := (nI 7)) hx hb dX10_isNode_17 (by decide) ?_
    refine lv_icmp_eq (tgt := 26) hx hb dX10_isNode_19 (by decide) (fun q => ?_) (fun q => ?_)
    · have h := zi_t q h
      refine lv_iconst (v := (nI 0)) hx hb dX10_isNode_26 (by decide) ?_
      exact zr_z hY P0 hx hb hr hlocks (by decide) h Z dX10_isNode_27
    · have h := zi_f q h
      refine lv_iconst (v := (nI 1)) hx hb dX10_isNode_22 (by decide) ?_
      refine lv_goto (tgt := 27) hx hb dX10_isNode_23 (by decide) ?_
      exact zr_z hY P0 hx hb hr hlocks (by decide) h Z dX10_isNode_27

set_option maxHeartbeats 4000000 in
set_option maxRecDepth 100000 in
theorem kX10_holders {g : zG} (l : Launch) (hO : zinjM g) (a1 : Int32) (S : zSt) (r : Int32) (S' : zSt) (h : fX10_holders a1 S = some (r, S')) : zMi (zYM g) l yX10_holders vX10_holders { frames := 2, cells := 0, slots := 0, locals := 43 } ([.ref (zad g 0), .int a1] : List Value) S r S' := by
  have hY := zOkM hO
  refine Met.ofW (cc := cX10_holders) (maxL := 6) (ret := (some .int)) (by decide) rfl ?_
  intro p e s m args below meth c s₁ B hml hv
  obtain ⟨rfl, hP⟩ := hv
  have hx := B.exec
  have hb := B.bytes
  have hr := B.returns
  have hts := atoms_spec (ws := vX10_holders) B.pre
  have hT : ∀ w ∈ zTB, w.before ([.ref (zad g 0), .int a1] : List Value).toArray s = true := fun w h => hts w (List.mem_cons_of_mem _ h)
  have hown : s.vm.findClass RX10 = some m.cls := findClass_of_methodNamed B.named
  have hlocks := B.notSynchronized
  have P0 := hP.2
  have Z : zZ (zYM g) S s s.heap [] := ⟨hP.1, va_S.rf⟩
  have hf : ∀ w ∈ u_ws RX10 TX10 67, w.before ([.ref (zad g 0), .int a1] : List Value).toArray s = true := fun w hw => hT w (mU_X10 w hw)
  have L147 := hT _ mF_X10_147
  have L110 := hT _ mF_X10_110
  have L113 := hT _ mF_X10_113
  have L116 := hT _ mF_X10_116
  have L271 := hT _ mF_X10_271
  have L128 := hT _ mF_X10_128
  have B87 : ∀ (k10 : Int32 × Int32 × Int32 × Int32 × zSt → Option (Int32 × zSt)) (K10 : (∀ (x1 : Int32) (x2 : Int32) (x3 : Int32) (x4 : Int32) (S : zSt), k10 (x1, x2, x3, x4, S) = some (r, S') → ∀ (H : Heap) (locs : List Loc), zZ (zYM g) S s H locs → ∀ ls : Array Slot, lv_has ls 6 [(0, .ref (zad g 0)), (1, .int x1), (2, .int x2), (3, .int x3), (4, .int x4)] → W p l e (headSpec vX10_holders { frames := 2, cells := 0, slots := 0, locals := 43 }).room s m ([.ref (zad g 0), .int a1] : List Value).toArray below meth c H locs 0 0 (MQ below (zQi (zYM g) r S') ([.ref (zad g 0), .int a1] : List Value).toArray s 0 0 (zYM g).2.2.1) (F0 m 10 ls []))) (x1 : Int32) (x2 : Int32) (x4 : Int32) (y0 : Int32) (S : zSt), fX10_holders_87 k10 x1 x2 x4 y0 S = some (r, S') → ∀ (H : Heap) (locs : List Loc), zZ (zYM g) S s H locs → ∀ ls : Array Slot, lv_has ls 6 [(0, .ref (zad g 0)), (1, .int x1), (2, .int x2), (4, .int x4)] → W p l e (headSpec vX10_holders { frames := 2, cells := 0, slots := 0, locals := 43 }).room s m ([.ref (zad g 0), .int a1] : List Value).toArray below meth c H locs 0 0 (MQ below (zQi (zYM g) r S') ([.ref (zad g 0), .int a1] : List Value).toArray s 0 0 (zYM g).2.2.1) (F0 m 87 ls [.int y0]) := by
    intro k10 K10 x1 x2 x4 y0 S h H locs Z ls hl
    unfold fX10_holders_87 at h
    refine lv_iconst (v := (nI 0)) hx hb dX10_holders_87 (by decide) ?_
    refine lv_iadd hx hb dX10_holders_88 ?_
    refine lv_istore_n (lv' := [(3, .int (y0 + (nI 0))), (0, .ref (zad g 0)), (1, .int x1), (2, .int x2), (4, .int x4)]) hx hb dX10_holders_89 rfl hl (by decide) rfl (fun ls hl => ?_)
    refine lv_iinc (v := (x4 + (nI 1))) (lv' := [(4, .int (x4 + (nI 1))), (3, .int (y0 + (nI 0))), (0, .ref (zad g 0)), (1, .int x1), (2, .int x2)]) hx hb dX10_holders_90 hl (k := 4) rfl rfl (by decide) rfl (fun ls hl => ?_)
    refine lv_goto (tgt := 10) hx hb dX10_holders_93 (by decide) ?_
    exact K10 x1 x2 (y0 + (nI 0)) (x4 + (nI 1)) S h _ _ Z ls (lv_sub hl [2, 3, 4, 1, 0] rfl)
  have B55 : ∀ (k10 : Int32 × Int32 × Int32 × Int32 × zSt → Option (Int32 × zSt)) (K10 : (∀ (x1 : Int32) (x2 : Int32) (x3 : Int32) (x4 : Int32) (S : zSt), k10 (x1, x2, x3, x4, S) = some (r, S') → ∀ (H : Heap) (locs : List Loc), zZ (zYM g) S s H locs → ∀ ls : Array Slot, lv_has ls 6 [(0, .ref (zad g 0)), (1, .int x1), (2, .int x2), (3, .int x3), (4, .int x4)] → W p l e (headSpec vX10_holders { frames := 2, cells := 0, slots := 0, locals := 43 }).room s m ([.ref (zad g 0), .int a1] : List Value).toArray below meth c H locs 0 0 (MQ below (zQi (zYM g) r S') ([.ref (zad g 0), .int a1] : List Value).toArray s 0 0 (zYM g).2.2.1) (F0 m 10 ls []))) (x1 : Int32) (x2 : Int32) (x4 : Int32) (x5 : Int32) (y0 : Int32) (y1 : Int32) (S : zSt), fX10_holders_55 k10 x1 x2 x4 x5 y0 y1 S = some (r, S') → ∀ (H : Heap) (locs : List Loc), zZ (zYM g) S s H locs → ∀ ls : Array Slot, lv_has ls 6 [(0, .ref (zad g 0)), (1, .int x1), (2, .int x2), (4, .int x4), (5, .int x5)] → W p l e (headSpec vX10_holders { frames := 2, cells := 0, slots := 0, locals := 43 }).room s m ([.ref (zad g 0), .int a1] : List Value).toArray below meth c H locs 0 0 (MQ below (zQi (zYM g) r S') ([.ref (zad g 0), .int a1] : List Value).toArray s 0 0 (zYM g).2.2.1) (F0 m 55 ls [.int y0, .int y1]) := by
    intro k10 K10 x1 x2 x4 x5 y0 y1 S h H locs Z ls hl
    unfold fX10_holders_55 at h
    refine lv_iadd hx hb dX10_holders_55 ?_
    refine lv_istore_n (lv' := [(3, .int (y1 + y0)), (0, .ref (zad g 0)), (1, .int x1), (2, .int x2), (4, .int x4), (5, .int x5)]) hx hb dX10_holders_56 rfl hl (by decide) rfl (fun ls hl => ?_)
    refine lv_iload_n hx hb dX10_holders_57 rfl (lv_at hl 0 rfl) ?_
    refine lv_aload_n hx hb dX10_holders_58 rfl (lv_at hl 1 rfl) ?_
    refine zgX10_39 hx hb hf hown P0 Z L110 dX10_holders_59 ?_
    refine lv_iload hx hb dX10_holders_62 (lv_at hl 5 rfl) ?_
    obtain ⟨v8, ev, hin, h⟩ := zld_s h
    refine zlM_24 hx hb P0 Z ev hin dX10_holders_64 ?_
    obtain ⟨r9, S10, ec, h⟩ := zbd_s h
    refine zc_Si hY P0 ⟨hx, hb, hml, hown, hT⟩ (As := [.int v8]) (rest := [.int (y1 + y0)]) (kX10_fields l hO v8 S r9 S10 ec) (va_cwS 1 hT (zgS mL_X10_362 mT_X10_fields mN_X10 mC_X10_fields) rfl rfl rfl hdnX10_fields ⟨Nat.le_of_ble_eq_true rfl, Nat.le_of_ble_eq_true rfl⟩) Z rfl hl.1 rfl (Nat.le_of_ble_eq_true rfl) dX10_holders_65 (fun H locs Z => ?_)
    refine lv_iconst (v := (nI 1)) hx hb dX10_holders_68 (by decide) ?_
    refine lv_icmp_le (tgt := 87) hx hb dX10_holders_69 (by decide) (fun q => ?_) (fun q => ?_)
    · have h := zi_t q h
      exact B87 k10 K10 x1 x2 x4 (y1 + y0) S10 h _ _ Z ls (lv_sub hl [1, 2, 3, 4] rfl)
    · have h := zi_f q h
      refine lv_aload_n hx hb dX10_holders_72 rfl (lv_at hl 1 rfl) ?_
      refine zgX10_41 hx hb hf hown P0 Z L116 dX10_holders_73 ?_
      refine lv_iload hx hb dX10_holders_76 (lv_at hl 5 rfl) ?_
      obtain ⟨v11, ev, hin, h⟩ := zld_s h
      refine zlM_26 hx hb P0 Z ev hin dX10_holders_78 ?_
      refine lv_iload_n hx hb dX10_holders_79 rfl (lv_at hl 2 rfl) ?_
      refine lv_icmp_ne (tgt := 87) hx hb dX10_holders_80 (by decide) (fun q => ?_) (fun q => ?_)
      · have h := zi_f q h
        exact B87 k10 K10 x1 x2 x4 (y1 + y0) S10 h _ _ Z ls (lv_sub hl [1, 2, 3, 4] rfl)
      · have h := zi_t q h
        refine lv_iconst (v := (nI 1)) hx hb dX10_holders_83 (by decide) ?_
        refine lv_goto (tgt := 88) hx hb dX10_holders_84 (by decide) ?_
        refine lv_iadd hx hb dX10_holders_88 ?_
        refine lv_istore_n (lv' := [(3, .int ((y1 + y0) + (nI 1))), (0, .ref (zad g 0)), (1, .int x1), (2, .int x2), (4, .int x4), (5, .int x5)]) hx hb dX10_holders_89 rfl hl (by decide) rfl (fun ls hl => ?_)
        refine lv_iinc (v := (x4 + (nI 1))) (lv' := [(4, .int (x4 + (nI 1))), (3, .int ((y1 + y0) + (nI 1))), (0, .ref (zad g 0)), (1, .int x1), (2, .int x2), (5, .int x5)]) hx hb dX10_holders_90 hl (k := 4) rfl rfl (by decide) rfl (fun ls hl => ?_)
        refine lv_goto (tgt := 10) hx hb dX10_holders_93 (by decide) ?_
        exact K10 x1 x2 ((y1 + y0) + (nI 1)) (x4 + (nI 1)) S10 h _ _ Z ls (lv_sub hl [2, 3, 4, 1, 0] rfl)
  have B54 : ∀ (k10 : Int32 × Int32 × Int32 × Int32 × zSt → Option (Int32 × zSt)) (K10 : (∀ (x1 : Int32) (x2 : Int32) (x3 : Int32) (x4 : Int32) (S : zSt), k10 (x1, x2, x3, x4, S) = some (r, S') → ∀ (H : Heap) (locs : List Loc), zZ (zYM g) S s H locs → ∀ ls : Array Slot, lv_has ls 6 [(0, .ref (zad g 0)), (1, .int x1), (2, .int x2), (3, .int x3), (4, .int x4)] → W p l e (headSpec vX10_holders { frames := 2, cells := 0, slots := 0, locals := 43 }).room s m ([.ref (zad g 0), .int a1] : List Value).toArray below meth c H locs 0 0 (MQ below (zQi (zYM g) r S') ([.ref (zad g 0), .int a1] : List Value).toArray s 0 0 (zYM g).2.2.1) (F0 m 10 ls []))) (x1 : Int32) (x2 : Int32) (x4 : Int32) (x5 : Int32) (y0 : Int32) (S : zSt), fX10_holders_54 k10 x1 x2 x4 x5 y0 S = some (r, S') → ∀ (H : Heap) (locs : List Loc), zZ (zYM g) S s H locs → ∀ ls : Array Slot, lv_has ls 6 [(0, .ref (zad g 0)), (1, .int x1), (2, .int x2), (4, .int x4), (5, .int x5)] → W p l e (headSpec vX10_holders { frames := 2, cells := 0, slots := 0, locals := 43 }).room s m ([.ref (zad g 0), .int a1] : List Value).toArray below meth c H locs 0 0 (MQ below (zQi (zYM g) r S') ([.ref (zad g 0), .int a1] : List Value).toArray s 0 0 (zYM g).2.2.1) (F0 m 54 ls [.int y0]) := by
    intro k10 K10 x1 x2 x4 x5 y0 S h H locs Z ls hl
    unfold fX10_holders_54 at h
    refine lv_iconst (v := (nI 0)) hx hb dX10_holders_54 (by decide) ?_
    exact B55 k10 K10 x1 x2 x4 x5 (nI 0) y0 S h _ _ Z ls (lv_sub hl [0, 1, 2, 3, 4] rfl)
  have B99 : ∀ (n : Nat) (x1 : Int32) (x3 : Int32) (x4 : Int32) (S : zSt), fX10_holders_99L n (x1, x3, x4, S) = some (r, S') → ∀ (H : Heap) (locs : List Loc), zZ (zYM g) S s H locs → ∀ ls : Array Slot, lv_has ls 6 [(0, .ref (zad g 0)), (1, .int x1), (3, .int x3), (4, .int x4)] → W p l e (headSpec vX10_holders { frames := 2, cells := 0, slots := 0, locals := 43 }).room s m ([.ref (zad g 0), .int a1] : List Value).toArray below meth c H locs 0 0 (MQ below (zQi (zYM g) r S') ([.ref (zad g 0), .int a1] : List Value).toArray s 0 0 (zYM g).2.2.1) (F0 m 99 ls []) := by
    intro n
    induction n with
    | zero => intro x1 x3 x4 S h; exact absurd h (fun h => nomatch h)
    | succ n K99 =>
      intro x1 x3 x4 S h H locs Z ls hl
      have h : fX10_holders_99 (fX10_holders_99L n) x1 x3 x4 S = some (r, S') := h
      unfold fX10_holders_99 at h
      refine lv_iload hx hb dX10_holders_99 (lv_at hl 3 rfl) ?_
      refine lv_aload_n hx hb dX10_holders_101 rfl (lv_at hl 0 rfl) ?_
      refine zgX10_48 (v := (zI S 18)) hx hb hf hown P0 Z L271 rfl dX10_holders_102 ?_
      refine lv_icmp_ge (tgt := 133) hx hb dX10_holders_105 (by decide) (fun q => ?_) (fun q => ?_)
      · have h := zi_t q h
        refine lv_iload_n hx hb dX10_holders_133 rfl (lv_at hl 2 rfl) ?_
        exact zr_i hY P0 hx hb hr hlocks h Z dX10_holders_134
      · have h := zi_f q h
        refine lv_iload_n hx hb dX10_holders_108 rfl (lv_at hl 2 rfl) ?_
        refine lv_aload_n hx hb dX10_holders_109 rfl (lv_at hl 0 rfl) ?_
        refine zgX10_49 hx hb hf hown P0 Z L128 dX10_holders_110 ?_
        refine lv_iload hx hb dX10_holders_113 (lv_at hl 3 rfl) ?_
        obtain ⟨v12, ev, hin, h⟩ := zld_s h
        refine zlM_30 hx hb P0 Z ev hin dX10_holders_115 ?_
        refine lv_iload_n hx hb dX10_holders_116 rfl (lv_at hl 1 rfl) ?_
        refine lv_icmp_ne (tgt := 124) hx hb dX10_holders_117 (by decide) (fun q => ?_) (fun q => ?_)
        · have h := zi_f q h
          refine lv_iconst (v := (nI 0)) hx hb dX10_holders_124 (by decide) ?_
          refine lv_iadd hx hb dX10_holders_125 ?_
          refine lv_istore_n (lv' := [(3, .int (x3 + (nI 0))), (0, .ref (zad g 0)), (1, .int x1), (4, .int x4)]) hx hb dX10_holders_126 rfl hl (by decide) rfl (fun ls hl => ?_)
          refine lv_iinc (v := (x4 + (nI 1))) (lv' := [(4, .int (x4 + (nI 1))), (3, .int (x3 + (nI 0))), (0, .ref (zad g 0)), (1, .int x1)]) hx hb dX10_holders_127 hl (k := 3) rfl rfl (by decide) rfl (fun ls hl => ?_)
          refine lv_goto (tgt := 99) hx hb dX10_holders_130 (by decide) ?_
          exact K99 x1 (x3 + (nI 0)) (x4 + (nI 1)) S h _ _ Z ls (lv_sub hl [2, 3, 1, 0] rfl)
        · have h := zi_t q h
          refine lv_iconst (v := (nI 1)) hx hb dX10_holders_120 (by decide) ?_
          refine lv_goto (tgt := 125) hx hb dX10_holders_121 (by decide) ?_
          refine lv_iadd hx hb dX10_holders_125 ?_
          refine lv_istore_n (lv' := [(3, .int (x3 + (nI 1))), (0, .ref (zad g 0)), (1, .int x1), (4, .int x4)]) hx hb dX10_holders_126 rfl hl (by decide) rfl (fun ls hl => ?_)
          refine lv_iinc (v := (x4 + (nI 1))) (lv' := [(4, .int (x4 + (nI 1))), (3, .int (x3 + (nI 1))), (0, .ref (zad g 0)), (1, .int x1)]) hx hb dX10_holders_127 hl (k := 3) rfl rfl (by decide) rfl (fun ls hl => ?_)
          refine lv_goto (tgt := 99) hx hb dX10_holders_130 (by decide) ?_
          exact K99 x1 (x3 + (nI 1)) (x4 + (nI 1)) S h _ _ Z ls (lv_sub hl [2, 3, 1, 0] rfl)
  have B10 : ∀ (n : Nat) (x1 : Int32) (x2 : Int32) (x3 : Int32) (x4 : Int32) (S : zSt), fX10_holders_10L n (x1, x2, x3, x4, S) = some (r, S') → ∀ (H : Heap) (locs : List Loc), zZ (zYM g) S s H locs → ∀ ls : Array Slot, lv_has ls 6 [(0, .ref (zad g 0)), (1, .int x1), (2, .int x2), (3, .int x3), (4, .int x4)] → W p l e (headSpec vX10_holders { frames := 2, cells := 0, slots := 0, locals := 43 }).room s m ([.ref (zad g 0), .int a1] : List Value).toArray below meth c H locs 0 0 (MQ below (zQi (zYM g) r S') ([.ref (zad g 0), .int a1] : List Value).toArray s 0 0 (zYM g).2.2.1) (F0 m 10 ls []) := by
    intro n
    induction n with
    | zero => intro x1 x2 x3 x4 S h; exact absurd h (fun h => nomatch h)
    | succ n K10 =>
      intro x1 x2 x3 x4 S h H locs Z ls hl
      have h : fX10_holders_10 (fX10_holders_10L n) x1 x2 x3 x4 S = some (r, S') := h
      unfold fX10_holders_10 at h
      refine lv_iload hx hb dX10_holders_10 (lv_at hl 4 rfl) ?_
      refine lv_iload_n hx hb dX10_holders_12 rfl (lv_at hl 2 rfl) ?_
      refine lv_icmp_ge (tgt := 96) hx hb dX10_holders_13 (by decide) (fun q => ?_) (fun q => ?_)
      · have h := zi_t q h
        refine lv_iconst (v := (nI 0)) hx hb dX10_holders_96 (by decide) ?_
        refine lv_istore (lv' := [(4, .int (nI 0)), (0, .ref (zad g 0)), (1, .int x1), (2, .int x2), (3, .int x3)]) hx hb dX10_holders_97 hl (by decide) rfl (fun ls hl => ?_)
        exact B99 zFU x1 x3 (nI 0) S h _ _ Z ls (lv_sub hl [1, 2, 4, 0] rfl)
      · have h := zi_f q h
        refine lv_aload_n hx hb dX10_holders_16 rfl (lv_at hl 0 rfl) ?_
        refine zgX10_64 hx hb hf hown P0 Z L147 dX10_holders_17 ?_
        refine lv_iload hx hb dX10_holders_20 (lv_at hl 4 rfl) ?_
        obtain ⟨v3, ev, hin, h⟩ := zld_s h
        refine zlM_36 hx hb P0 Z ev hin dX10_holders_22 ?_
        refine lv_istore (lv' := [(5, .int v3), (0, .ref (zad g 0)), (1, .int x1), (2, .int x2), (3, .int x3), (4, .int x4)]) hx hb dX10_holders_23 hl (by decide) rfl (fun ls hl => ?_)
        refine lv_iload_n hx hb dX10_holders_25 rfl (lv_at hl 4 rfl) ?_
        refine lv_aload_n hx hb dX10_holders_26 rfl (lv_at hl 1 rfl) ?_
        refine zgX10_39 hx hb hf hown P0 Z L110 dX10_holders_27 ?_
        refine lv_iload hx hb dX10_holders_30 (lv_at hl 0 rfl) ?_
        obtain ⟨v4, ev, hin, h⟩ := zld_s h
        refine zlM_24 hx hb P0 Z ev hin dX10_holders_32 ?_
        obtain ⟨r5, S6, ec, h⟩ := zbd_s h
        refine zc_Si hY P0 ⟨hx, hb, hml, hown, hT⟩ (As := [.int v4]) (rest := [.int x3]) (kX10_fields l hO v4 S r5 S6 ec) (va_cwS 1 hT (zgS mL_X10_362 mT_X10_fields mN_X10 mC_X10_fields) rfl rfl rfl hdnX10_fields ⟨Nat.le_of_ble_eq_true rfl, Nat.le_of_ble_eq_true rfl⟩) Z rfl hl.1 rfl (Nat.le_of_ble_eq_true rfl) dX10_holders_33 (fun H locs Z => ?_)
        refine lv_if_le (tgt := 54) hx hb dX10_holders_36 (by decide) (fun q => ?_) (fun q => ?_)
        · have h := zi_t q h
          exact B54 (fX10_holders_10L n) K10 x1 x2 x4 v3 x3 S6 h _ _ Z ls (lv_sub hl [1, 2, 3, 5, 0] rfl)
        · have h := zi_f q h
          refine lv_aload_n hx hb dX10_holders_39 rfl (lv_at hl 1 rfl) ?_
          refine zgX10_40 hx hb hf hown P0 Z L113 dX10_holders_40 ?_
          refine lv_iload hx hb dX10_holders_43 (lv_at hl 0 rfl) ?_
          obtain ⟨v7, ev, hin, h⟩ := zld_s h
          refine zlM_25 hx hb P0 Z ev hin dX10_holders_45 ?_
          refine lv_iload_n hx hb dX10_holders_46 rfl (lv_at hl 2 rfl) ?_
          refine lv_icmp_ne (tgt := 54) hx hb dX10_holders_47 (by decide) (fun q => ?_) (fun q => ?_)
          · have h := zi_f q h
            exact B54 (fX10_holders_10L n) K10 x1 x2 x4 v3 x3 S6 h _ _ Z ls (lv_sub hl [1, 2, 3, 5, 0] rfl)
          · have h := zi_t q h
            refine lv_iconst (v := (nI 1)) hx hb dX10_holders_50 (by decide) ?_
            refine lv_goto (tgt := 55) hx hb dX10_holders_51 (by decide) ?_
            exact B55 (fX10_holders_10L n) K10 x1 x2 x4 v3 (nI 1) x3 S6 h _ _ Z ls (lv_sub hl [1, 2, 3, 5, 0] rfl)
  have hl := lv_entry ([.ref (zad g 0), .int a1] : List Value) (n := 6) (Nat.le_of_ble_eq_true rfl)
  rw [lg_entry_eq]
  generalize (lg_sl ([.ref (zad g 0), .int a1] : List Value) ++ List.replicate (6 - (lg_sl ([.ref (zad g 0), .int a1] : List Value)).length) Slot.unset).toArray = ls at hl ⊢
  have hl : lv_has ls 6 [(0, .ref (zad g 0)), (1, .int a1)] := hl
  unfold fX10_holders at h
  refine lv_aload_n hx hb dX10_holders_0 rfl (lv_at hl 0 rfl) ?_
  obtain ⟨r1, S2, ec, h⟩ := zbd_s h
  refine zc_Vi hY P0 ⟨hx, hb, hml, hown, hT⟩ (As := []) (rest := []) (kX10_findKept l hO  S r1 S2 ec) (cwV 0 hT (zgV mL_X10_365 mI_X10_findKept mS_X10_findKept mN_X10 mC_X10_findKept) rfl rfl rfl hdnX10_findKept ⟨Nat.le_of_ble_eq_true rfl, Nat.le_of_ble_eq_true rfl⟩) (zrecM_0 P0 Z) Z rfl hl.1 rfl (Nat.le_of_ble_eq_true rfl) dX10_holders_1 (fun H locs Z => ?_)
  refine lv_istore_n (lv' := [(2, .int r1), (0, .ref (zad g 0)), (1, .int a1)]) hx hb dX10_holders_4 rfl hl (by decide) rfl (fun ls hl => ?_)
  refine lv_iconst (v := (nI 0)) hx hb dX10_holders_5 (by decide) ?_
  refine lv_istore_n (lv' := [(3, .int (nI 0)), (2, .int r1), (0, .ref (zad g 0)), (1, .int a1)]) hx hb dX10_holders_6 rfl hl (by decide) rfl (fun ls hl => ?_)
  refine lv_iconst (v := (nI 0)) hx hb dX10_holders_7 (by decide) ?_
  refine lv_istore (lv' := [(4, .int (nI 0)), (3, .int (nI 0)), (2, .int r1), (0, .ref (zad g 0)), (1, .int a1)]) hx hb dX10_holders_8 hl (by decide) rfl (fun ls hl => ?_)
  exact B10 zFU a1 r1 (nI 0) (nI 0) S2 h _ _ Z ls (lv_sub hl [3, 4, 2, 1, 0] rfl)
