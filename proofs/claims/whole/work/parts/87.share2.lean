abbrev vX9_share : List Cond := Cond.code yX9_share cX9_share 2 (some .int) :: zTB
theorem hdnX9_share : yX9_share.cls = RX9 ∧ yX9_share.cls ≠ "java/lang/invoke/MethodHandle" ∧ yX9_share.cls ≠ "java/lang/invoke/VarHandle" ∧ (parseMethodDescriptor yX9_share.desc).map (fun d => d.parameters.length) = some 0 := by decide +kernel
set_option maxHeartbeats 4000000 in
theorem kX9_shareA {g : zG} (l : Launch) (hO : zinjX g) (S S' : zSt) (u c : Int32) (h0 : zI S 0 = nI 1) (hu : zI S 14 = u) (hn : ¬ u = 0) (hc : fX1_countKept S = some (c, S')) : zMi (zYX g) l yX9_share vX9_share { frames := 4, cells := 0, slots := 0, locals := 88 } ([.ref (zad g 0)] : List Value) S (nI 1000 * c / u) S' := by
  have hY := zOkX hO
  refine Met.ofW (cc := cX9_share) (maxL := 2) (ret := (some .int)) (by decide) rfl ?_
  intro p e s m args below meth c0 s₁ B hml hv
  obtain ⟨rfl, hP⟩ := hv
  have hx := B.exec
  have hb := B.bytes
  have hr := B.returns
  have hts := atoms_spec (ws := vX9_share) B.pre
  have hT : ∀ w ∈ zTB, w.before ([.ref (zad g 0)] : List Value).toArray s = true := fun w h => hts w (List.mem_cons_of_mem _ h)
  have hown : s.vm.findClass RX9 = some m.cls := findClass_of_methodNamed B.named
  have hlocks := B.notSynchronized
  have P0 := hP.2
  have Z : zZ (zYX g) S s s.heap [] := ⟨hP.1, va_S.rf⟩
  have hf : ∀ w ∈ u_ws RX9 TX9 13, w.before ([.ref (zad g 0)] : List Value).toArray s = true := fun w hw => hT w (mU_X9 w hw)
  have hl := lv_entry ([.ref (zad g 0)] : List Value) (n := 2) (Nat.le_of_ble_eq_true rfl)
  rw [lg_entry_eq]
  generalize (lg_sl ([.ref (zad g 0)] : List Value) ++ List.replicate (2 - (lg_sl ([.ref (zad g 0)] : List Value)).length) Slot.unset).toArray = ls at hl ⊢
  have hl : lv_has ls 2 [(0, .ref (zad g 0))] := hl
  refine lv_aload_n hx hb dX9_share_0 rfl (lv_at hl 0 rfl) ?_
  refine zgX9_3 hx hb hf hown P0 Z (hT _ mF_X9_40) dX9_share_1 ?_
  refine zc_Vi hY P0 ⟨hx, hb, hml, hown, hT⟩ (As := []) (rest := []) (kX0_used l hO S u S (by rw [← hu]; rfl)) (cwV 0 hT (zgV mL_X9_138 mI_X0_used mS_X0_used mN_X0 mC_X0_used) rfl rfl rfl hdnX0_used ⟨Nat.le_of_ble_eq_true rfl, Nat.le_of_ble_eq_true rfl⟩) (zrecX_5 P0 Z) Z rfl hl.1 rfl (Nat.le_of_ble_eq_true rfl) dX9_share_4 (fun H locs Z => ?_)
  refine lv_istore_n (lv' := [(1, .int u), (0, .ref (zad g 0))]) hx hb dX9_share_7 rfl hl (by decide) rfl (fun ls hl => ?_)
  refine lv_aload_n hx hb dX9_share_8 rfl (lv_at hl 1 rfl) ?_
  refine zgX9_8 hx hb hf hown P0 Z (hT _ mF_X9_71) h0 dX9_share_9 ?_
  refine lv_if_eq (tgt := 19) hx hb dX9_share_12 (by decide) (fun q => absurd q (by decide)) (fun _ => ?_)
  refine lv_iload_n hx hb dX9_share_15 rfl (lv_at hl 0 rfl) ?_
  refine lv_if_ne (tgt := 29) hx hb dX9_share_16 (by decide) (fun _ => ?_) (fun q => absurd q hn)
  refine lv_sipush (v := (nI 1000)) hx hb dX9_share_29 (by decide) ?_
  refine lv_aload_n hx hb dX9_share_32 rfl (lv_at hl 1 rfl) ?_
  refine zgX9_6 hx hb hf hown P0 Z (hT _ mF_X9_63) dX9_share_33 ?_
  refine zc_Vi hY P0 ⟨hx, hb, hml, hown, hT⟩ (As := []) (rest := [.int (nI 1000)]) (kX1_countKept l hO S c S' hc) (cwV 0 hT (zgV mL_X9_141 mI_X1_countKept mS_X1_countKept mN_X1 mC_X1_countKept) rfl rfl rfl hdnX1_countKept ⟨Nat.le_of_ble_eq_true rfl, Nat.le_of_ble_eq_true rfl⟩) (zrecX_9 P0 Z) Z rfl hl.1 rfl (Nat.le_of_ble_eq_true rfl) dX9_share_36 (fun H locs Z => ?_)
  refine lv_imul hx hb dX9_share_39 ?_
  refine lv_iload_n hx hb dX9_share_40 rfl (lv_at hl 0 rfl) ?_
  refine lv_idiv hx hb dX9_share_41 hn ?_
  exact zr_i hY P0 hx hb hr hlocks rfl Z dX9_share_42
/-- what a throw of the class's own takes as given -/
def zThr (sa : Nat) (A : Nat → Prop) (U : State) (H : Heap) : Prop := vk_R RX9 198 "there is no program" sa U ∧ vx_Zq Bundle.tN "UNASSIGNED_STACK" Bundle.steD A U H ∧ vx_Zq Bundle.tN "SUPPRESSED_SENTINEL" Bundle.listD A U H ∧ ∀ w ∈ zXB, va_Nw w U
set_option maxHeartbeats 4000000 in
theorem kX9_shareB {g : zG} (l : Launch) (hlt : l.stackTraces = false) (hO : zinjX g) (S : zSt) (sa : Nat) (h0 : zI S 0 = 0) : vx_Met l yX9_share vX9_share { frames := 6, cells := 1, slots := 6, locals := 90 } (va_Pc [.ref (zad g 0)] (fun U => zPX (zYX g) S U ∧ zThr sa (zAX g) U U.heap)) (va_Qi (fun (_ : Int32) (_ : zSt) => False) (fun u => zPX (zYX g) u) (zAX g)) (vx_X (fun u : zSt => u = S) (fun E u t => E = "java/lang/ArithmeticException" ∧ zPX (zYX g) u t) (zAX g)) 1 6 (zAX g) := by
  have hY := zOkX hO
  refine vx_ofW (cc := cX9_share) (maxL := 2) (ret := (some .int)) (by decide) rfl ?_
  intro p e s m args below meth c0 s₁ B hml hno hv
  obtain ⟨rfl, hP, hR, hU, hN, hW⟩ := hv
  have hx := B.exec
  have hb := B.bytes
  have hts := atoms_spec (ws := vX9_share) B.pre
  have hT : ∀ w ∈ zTB, w.before ([.ref (zad g 0)] : List Value).toArray s = true := fun w h => hts w (List.mem_cons_of_mem _ h)
  have hown : s.vm.findClass RX9 = some m.cls := findClass_of_methodNamed B.named
  have hlocks := B.notSynchronized
  have P0 := hP.2
  have Z : zZ (zYX g) S s s.heap [] := ⟨hP.1, va_S.rf⟩
  have hf : ∀ w ∈ u_ws RX9 TX9 13, w.before ([.ref (zad g 0)] : List Value).toArray s = true := fun w hw => hT w (mU_X9 w hw)
  have hl := lv_entry ([.ref (zad g 0)] : List Value) (n := 2) (Nat.le_of_ble_eq_true rfl)
  rw [lg_entry_eq]
  generalize (lg_sl ([.ref (zad g 0)] : List Value) ++ List.replicate (2 - (lg_sl ([.ref (zad g 0)] : List Value)).length) Slot.unset).toArray = ls at hl ⊢
  have hl : lv_has ls 2 [(0, .ref (zad g 0))] := hl
  refine lv_aload_n hx hb dX9_share_0 rfl (lv_at hl 0 rfl) ?_
  refine zgX9_3 hx hb hf hown P0 Z (hT _ mF_X9_40) dX9_share_1 ?_
  refine zc_Vi hY P0 ⟨hx, hb, hml, hown, hT⟩ (As := []) (rest := []) (kX0_used l hO S (zI S 14) S rfl) (cwV 0 hT (zgV mL_X9_138 mI_X0_used mS_X0_used mN_X0 mC_X0_used) rfl rfl rfl hdnX0_used ⟨Nat.le_of_ble_eq_true rfl, Nat.le_of_ble_eq_true rfl⟩) (zrecX_5 P0 Z) Z rfl hl.1 rfl (Nat.le_of_ble_eq_true rfl) dX9_share_4 (fun H locs Z => ?_)
  refine lv_istore_n (lv' := [(1, .int (zI S 14)), (0, .ref (zad g 0))]) hx hb dX9_share_7 rfl hl (by decide) rfl (fun ls hl => ?_)
  refine lv_aload_n hx hb dX9_share_8 rfl (lv_at hl 1 rfl) ?_
  refine zgX9_8 hx hb hf hown P0 Z (hT _ mF_X9_71) h0 dX9_share_9 ?_
  refine lv_if_eq (tgt := 19) hx hb dX9_share_12 (by decide) (fun _ => ?_) (fun q => absurd rfl q)
  refine vx_throwS (own := RX9) (cls := "java/lang/ArithmeticException") (text := "there is no program") (names := ["java/lang/RuntimeException", "java/lang/Exception"]) (A := zAX g) hx hb hlt hown (by decide +kernel) (by decide +kernel) (hT _ mB_X9_196) (hT _ mN_AE) hR (vx_hat (B := zXB) (fun w h => hT w (zXg w h)) (fun w h => by rw [← zXn]; exact h) (fun w h => va_Nw.use (by revert w; decide +kernel) (hW w h))) (by decide +kernel) hU hN Z.2 (by rw [hl.1, hml]) dX9_share_19 dX9_share_22 dX9_share_23 dX9_share_25 dX9_share_28 (fun x hx => (hno x hx).elim) (by decide) (Nat.le_of_ble_eq_true rfl) (Nat.le_of_ble_eq_true rfl) (Nat.le_of_ble_eq_true rfl) hlocks (fun t hv hsz hk => ?_) (fun z hz => Z.2.2.2 z hz) (Nat.le_of_ble_eq_true rfl) (Nat.le_of_ble_eq_true rfl)
  have hS1 : va_S (zAX g) s.heap t.heap [] := ⟨Nat.le_trans Z.2.1 hsz, fun q h1 h2 => (hk q (Nat.lt_of_lt_of_le h1 Z.2.1)).trans (Z.2.2.1 q h1 h2), fun _ h => by cases h⟩
  have hP1 : va_P g.1 vwCl (zcX g S) t.heap := va_P.kept Z.1 (fun k x hx => hk x.1 ((Z.1 k x hx).lt))
  exact ⟨S, rfl, ⟨rfl, zPX_of (Y := zYX g) hY P0 ⟨hP1, hS1⟩ rfl hv⟩, hS1.1, hS1.2.1⟩
