theorem zThr_at {sa : Nat} {A B : Nat → Prop} {s t : State} {H : Heap} {locs : List Loc} (hA : ∀ q, B q → A q) (h : zThr sa A s s.heap) (hS : va_S A s.heap H locs) (hw : s.WarmedH t.vm) (ht : t.heap = H) : zThr sa B t t.heap := by
  obtain ⟨hR, hU, hN, hW⟩ := h
  subst ht
  refine ⟨vk_R.warm hw hR, ((vx_Zq.moved hw.alike (hU.kept hS.2.1))).narrow hA, ((vx_Zq.moved hw.alike (hN.kept hS.2.1))).narrow hA, fun w hm => ?_⟩
  have h1 := hW w hm
  simp only [zXB, List.mem_cons, List.not_mem_nil, or_false] at hm
  rcases hm with e | e | e | e <;> subst e
  · exact va_Nw.warmD hw h1
  · exact va_Nw.warmD hw h1
  · exact va_Nw.warmD hw h1
  · exact va_Nw.warmC hw h1
theorem zThr_bl {sa : Nat} {A : Nat → Prop} {U V : State} (hv : V.vm = U.vm) (hh : V.heap = U.heap) (h : zThr sa A U U.heap) : zThr sa A V V.heap := by
  obtain ⟨hR, hU, hN, hW⟩ := h
  rw [hh]
  exact ⟨vk_R.same (u := U) hv hR, vx_Zq.moved (u := U) (by rw [hv]; exact Vm.Alike.refl U.vm) hU, vx_Zq.moved (u := U) (by rw [hv]; exact Vm.Alike.refl U.vm) hN, fun w hw => va_Nw.same (by revert w; decide +kernel) (u := U) hv.symm (hW w hw)⟩
section ZLAW3
variable {p : Program} {l : Launch} {e : Env} {R : Room} {s : State} {m : MethodId} {args : Array Value} {below : List Frame} {meth : Method} {c : Code} {H : Heap} {locs : List Loc} {cells slots mc ms : Nat} {Q : State → Prop}
variable {y : MethodName} {bytes cc : ByteArray} {maxL nL index pc : Nat} {ret : Option FieldType} {ws : List Cond} {rm : Room} {Ts : List Cond} {own : String} {ls : Array Slot} {S S2 : zSt} {fo : Nat → Int64} {g : zG} {d : Nat → Nat} {qo sa : Nat}
theorem zlS {v1 : Int32} {u1 : zSt × (Nat → Int64)} {B : State → Prop} {hh : List (Nat × Nat × Nat × Nat)} (F : zLF g d qo sa s) (Cf : CallFix p m c cc nL s args Ts own) (hM : vx_Met l y ws rm (va_Pc [.ref (zad g 0), .ref qo] B) (va_Qi (fun (v : Int32) (u : zSt × (Nat → Int64)) => v = v1 ∧ u = u1) (zPS g qo) (zAq g qo)) (vx_X (fun _ : Unit => False) (fun _ _ _ => True) zNo) mc ms (zAq g qo)) (cw : vx_CSW R s args own index y bytes maxL ret hh ws rm mc ms 2)
    (hbl : FrameBlind (va_Pc [.ref (zad g 0), .ref qo] B)) (hpre : ∀ U : State, U.heap = H → s.WarmedH U.vm → B U) (Z : zLW g d qo S S2 fo s H locs) (hc : cells + mc ≤ R.cells ∧ slots + ms ≤ R.slots) (hsize : ls.size = nL) (hdg : decode cc pc = .ok (.invokestatic index, 3))
    (kk : ∀ (H1 : Heap) (locs1 : List Loc), zLW g d qo u1.1 S2 u1.2 s H1 locs1 → W p l e R s m args below meth c H1 locs1 (cells + mc) (slots + ms) Q (F0 m (pc + 3) ls [.int v1])) : W p l e R s m args below meth c H locs cells slots Q (F0 m pc ls [.ref qo, .ref (zad g 0)]) := by
  obtain ⟨hO, hO2, hx1, hx2, hx3, hx4, hx5, hx6, hP0, hTh⟩ := F
  obtain ⟨z1, z2, z3, z4⟩ := Z
  have hq : ∀ q, zAq g qo q → zNew s q := fun q h => h.elim (hx1 q) (fun e => by rw [e]; exact hx3)
  refine vx_calli (vx_runSX (As := [.ref (zad g 0), .ref qo]) (rest := []) Cf hM cw ⟨hbl, fun U hU hW => ⟨rfl, hpre U hU hW⟩⟩ rfl rfl hsize rfl (lv_room (Nat.le_of_ble_eq_true rfl)) hdg hc) z4 (fun q _ h => hq q h) (fun q h => hq q h) (fun q _ h => absurd h id) (fun _ _ _ _ _ _ _ _ _ h => h.elim) (fun r u t H1 locs1 ht hvm hw hB _ hk hS1 => ?_)
  obtain ⟨rfl, rfl⟩ := hw
  exact kk H1 locs1 ⟨by rw [← ht]; exact hB.1, zkp z2 hk (fun k x hx h => h.elim (fun h => hx4 _ h ((zDM hO2 S2).2 k x hx)) (fun h => hx6 (by rw [← h]; exact (zDM hO2 S2).2 k x hx))), by rw [← ht]; exact hB.2.2, hS1⟩
end ZLAW3
set_option maxHeartbeats 4000000 in
theorem zk_share {p : Program} {l : Launch} {e : Env} {s : State} {m : MethodId} {below : List Frame} {meth : Method} {c : Code} {H : Heap} {locs : List Loc} {cells slots : Nat} {Q : State → Prop} {ls : Array Slot} {S S2 : zSt} {fo : Nat → Int64} {g : zG} {d : Nat → Nat} {qo sa b L nc : Nat} {xs : Nat → Int32} {i : Int32} (hlt : l.stackTraces = false) (C0 : lw_At p s m meth c b L xs) (F : zLF g d qo sa s) (V : LV nc S S2) (Z : zLW g d qo S S2 fo s H locs) (hc : cells + 1 ≤ room_1.cells ∧ slots + 6 ≤ room_1.slots) (hl : lv_has ls 7 (zLoc b g d qo i))
    (kk : ∀ (S' S2' : zSt) (fo' : Nat → Int64) (H1 : Heap) (locs1 : List Loc) (ls : Array Slot), LV (nc + 1) S' S2' → zLW g d qo S' S2' fo' s H1 locs1 → lv_has ls 7 (zLoc b g d qo i) → W p l e room_1 s m #[Value.ref b] below meth c H1 locs1 (cells + 1) (slots + 6) Q (F0 m 626 ls [])) : W p l e room_1 s m #[Value.ref b] below meth c H locs cells slots Q (F0 m 582 ls []) := by
  obtain ⟨hx, hb, hr, hml, hown, hts, hX, hbl, hlocks, hgv⟩ := C0
  have hT : ∀ w ∈ zTB, w.before #[Value.ref b] s = true := fun w h => hts w (List.mem_filter.mp h).1
  have hq : ∀ q, zAq g qo q → zNew s q := fun q h => h.elim (F.2.2.1 q) (fun e => by rw [e]; exact F.2.2.2.2.1)
  have hpS : ∀ U : State, U.heap = H → s.WarmedH U.vm → zPS g qo (S, fo) U := fun U hU hW => ⟨by rw [hU]; exact Z.1, zP0_at hq F.2.2.2.2.2.2.2.2.1 Z.2.2.2 hW.alike hU, by rw [hU]; exact Z.2.2.1⟩
  obtain ⟨u, r, M', hu, e2, V3⟩ := c_share V
  refine lv_aload_n hx hb dL_law_582 rfl (lv_at hl 2 rfl) ?_
  refine lv_aload_n hx hb dL_law_583 rfl (lv_at hl 4 rfl) ?_
  rcases V3 with ⟨h0, h1, V'⟩ | ⟨h0, hn, h1, c1, X', e1, er, V'⟩
  · refine zlS (sa := sa) F ⟨hx, hb, hml, hown, hT⟩ (kL_shareB (sa := sa) l hlt F.1 F.2.2.2.2.2.2.1 S fo h0) (vx_cwSW 2 hT (zgS mL_L_94 mT_L_share mN_L mC_L_share) rfl rfl rfl hdL_share ⟨Nat.le_of_ble_eq_true rfl, Nat.le_of_ble_eq_true rfl⟩) (fun a U gg mk q => ⟨q.1, (zblSh (g := g) (qo := qo) (u := (S, fo)) [.ref (zad g 0), .ref qo] a U gg mk ⟨q.1, q.2.1⟩).2, zThr_bl (U := U) rfl rfl q.2.2⟩) (fun U hU hW => ⟨hpS U hU hW, zThr_at hq F.2.2.2.2.2.2.2.2.2 Z.2.2.2 hW hU⟩) Z hc hl.1 dL_law_584 (fun H locs Z => ?_)
    refine lv_istore (lv' := (5, .int (1 : Int32)) :: zLoc b g d qo i) hx hb dL_law_587 hl (by decide) rfl (fun ls hl => ?_)
    refine lv_aload_n hx hb dL_law_589 rfl (lv_at hl 4 rfl) ?_
    refine zlM F ⟨hx, hb, hml, hown, hT⟩ (As := []) (rest := []) (kX10_share l F.2.1 S2 r M' e2) (cwV 0 hT (zgV mL_L_99 mI_X10_share mS_X10_share mN_X10 mC_X10_share) rfl rfl rfl hdnX10_share ⟨Nat.le_of_ble_eq_true rfl, Nat.le_of_ble_eq_true rfl⟩) Z hc rfl hl.1 rfl (Nat.le_of_ble_eq_true rfl) dL_law_590 (fun H locs Z => ?_)
    refine lv_istore (lv' := (6, .int r) :: (5, .int (1 : Int32)) :: zLoc b g d qo i) hx hb dL_law_593 hl (by decide) rfl (fun ls hl => ?_)
    refine lv_aload_n hx hb dL_law_595 rfl (lv_at hl 5 rfl) ?_
    refine zlM F ⟨hx, hb, hml, hown, hT⟩ (As := []) (rest := []) (kX10_thrown l F.2.1 M' (zI M' 0) M' rfl) (cwV 0 hT (zgV mL_L_100 mI_X10_thrown mS_X10_thrown mN_X10 mC_X10_thrown) rfl rfl rfl hdnX10_thrown ⟨Nat.le_of_ble_eq_true rfl, Nat.le_of_ble_eq_true rfl⟩) Z hc rfl hl.1 rfl (Nat.le_of_ble_eq_true rfl) dL_law_596 (fun H locs Z => ?_)
    refine lv_iload hx hb dL_law_599 (lv_at hl 1 rfl) ?_
    refine lv_icmp_eq (tgt := 606) hx hb dL_law_601 (by decide) (fun _ => ?_) (fun q => absurd (show zI M' 0 = (1 : Int32) by rw [h1]; decide) q)
    refine lv_iload hx hb dL_law_606 (lv_at hl 1 rfl) ?_
    refine lv_if_ne (tgt := 623) hx hb dL_law_608 (by decide) (fun _ => ?_) (fun q => absurd q (by decide))
    refine lv_goto (tgt := 626) hx hb dL_law_623 (by decide) ?_
    exact kk _ _ _ _ _ _ V' Z (lv_sub hl [2, 3, 4, 5, 6] rfl)
  · refine W.widen (k := cells) (n := slots) (Nat.le_refl _) (Nat.le_refl _) ?_
    refine zlS (sa := sa) F ⟨hx, hb, hml, hown, hT⟩ (kL_shareA l F.1 F.2.2.2.2.2.2.1 S X' fo (nI 1000 * c1 / u) (kX9_shareA l F.1 S X' u c1 h0 hu hn e1)) (vx_cwSW 2 hT (zgS mL_L_94 mT_L_share mN_L mC_L_share) rfl rfl rfl hdL_share ⟨Nat.le_of_ble_eq_true rfl, Nat.le_of_ble_eq_true rfl⟩) (zblSh _) hpS Z ⟨by omega, by omega⟩ hl.1 dL_law_584 (fun H locs Z => ?_)
    refine W.widen (k := cells + 1) (n := slots + 6) (by omega) (by omega) ?_
    rw [← er] at Z
    refine lv_istore (lv' := (5, .int (0 : Int32)) :: zLoc b g d qo i) hx hb dL_law_587 hl (by decide) rfl (fun ls hl => ?_)
    refine lv_aload_n hx hb dL_law_589 rfl (lv_at hl 4 rfl) ?_
    refine zlM F ⟨hx, hb, hml, hown, hT⟩ (As := []) (rest := []) (kX10_share l F.2.1 S2 r M' e2) (cwV 0 hT (zgV mL_L_99 mI_X10_share mS_X10_share mN_X10 mC_X10_share) rfl rfl rfl hdnX10_share ⟨Nat.le_of_ble_eq_true rfl, Nat.le_of_ble_eq_true rfl⟩) Z hc rfl hl.1 rfl (Nat.le_of_ble_eq_true rfl) dL_law_590 (fun H locs Z => ?_)
    refine lv_istore (lv' := (6, .int r) :: (5, .int (0 : Int32)) :: zLoc b g d qo i) hx hb dL_law_593 hl (by decide) rfl (fun ls hl => ?_)
    refine lv_aload_n hx hb dL_law_595 rfl (lv_at hl 5 rfl) ?_
    refine zlM F ⟨hx, hb, hml, hown, hT⟩ (As := []) (rest := []) (kX10_thrown l F.2.1 M' (zI M' 0) M' rfl) (cwV 0 hT (zgV mL_L_100 mI_X10_thrown mS_X10_thrown mN_X10 mC_X10_thrown) rfl rfl rfl hdnX10_thrown ⟨Nat.le_of_ble_eq_true rfl, Nat.le_of_ble_eq_true rfl⟩) Z hc rfl hl.1 rfl (Nat.le_of_ble_eq_true rfl) dL_law_596 (fun H locs Z => ?_)
    refine lv_iload hx hb dL_law_599 (lv_at hl 1 rfl) ?_
    refine lv_icmp_eq (tgt := 606) hx hb dL_law_601 (by decide) (fun _ => ?_) (fun q => absurd (show zI M' 0 = (0 : Int32) by rw [h1]; decide) q)
    refine lv_iload hx hb dL_law_606 (lv_at hl 1 rfl) ?_
    refine lv_if_ne (tgt := 623) hx hb dL_law_608 (by decide) (fun q => absurd rfl q) (fun _ => ?_)
    refine lv_aload_n hx hb dL_law_611 rfl (lv_at hl 6 rfl) ?_
    refine lv_iconst (v := (nI 0)) hx hb dL_law_612 (by decide) ?_
    refine va_lald hx hb F.2.2.2.2.2.2.2.2.1.1 Z.2.2.1 0 1 rfl rfl (vp_in_nI (show 0 < 1 by decide) (by decide)) dL_law_613 ?_
    refine lv_iload hx hb dL_law_614 (lv_at hl 0 rfl) ?_
    refine lv_i2l hx hb dL_law_616 rfl ?_
    refine W.lcmp hx hb dL_law_617 ?_
    refine lv_if_eq (tgt := 623) hx hb dL_law_618 (by decide) (fun _ => ?_) (fun q => absurd ?_ q)
    · refine lv_goto (tgt := 626) hx hb dL_law_623 (by decide) ?_
      exact kk _ _ _ _ _ _ V' Z (lv_sub hl [2, 3, 4, 5, 6] rfl)
    · have e9 : vp_updL fo 0 r.toInt64 (nI 0).toNatClampNeg = r.toInt64 := by
        show (if (nI 0).toNatClampNeg = 0 then r.toInt64 else _) = _
        exact if_pos (by decide)
      show lg_cmp (vp_updL fo 0 r.toInt64 (nI 0).toNatClampNeg) r.toInt64 = 0
      rw [e9]
      simp [lg_cmp]
