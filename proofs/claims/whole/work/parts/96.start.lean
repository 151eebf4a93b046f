theorem zdis {A : Nat → Prop} {w1 w2 : va_W} (h : va_D A (w1 ++ w2)) {i j : Nat} {x y : Nat × va_E} (hi : w1[i]? = some x) (hj : w2[j]? = some y) : x.1 ≠ y.1 := fun e => by
  have l1 := (List.getElem?_eq_some_iff.mp hi).1
  have h1 := h.1 i (w1.length + j) x y (by rw [List.getElem?_append_left l1]; exact hi) (by rw [List.getElem?_append_right (by omega), Nat.add_sub_cancel_left]; exact hj) e
  omega
theorem zkX {g : zG} {S : zSt} {q : Nat} (h : zAX g q) : ∃ (i : Nat) (x : va_E), (zcX g S)[i]? = some (q, x) := by
  obtain ⟨i, hi, rfl⟩ := h
  have hl : i < (zcX g S).length := hi
  have h1 : ((zcX g S).map (fun q => q.1))[i]? = some (zad g i) := by rw [zcadX, List.getElem?_map, List.getElem?_range hi]; rfl
  rw [List.getElem?_map, List.getElem?_eq_getElem hl] at h1
  exact ⟨i, ((zcX g S)[i]).2, by rw [List.getElem?_eq_getElem hl]; exact congrArg some (Prod.ext (Option.some.inj h1) rfl)⟩
theorem zkM {g : zG} {S : zSt} {q : Nat} (h : zAM g q) : ∃ (i : Nat) (x : va_E), (zcM g S)[i]? = some (q, x) := by
  obtain ⟨i, hi, rfl⟩ := h
  have hl : i < (zcM g S).length := hi
  have h1 : ((zcM g S).map (fun q => q.1))[i]? = some (zad g i) := by rw [zcadM, List.getElem?_map, List.getElem?_range hi]; rfl
  rw [List.getElem?_map, List.getElem?_eq_getElem hl] at h1
  exact ⟨i, ((zcM g S)[i]).2, by rw [List.getElem?_eq_getElem hl]; exact congrArg some (Prod.ext (Option.some.inj h1) rfl)⟩
set_option maxHeartbeats 4000000 in
set_option maxRecDepth 100000 in
/-- from the entry, for every script of at most 3072 ints, the law comes to its end with true -/
theorem whole_start {p : Program} {e : Env} {s : State} {m : MethodId} {below : List Frame} {meth : Method} {c : Code} (l : Launch) (hlt : l.stackTraces = false) {b L : Nat} {xs : Nat → Int32} (hL : L ≤ 3072) (C0 : lw_At p s m meth c b L xs) : W p l e room_1 s m #[Value.ref b] below meth c s.heap [] 0 0 (lw_Z below #[Value.ref b] s) (entryFrame m ([Value.ref b] : List Value).toArray 7) := by
  obtain ⟨hx, hb, hr, hml, hown, hts, hX, hbl, hlocks, hgv⟩ := id C0
  have hT : ∀ w ∈ zTB, w.before #[Value.ref b] s = true := fun w h => hts w (List.mem_filter.mp h).1
  have hs : ∀ c ∈ zFL, c.before #[Value.ref b] s = true := flat_of_before _ hgv
  have hA : ∀ q : Nat, s.heap.size ≤ q → zNew s q := fun _ h => h
  obtain ⟨t1, t2, hN⟩ := zgN hs hts
  obtain ⟨ad, av, hR, hZ⟩ := zgS2 hs hts
  obtain ⟨sa, hTh⟩ := zgT hs hts
  obtain ⟨D, ct, hK⟩ := zgK hT
  have hN9 : va_Nw (.methodLinkNest RX9 9 yX7_init RX9) s := va_Nw.of rfl (hts _ tbO.2.1.1)
  have hN18 : va_Nw (.methodLinkNest RX9 18 yX4_init RX9) s := va_Nw.of rfl (hts _ tbO.2.1.2.1)
  have hN39 : va_Nw (.methodLinkNest RX9 39 yX0_init RX9) s := va_Nw.of rfl (hts _ tbO.2.1.2.2.1)
  have hN46 : va_Nw (.methodLinkNest RX9 46 yX6_init RX9) s := va_Nw.of rfl (hts _ tbO.2.1.2.2.2)
  have hS : va_S (zNew s) s.heap s.heap [] := va_S.rf
  have hP : va_P D vwCl [] s.heap := fun k q h => by simp at h
  have hD : va_D (zNew s) [] := ⟨fun i j p q h => by simp at h, fun k q h => by simp at h⟩
  have hl := lv_entry ([.ref b] : List Value) (n := 7) (Nat.le_of_ble_eq_true rfl)
  rw [lg_entry_eq]
  generalize (lg_sl ([.ref b] : List Value) ++ List.replicate (7 - (lg_sl ([.ref b] : List Value)).length) Slot.unset).toArray = ls at hl ⊢
  have hl : lv_has ls 7 [(0, .ref b)] := hl
  refine va_new (ci := 9) (fs := [.null, .null, .null, .null, .null, .null, .null, .null, .int 0, .int 0, .int 0, .int 0, .int 0]) (C := RX9) (T := TX9) (N := 13) hx hb hT mU_X9 tyX9 tyX9_ok hown (hT _ mB_L_8) (hT _ mW_X9) (hT _ mN_X9) hK hP hD hS hA rfl (fun j hj => by rcases (show j = 0 ∨ j = 1 ∨ j = 2 ∨ j = 3 ∨ j = 4 ∨ j = 5 ∨ j = 6 ∨ j = 7 ∨ j = 8 ∨ j = 9 ∨ j = 10 ∨ j = 11 ∨ j = 12 by omega) with rfl | rfl | rfl | rfl | rfl | rfl | rfl | rfl | rfl | rfl | rfl | rfl | rfl <;> rfl) (Nat.le_of_ble_eq_true rfl) (Nat.le_of_ble_eq_true rfl) dL_law_0 (fun q0 H hP hD hS => ?_)
  have hP : va_P D vwCl [(q0, .inr (9, [.null, .null, .null, .null, .null, .null, .null, .null, .int 0, .int 0, .int 0, .int 0, .int 0]))] H := hP
  have hD : va_D (zNew s) [(q0, .inr (9, [.null, .null, .null, .null, .null, .null, .null, .null, .int 0, .int 0, .int 0, .int 0, .int 0]))] := hD
  refine lv_dup hx hb dL_law_3 rfl ?_
  have hFc := va_free (wc := [(q0, .inr (9, [.null, .null, .null, .null, .null, .null, .null, .null, .int 0, .int 0, .int 0, .int 0, .int 0]))]) hD hS hA [0] rfl
  refine va_callv (va_runI (As := []) (rest := [.ref q0]) ⟨hx, hb, hml, hown, hT⟩ (iX9 l D ct q0 H.size ad av) (cwI 0 hT (zgI mC_X9_init) rfl rfl rfl (hT _ mN_X9) (hT _ mL_L_15) (hT _ mI_X9_init) rfl hdiX9 ⟨Nat.le_of_ble_eq_true rfl, Nat.le_of_ble_eq_true rfl⟩) ⟨(fun a U g mk q => by obtain ⟨q0, q1, qP, qK, qD, n1, n2, n3, n4, qR, qZ⟩ := q; exact ⟨q0, q1, qP, va_K.moved (u := U) (U := U.calling g mk a) (Vm.Alike.refl U.vm) qK, qD, va_Nw.same (U := U.calling g mk a) rfl rfl n1, va_Nw.same (U := U.calling g mk a) rfl rfl n2, va_Nw.same (U := U.calling g mk a) rfl rfl n3, va_Nw.same (U := U.calling g mk a) rfl rfl n4, vk_R.same (u := U) (U := U.calling g mk a) rfl qR, zSP.moved (u := U) (U := U.calling g mk a) (Vm.Alike.refl U.vm) qZ⟩), fun U hU hW => ⟨rfl, by rw [hU], by rw [hU]; exact hP, va_K.moved hW.alike hK, hD.weaken (fun _ _ _ _ => trivial), va_Nw.warmM hW hN9, va_Nw.warmM hW hN18, va_Nw.warmM hW hN39, va_Nw.warmM hW hN46, vk_R.warm hW hR, zSP.put hU hW.alike ((hZ.kept hS.2.1).narrow hFc)⟩⟩ rfl rfl hl.1 rfl (lv_room (Nat.le_of_ble_eq_true rfl)) dL_law_4 ⟨Nat.le_of_ble_eq_true rfl, Nat.le_of_ble_eq_true rfl⟩) hS (fun q _ h => hFc q h) hFc (fun u4 t H1 locs ht hvm h5 hB hz1 hk1 hS => ?_)
  obtain ⟨hP1, hK1, hD1⟩ := hB
  rw [ht] at hP1
  obtain ⟨hP, hD⟩ := va_join (wr := []) (w1 := wX9 ct q0 u4) hP hD [0] [] rfl rfl (by decide) (by decide) hk1 hFc hP1 hD1
  generalize H1 = H at hP hS ⊢
  have hP : va_P D vwCl (wX9 ct q0 u4) H := hP
  have hD : va_D (zNew s) (wX9 ct q0 u4) := hD
  refine lv_astore_n (lv' := [(1, .ref q0), (0, .ref b)]) hx hb dL_law_7 rfl hl (by decide) rfl (fun ls hl => ?_)
  refine va_new (ci := 10) (fs := [.int 0, .null, .int 0, .null, .int 0, .int 0, .int 0, .long 0, .int 0, .int 0, .int 0, .int 0, .null, .null, .null, .null, .null, .null, .int 0, .null, .null, .null, .null, .null, .int 0, .null, .null, .int 0, .null, .int 0, .null, .null, .null, .null, .int 0, .int 0, .null, .null, .null, .null, .null, .null, .null, .int 0, .int 0, .int 0, .null, .null, .int 0, .null, .int 0, .null, .int 0, .int 0, .int 0, .int 0, .int 0, .int 0, .null, .null, .null, .int 0, .int 0, .null, .null, .int 0, .null]) (C := RX10) (T := TX10) (N := 67) hx hb hT mU_X10 tyX10 tyX10_ok hown (hT _ mB_L_16) (hT _ mW_X10) (hT _ mN_X10) hK hP hD hS hA rfl (fun j hj => by rcases (show j = 0 ∨ j = 1 ∨ j = 2 ∨ j = 3 ∨ j = 4 ∨ j = 5 ∨ j = 6 ∨ j = 7 ∨ j = 8 ∨ j = 9 ∨ j = 10 ∨ j = 11 ∨ j = 12 ∨ j = 13 ∨ j = 14 ∨ j = 15 ∨ j = 16 ∨ j = 17 ∨ j = 18 ∨ j = 19 ∨ j = 20 ∨ j = 21 ∨ j = 22 ∨ j = 23 ∨ j = 24 ∨ j = 25 ∨ j = 26 ∨ j = 27 ∨ j = 28 ∨ j = 29 ∨ j = 30 ∨ j = 31 ∨ j = 32 ∨ j = 33 ∨ j = 34 ∨ j = 35 ∨ j = 36 ∨ j = 37 ∨ j = 38 ∨ j = 39 ∨ j = 40 ∨ j = 41 ∨ j = 42 ∨ j = 43 ∨ j = 44 ∨ j = 45 ∨ j = 46 ∨ j = 47 ∨ j = 48 ∨ j = 49 ∨ j = 50 ∨ j = 51 ∨ j = 52 ∨ j = 53 ∨ j = 54 ∨ j = 55 ∨ j = 56 ∨ j = 57 ∨ j = 58 ∨ j = 59 ∨ j = 60 ∨ j = 61 ∨ j = 62 ∨ j = 63 ∨ j = 64 ∨ j = 65 ∨ j = 66 by omega) with rfl | rfl | rfl | rfl | rfl | rfl | rfl | rfl | rfl | rfl | rfl | rfl | rfl | rfl | rfl | rfl | rfl | rfl | rfl | rfl | rfl | rfl | rfl | rfl | rfl | rfl | rfl | rfl | rfl | rfl | rfl | rfl | rfl | rfl | rfl | rfl | rfl | rfl | rfl | rfl | rfl | rfl | rfl | rfl | rfl | rfl | rfl | rfl | rfl | rfl | rfl | rfl | rfl | rfl | rfl | rfl | rfl | rfl | rfl | rfl | rfl | rfl | rfl | rfl | rfl | rfl | rfl <;> rfl) (Nat.le_of_ble_eq_true rfl) (Nat.le_of_ble_eq_true rfl) dL_law_8 (fun q8 H hP hD hS => ?_)
  refine lv_dup hx hb dL_law_11 rfl ?_
  have hPc := hP.sub (ws' := [(q8, .inr (10, [.int 0, .null, .int 0, .null, .int 0, .int 0, .int 0, .long 0, .int 0, .int 0, .int 0, .int 0, .null, .null, .null, .null, .null, .null, .int 0, .null, .null, .null, .null, .null, .int 0, .null, .null, .int 0, .null, .int 0, .null, .null, .null, .null, .int 0, .int 0, .null, .null, .null, .null, .null, .null, .null, .int 0, .int 0, .int 0, .null, .null, .int 0, .null, .int 0, .null, .int 0, .int 0, .int 0, .int 0, .int 0, .int 0, .null, .null, .null, .int 0, .int 0, .null, .null, .int 0, .null]))]) [39] rfl
  have hDc := hD.sub (ws' := [(q8, .inr (10, [.int 0, .null, .int 0, .null, .int 0, .int 0, .int 0, .long 0, .int 0, .int 0, .int 0, .int 0, .null, .null, .null, .null, .null, .null, .int 0, .null, .null, .null, .null, .null, .int 0, .null, .null, .int 0, .null, .int 0, .null, .null, .null, .null, .int 0, .int 0, .null, .null, .null, .null, .null, .null, .null, .int 0, .int 0, .int 0, .null, .null, .int 0, .null, .int 0, .null, .int 0, .int 0, .int 0, .int 0, .int 0, .int 0, .null, .null, .null, .int 0, .int 0, .null, .null, .int 0, .null]))]) [39] (by decide) rfl
  have hFc := va_free (wc := [(q8, .inr (10, [.int 0, .null, .int 0, .null, .int 0, .int 0, .int 0, .long 0, .int 0, .int 0, .int 0, .int 0, .null, .null, .null, .null, .null, .null, .int 0, .null, .null, .null, .null, .null, .int 0, .null, .null, .int 0, .null, .int 0, .null, .null, .null, .null, .int 0, .int 0, .null, .null, .null, .null, .null, .null, .null, .int 0, .int 0, .int 0, .null, .null, .int 0, .null, .int 0, .null, .int 0, .int 0, .int 0, .int 0, .int 0, .int 0, .null, .null, .null, .int 0, .int 0, .null, .null, .int 0, .null]))]) hD hS hA [39] rfl
  refine va_callv (va_runI (As := []) (rest := [.ref q8]) ⟨hx, hb, hml, hown, hT⟩ (iX10 l D ct q8 H.size) (cwI 0 hT (zgI mC_X10_init) rfl rfl rfl (hT _ mN_X10) (hT _ mL_L_18) (hT _ mI_X10_init) rfl hdiX10 ⟨Nat.le_of_ble_eq_true rfl, Nat.le_of_ble_eq_true rfl⟩) ⟨zz_blind, fun U hU hW => ⟨rfl, by rw [hU], by rw [hU]; exact hPc, va_K.moved hW.alike hK, hDc.weaken (fun _ _ _ _ => trivial)⟩⟩ rfl rfl hl.1 rfl (lv_room (Nat.le_of_ble_eq_true rfl)) dL_law_12 ⟨Nat.le_of_ble_eq_true rfl, Nat.le_of_ble_eq_true rfl⟩) hS (fun q _ h => hFc q h) hFc (fun u12 t H1 locs ht hvm h5 hB hz1 hk1 hS => ?_)
  obtain ⟨hP1, hK1, hD1⟩ := hB
  rw [ht] at hP1
  obtain ⟨hP, hD⟩ := va_join (wr := wX9 ct q0 u4) (w1 := wX10 ct q8 u12) hP hD [39] [0, 1, 2, 3, 4, 5, 6, 7, 8, 9, 10, 11, 12, 13, 14, 15, 16, 17, 18, 19, 20, 21, 22, 23, 24, 25, 26, 27, 28, 29, 30, 31, 32, 33, 34, 35, 36, 37, 38] rfl rfl (by decide) (by decide) hk1 hFc hP1 hD1
  generalize H1 = H at hP hS ⊢
  refine lv_astore_n (lv' := [(2, .ref q8), (1, .ref q0), (0, .ref b)]) hx hb dL_law_15 rfl hl (by decide) rfl (fun ls hl => ?_)
  refine lv_iconst (v := (nI 1)) hx hb dL_law_16 (by decide) ?_
  refine zz_newa (atype := .long) (ty := .long) (n := (nI 1)) (N' := 1) (a0 := (1, .inr (.inl (fun _ => 0)))) hx hb (hT _ mA_long) rfl hK hP hD hS hA 1 rfl (fun _ => rfl) (by decide) (by decide) (Nat.le_of_ble_eq_true rfl) (Nat.le_of_ble_eq_true rfl) (Nat.le_of_ble_eq_true rfl) dL_law_17 (fun q17 H hP hD hS => ?_)
  refine lv_astore_n (lv' := [(3, .ref q17), (2, .ref q8), (1, .ref q0), (0, .ref b)]) hx hb dL_law_19 rfl hl (by decide) rfl (fun ls hl => ?_)
  refine lv_iconst (v := (nI (6 * 0))) hx hb dL_law_20 (by decide) ?_
  refine lv_istore (lv' := [(4, .int (nI (6 * 0))), (3, .ref q17), (2, .ref q8), (1, .ref q0), (0, .ref b)]) hx hb dL_law_21 hl (by decide) rfl (fun ls hl => ?_)
  have hPX : va_P D vwCl (zcX (D, adX q0 u4, ct, t1, t2) S0X) H := hP.sub [0, 1, 3, 16, 14, 19, 24, 27, 30, 34, 38, 2, 4, 5, 6, 7, 8, 9, 10, 11, 12, 13, 17, 18, 15, 20, 21, 22, 23, 25, 26, 28, 29, 31, 32, 33, 35, 36, 37] rfl
  have hPM : va_P D vwCl (zcM (zh (D, adX q0 u4, ct, t1, t2) (adM q8 u12)) S0M) H := hP.sub [39, 40, 41, 42, 43, 44, 45, 46, 47, 48, 49, 50, 51, 52, 53, 54, 55, 56, 57, 58, 59, 60, 61, 62, 63, 64, 65, 66, 67, 68, 69, 70, 71, 72, 73, 74, 75, 76] rfl
  have hPo : va_P D vwCl (zOutC (D, adX q0 u4, ct, t1, t2) q17 (fun _ => 0)) H := hP.sub [77] rfl
  have hDX : va_D (zNew s) (zcX (D, adX q0 u4, ct, t1, t2) S0X) := hD.sub [0, 1, 3, 16, 14, 19, 24, 27, 30, 34, 38, 2, 4, 5, 6, 7, 8, 9, 10, 11, 12, 13, 17, 18, 15, 20, 21, 22, 23, 25, 26, 28, 29, 31, 32, 33, 35, 36, 37] (by decide) rfl
  have hDM : va_D (zNew s) (zcM (zh (D, adX q0 u4, ct, t1, t2) (adM q8 u12)) S0M) := hD.sub [39, 40, 41, 42, 43, 44, 45, 46, 47, 48, 49, 50, 51, 52, 53, 54, 55, 56, 57, 58, 59, 60, 61, 62, 63, 64, 65, 66, 67, 68, 69, 70, 71, 72, 73, 74, 75, 76] (by decide) rfl
  have hDo : va_D (zNew s) (zOutC (D, adX q0 u4, ct, t1, t2) q17 (fun _ => 0)) := hD.sub [77] (by decide) rfl
  have hDA : va_D (zNew s) (zcX (D, adX q0 u4, ct, t1, t2) S0X ++ (zcM (zh (D, adX q0 u4, ct, t1, t2) (adM q8 u12)) S0M ++ zOutC (D, adX q0 u4, ct, t1, t2) q17 (fun _ => 0))) := hD.sub [0, 1, 3, 16, 14, 19, 24, 27, 30, 34, 38, 2, 4, 5, 6, 7, 8, 9, 10, 11, 12, 13, 17, 18, 15, 20, 21, 22, 23, 25, 26, 28, 29, 31, 32, 33, 35, 36, 37, 39, 40, 41, 42, 43, 44, 45, 46, 47, 48, 49, 50, 51, 52, 53, 54, 55, 56, 57, 58, 59, 60, 61, 62, 63, 64, 65, 66, 67, 68, 69, 70, 71, 72, 73, 74, 75, 76, 77] (by decide) rfl
  have hDB : va_D (zNew s) (zcM (zh (D, adX q0 u4, ct, t1, t2) (adM q8 u12)) S0M ++ zOutC (D, adX q0 u4, ct, t1, t2) q17 (fun _ => 0)) := hD.sub [39, 40, 41, 42, 43, 44, 45, 46, 47, 48, 49, 50, 51, 52, 53, 54, 55, 56, 57, 58, 59, 60, 61, 62, 63, 64, 65, 66, 67, 68, 69, 70, 71, 72, 73, 74, 75, 76, 77] (by decide) rfl
  generalize eg : (D, adX q0 u4, ct, t1, t2) = g at hPX hPM hPo hDX hDM hDo hDA hDB
  have eD : D = g.1 := by rw [← eg]
  have e0 : q0 = zad g 0 := by rw [← eg]; rfl
  have e8 : q8 = adM q8 u12 0 := rfl
  have hP0 : zP0 g (zNew s) s s.heap := by rw [← eg]; exact ⟨hK, hN⟩
  rw [eD] at hPX hPM hPo
  generalize adM q8 u12 = d at hPM hDM hDA hDB e8
  have F : zLF g d q17 sa s := by
    refine ⟨(zinjX_of hDX).1, (zinjM_of hDM).1, (zinjX_of hDX).2, (zinjM_of hDM).2, hDo.2 0 _ rfl, fun q h1 h2 => ?_, fun h1 => ?_, fun h1 => ?_, hP0, hTh⟩
    · obtain ⟨i, x, hx1⟩ := zkX (S := S0X) h1
      obtain ⟨j, y, hy1⟩ := zkM (S := S0M) h2
      have l1 := (List.getElem?_eq_some_iff.mp hy1).1
      exact zdis hDA hx1 (j := j) (y := (q, y)) (by rw [List.getElem?_append_left l1]; exact hy1) rfl
    · obtain ⟨i, x, hx1⟩ := zkX (S := S0X) h1
      exact zdis hDA hx1 (j := 38) (y := (q17, .inl (zac g 1, 1, .inr (.inl (fun _ => 0))))) rfl rfl
    · obtain ⟨i, x, hx1⟩ := zkM (S := S0M) h1
      exact zdis hDB hx1 (j := 0) (y := (q17, .inl (zac g 1, 1, .inr (.inl (fun _ => 0))))) rfl rfl
  have hl : lv_has ls 7 (zLoc b g d q17 (nI (6 * 0))) := by
    have h9 : lv_has ls 7 [(4, .int (nI (6 * 0))), (0, .ref b), (1, .ref q0), (2, .ref q8), (3, .ref q17)] := lv_sub hl [0, 4, 3, 2, 1] rfl
    rw [e0, e8] at h9
    exact h9
  refine W.widen (k := 78) (n := 31320) (Nat.le_of_ble_eq_true rfl) (Nat.le_of_ble_eq_true rfl) ?_
  exact law_loop hlt hL C0 F 513 0 S0X S0M (fun _ => 0) H locs ls (by omega) (by omega) LV_start ⟨hPX, hPM, hPo, hS⟩ hl
