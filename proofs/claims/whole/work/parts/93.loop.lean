/-! THE LAW'S LOOP -/
theorem zlim {L k : Nat} (hL : L ≤ 3072) (hk : 6 * k ≤ L) (h : ¬ (Int32.ofNat L - (nI 6)) < nI (6 * k)) : 6 * k + 6 ≤ L := by
  by_cases h6 : 6 ≤ L
  · have e : Int32.ofNat L - (nI 6) = nI (L - 6) := by
      have e1 : nI (L - 6) + nI 6 = nI L := by rw [nI_add, Nat.sub_add_cancel h6]
      show nI L - nI 6 = nI (L - 6)
      rw [← e1, Int32.add_sub_cancel]
    rw [e] at h
    have := mt (nI_ltI (a := L - 6) (b := 6 * k) (by omega) (by omega)).mpr h
    omega
  · exfalso
    have hk0 : k = 0 := by omega
    subst hk0
    rcases (show L = 0 ∨ L = 1 ∨ L = 2 ∨ L = 3 ∨ L = 4 ∨ L = 5 by omega) with rfl | rfl | rfl | rfl | rfl | rfl <;> exact h (by decide)
set_option maxHeartbeats 4000000 in
theorem law_loop {p : Program} {l : Launch} {e : Env} {s : State} {m : MethodId} {below : List Frame} {meth : Method} {c : Code} {g : zG} {d : Nat → Nat} {qo sa b L : Nat} {xs : Nat → Int32} (hlt : l.stackTraces = false) (hL : L ≤ 3072) (C0 : lw_At p s m meth c b L xs) (F : zLF g d qo sa s) :
    ∀ (n k : Nat) (S S2 : zSt) (fo : Nat → Int64) (H : Heap) (locs : List Loc) (ls : Array Slot), k + n = 513 → 6 * k ≤ L → LV k S S2 → zLW g d qo S S2 fo s H locs → lv_has ls 7 (zLoc b g d qo (nI (6 * k))) → W p l e room_1 s m #[Value.ref b] below meth c H locs (78 + k) (31320 + 6 * k) (lw_Z below #[Value.ref b] s) (F0 m 23 ls []) := by
  have C1 := C0
  obtain ⟨hx, hb, hr, hml, hown, hts, hX, hbl, hlocks, hgv⟩ := C0
  have hbA : ¬ zNew s b := Nat.not_le.mpr hbl
  intro n
  induction n with
  | zero =>
    intro k S S2 fo H locs ls h1 h2
    exact absurd h2 (by omega)
  | succ n ih =>
    intro k S S2 fo H locs ls hkn hkL V Z hl
    refine lv_iload hx hb dL_law_23 (lv_at hl 0 rfl) ?_
    refine lv_aload_n hx hb dL_law_25 rfl (lv_at hl 1 rfl) ?_
    refine va_slen hx hb hX hbl hbA Z.2.2.2 dL_law_26 ?_
    refine lv_bipush (v := (nI 6)) hx hb dL_law_27 (by decide) ?_
    refine lv_isub hx hb dL_law_29 ?_
    refine lv_icmp_gt (tgt := 632) hx hb dL_law_30 (by decide) (fun _ => ?_) (fun hlim => ?_)
    · refine lv_iconst (v := 1) hx hb dL_law_632 (by decide) ?_
      refine va_forget (fun q hq => Z.2.2.2.2.2 q hq) ?_
      refine W.widen (k := 601024) (n := 7293034) (by omega) (by omega) ?_
      exact lw_ret hx hb hr hlocks dL_law_633
    · have h6 := zlim hL hkL hlim
      have hi : ∀ j, j < 6 → vp_in (nI (6 * k) + nI j) L := fun j hj => by rw [nI_add]; exact vp_in_nI (by omega) (by omega)
      have h626 : ∀ (S' S2' : zSt) (fo' : Nat → Int64) (H1 : Heap) (locs1 : List Loc) (ls : Array Slot), LV (k + 1) S' S2' → zLW g d qo S' S2' fo' s H1 locs1 → lv_has ls 7 (zLoc b g d qo (nI (6 * k))) → W p l e room_1 s m #[Value.ref b] below meth c H1 locs1 (78 + k + 1) (31320 + 6 * k + 6) (lw_Z below #[Value.ref b] s) (F0 m 626 ls []) := by
        intro S' S2' fo' H1 locs1 ls V Z hl
        refine lv_iinc (v := nI (6 * (k + 1))) (lv' := zLoc b g d qo (nI (6 * (k + 1)))) hx hb dL_law_626 hl (k := 0) rfl (by rw [show Int32.ofInt 6 = nI 6 by decide, nI_add]; rfl) (by decide) rfl (fun ls hl => ?_)
        refine lv_goto (tgt := 23) hx hb dL_law_629 (by decide) ?_
        exact ih (k + 1) S' S2' fo' H1 locs1 ls (by omega) (by omega) V Z hl
      have h626b : ∀ (S' S2' : zSt) (H1 : Heap) (locs1 : List Loc), LV (k + 1) S' S2' → zLW g d qo S' S2' fo s H1 locs1 → W p l e room_1 s m #[Value.ref b] below meth c H1 locs1 (78 + k) (31320 + 6 * k) (lw_Z below #[Value.ref b] s) (F0 m 626 ls []) := fun S' S2' H1 locs1 V Z => W.widen (k := 78 + k + 1) (n := 31320 + 6 * k + 6) (by omega) (by omega) (h626 S' S2' fo H1 locs1 ls V Z hl)
      have hc : 78 + k ≤ room_1.cells ∧ 31320 + 6 * k ≤ room_1.slots := ⟨show 78 + k ≤ 601024 by omega, show 31320 + 6 * k ≤ 7293034 by omega⟩
      refine lv_aload_n hx hb dL_law_33 rfl (lv_at hl 1 rfl) ?_
      refine lv_iload hx hb dL_law_34 (lv_at hl 0 rfl) ?_
      refine va_sld hx hb hX hbl hbA Z.2.2.2 (vp_in_nI (by omega) (by omega)) dL_law_36 ?_
      refine lv_bipush (v := (nI 31)) hx hb dL_law_37 (by decide) ?_
      refine lv_iand hx hb dL_law_39 ?_
      generalize (xs (nI (6 * k)).toNatClampNeg &&& nI 31) = x
      by_cases hx1 : x.toInt < 0 ∨ 18 < x.toInt
      · refine lv_tableOut (tgt := 626) hx hb dL_law_40 hx1 (by decide) ?_
        exact h626b S S2 H locs (LV_FR (FR_refl (la := []) (li := []) S) (FR_refl (la := []) (li := []) S2) (by decide) (by decide) (by decide) (by decide) V) Z
      · obtain ⟨j, hj, ex⟩ := nI_of2 (x := x) (M := nI 18) (n := 18) (by decide) (fun h => hx1 (Or.inl (by simpa using Int32.lt_iff_toInt_lt.mp h))) (Int32.le_iff_toInt_le.mpr (by rw [show (nI 18).toInt = 18 by decide]; omega))
        clear hx1
        subst ex
        rcases (show j = 0 ∨ j = 1 ∨ j = 2 ∨ j = 3 ∨ j = 4 ∨ j = 5 ∨ j = 6 ∨ j = 7 ∨ j = 8 ∨ j = 9 ∨ j = 10 ∨ j = 11 ∨ j = 12 ∨ j = 13 ∨ j = 14 ∨ j = 15 ∨ j = 16 ∨ j = 17 ∨ j = 18 by omega) with rfl | rfl | rfl | rfl | rfl | rfl | rfl | rfl | rfl | rfl | rfl | rfl | rfl | rfl | rfl | rfl | rfl | rfl | rfl
        · refine lv_tableIn (tgt := 132) hx hb dL_law_40 (by decide) (by decide) (show _ = some 92 from by decide) (by decide) ?_
          exact zk_feed C1 F (by omega) V Z hc hi hl h626b
        · refine lv_tableIn (tgt := 205) hx hb dL_law_40 (by decide) (by decide) (show _ = some 165 from by decide) (by decide) ?_
          exact zk_cut C1 F (by omega) V Z hc hi hl h626b
        · refine lv_tableIn (tgt := 230) hx hb dL_law_40 (by decide) (by decide) (show _ = some 190 from by decide) (by decide) ?_
          exact zk_read C1 F (by omega) V Z hc hi hl h626b
        · refine lv_tableIn (tgt := 243) hx hb dL_law_40 (by decide) (by decide) (show _ = some 203 from by decide) (by decide) ?_
          exact zk_fault C1 F (by omega) V Z hc hi hl h626b
        · refine lv_tableIn (tgt := 256) hx hb dL_law_40 (by decide) (by decide) (show _ = some 216 from by decide) (by decide) ?_
          exact zk_step C1 F (by omega) V Z hc hi hl h626b
        · refine lv_tableIn (tgt := 281) hx hb dL_law_40 (by decide) (by decide) (show _ = some 241 from by decide) (by decide) ?_
          exact zk_state C1 F (by omega) V Z hc hi hl h626b
        · refine lv_tableIn (tgt := 294) hx hb dL_law_40 (by decide) (by decide) (show _ = some 254 from by decide) (by decide) ?_
          exact zk_error C1 F (by omega) V Z hc hi hl h626b
        · refine lv_tableIn (tgt := 307) hx hb dL_law_40 (by decide) (by decide) (show _ = some 267 from by decide) (by decide) ?_
          exact zk_next C1 F (by omega) V Z hc hi hl h626b
        · refine lv_tableIn (tgt := 320) hx hb dL_law_40 (by decide) (by decide) (show _ = some 280 from by decide) (by decide) ?_
          exact zk_stopAt C1 F (by omega) V Z hc hi hl h626b
        · refine lv_tableIn (tgt := 345) hx hb dL_law_40 (by decide) (by decide) (show _ = some 305 from by decide) (by decide) ?_
          exact zk_back C1 F (by omega) V Z hc hi hl h626b
        · refine lv_tableIn (tgt := 370) hx hb dL_law_40 (by decide) (by decide) (show _ = some 330 from by decide) (by decide) ?_
          exact zk_sweep C1 F (by omega) V Z hc hi hl h626b
        · refine lv_tableIn (tgt := 383) hx hb dL_law_40 (by decide) (by decide) (show _ = some 343 from by decide) (by decide) ?_
          exact zk_count C1 F (by omega) V Z hc hi hl h626b
        · refine lv_tableIn (tgt := 408) hx hb dL_law_40 (by decide) (by decide) (show _ = some 368 from by decide) (by decide) ?_
          exact zk_node C1 F (by omega) V Z hc hi hl h626b
        · refine lv_tableIn (tgt := 445) hx hb dL_law_40 (by decide) (by decide) (show _ = some 405 from by decide) (by decide) ?_
          exact zk_top C1 F (by omega) V Z hc hi hl h626b
        · refine lv_tableIn (tgt := 470) hx hb dL_law_40 (by decide) (by decide) (show _ = some 430 from by decide) (by decide) ?_
          exact zk_why C1 F (by omega) V Z hc hi hl h626b
        · refine lv_tableIn (tgt := 495) hx hb dL_law_40 (by decide) (by decide) (show _ = some 455 from by decide) (by decide) ?_
          exact zk_way C1 F (by omega) V Z hc hi hl h626b
        · refine lv_tableIn (tgt := 532) hx hb dL_law_40 (by decide) (by decide) (show _ = some 492 from by decide) (by decide) ?_
          exact zk_profile C1 F (by omega) V Z hc hi hl h626b
        · refine lv_tableIn (tgt := 569) hx hb dL_law_40 (by decide) (by decide) (show _ = some 529 from by decide) (by decide) ?_
          exact zk_rest C1 F (by omega) V Z hc hi hl h626b
        · refine lv_tableIn (tgt := 582) hx hb dL_law_40 (by decide) (by decide) (show _ = some 542 from by decide) (by decide) ?_
          exact zk_share hlt C1 F V Z ⟨show 78 + k + 1 ≤ 601024 by omega, show 31320 + 6 * k + 6 ≤ 7293034 by omega⟩ hl h626
