/-! the law's own share -/
abbrev vL_share : List Cond := Cond.codeWith yL_share cL_share 3 (some .int) [(0, 8, 11, 13)] :: zTB
theorem mC_L_share : Cond.codeWith yL_share cL_share 3 (some .int) [(0, 8, 11, 13)] ∈ zTB := zmem5 (List.mem_of_getElem? (i := 47) rfl) rfl
theorem mB_L_13 : Cond.classLink RL 13 "java/lang/ArithmeticException" ∈ zTB := zmem5 (List.mem_of_getElem? (i := 48) rfl) rfl
theorem hdL_share : yL_share.cls ≠ "java/lang/invoke/MethodHandle" ∧ yL_share.cls ≠ "java/lang/invoke/VarHandle" ∧ (parseMethodDescriptor yL_share.desc).map (fun d => d.parameters.length) = some 2 := by decide +kernel
def zAq (g : zG) (qo : Nat) : Nat → Prop := fun q => zAX g q ∨ q = qo
theorem zDq {g : zG} {qo : Nat} (hO : zinjX g) (hq : ¬ zAX g qo) (S : zSt) (x : va_E) : va_D (zAq g qo) (zcX g S ++ [(qo, x)]) := by
  have hlen : (zcX g S).length = 39 := rfl
  have key : ∀ (i : Nat) (q : Nat × va_E), (zcX g S ++ [(qo, x)])[i]? = some q → (i < 39 ∧ (zcX g S)[i]? = some q) ∨ (i = 39 ∧ q = (qo, x)) := fun i q h => by
    by_cases hi : i < 39
    · rw [List.getElem?_append_left (by rw [hlen]; exact hi)] at h
      exact Or.inl ⟨hi, h⟩
    · rw [List.getElem?_append_right (by rw [hlen]; omega), hlen] at h
      have hz : i - 39 < 1 := (List.getElem?_eq_some_iff.mp h).1
      have e : i = 39 := by omega
      subst e
      exact Or.inr ⟨rfl, (Option.some.inj h).symm⟩
  have hD := zDX hO S
  refine ⟨fun i j a b ha hb hab => ?_, fun k q hk => ?_⟩
  · rcases key i a ha with ⟨h1, h2⟩ | ⟨h1, h2⟩
    · rcases key j b hb with ⟨h3, h4⟩ | ⟨h3, h4⟩
      · exact hD.1 i j a b h2 h4 hab
      · exact absurd (show zAX g qo by rw [show qo = a.1 by rw [hab, h4]]; exact hD.2 i a h2) hq
    · rcases key j b hb with ⟨h3, h4⟩ | ⟨h3, h4⟩
      · exact absurd (show zAX g qo by rw [show qo = b.1 by rw [← hab, h2]]; exact hD.2 j b h4) hq
      · omega
  · rcases key k q hk with ⟨h1, h2⟩ | ⟨h1, h2⟩
    · exact Or.inl (hD.2 k q h2)
    · exact Or.inr (by rw [h2])
def zOutC (g : zG) (qo : Nat) (f : Nat → Int64) : va_W := [(qo, .inl (zac g 1, 1, .inr (.inl f)))]
/-- what X takes as given, apart from the cells A -/
def zP0 (g : zG) (A : Nat → Prop) (U : State) (H : Heap) : Prop := va_K g.1 vwCl (zty g) U ∧ (va_Z "NeedSteps$Machine" "NEEDS" "[I" (.ref g.2.2.2.1) A U H ∧ va_T .int g.2.2.2.1 13 (fun k => .int (zneeds k)) A U H) ∧ va_Z "NeedSteps$Machine" "WANTS" "[I" (.ref g.2.2.2.2) A U H ∧ va_T .int g.2.2.2.2 13 (fun k => .int (zwants k)) A U H
theorem zP0_at {g : zG} {A B : Nat → Prop} {s t : State} {H : Heap} {locs : List Loc} (hA : ∀ q, B q → A q) (P0 : zP0 g A s s.heap) (hS : va_S A s.heap H locs) (hv : s.vm.Alike t.vm) (ht : t.heap = H) : zP0 g B t t.heap := by
  obtain ⟨h1, ⟨h2, h3⟩, h4, h5⟩ := P0
  subst ht
  exact ⟨va_K.moved hv h1, ⟨(va_Z.moved hv (h2.kept hS.2.1)).narrow hA, (va_T.moved hv (h3.kept hS.2.1)).narrow hA⟩, (va_Z.moved hv (h4.kept hS.2.1)).narrow hA, (va_T.moved hv (h5.kept hS.2.1)).narrow hA⟩
def zPS (g : zG) (qo : Nat) (u : zSt × (Nat → Int64)) (t : State) : Prop := va_P g.1 vwCl (zcX g u.1) t.heap ∧ zP0 g (zAq g qo) t t.heap ∧ va_P g.1 vwCl (zOutC g qo u.2) t.heap
theorem zblSh {g : zG} {qo : Nat} {u : zSt × (Nat → Int64)} (av : List Value) : FrameBlind (va_Pc av (zPS g qo u)) := fun a U gg mk q => ⟨q.1, q.2.1, zP0_at (s := U) (H := U.heap) (locs := []) (fun _ h => h) q.2.2.1 va_S.rf (Vm.Alike.refl U.vm) rfl, q.2.2.2⟩
theorem zS_q {g : zG} {qo : Nat} {H0 H : Heap} {locs : List Loc} (h : va_S (zAX g) H0 H locs) : va_S (zAq g qo) H0 H locs := ⟨h.1, fun q h1 h2 => h.2.1 q h1 (fun z => h2 (Or.inl z)), fun l hl => Or.inl (h.2.2 l hl)⟩
set_option maxHeartbeats 4000000 in
theorem kL_shareA {g : zG} (l : Launch) (hO : zinjX g) {qo : Nat} (hq : ¬ zAX g qo) (S S' : zSt) (fo : Nat → Int64) (r : Int32) (hM : zMi (zYX g) l yX9_share vX9_share { frames := 4, cells := 0, slots := 0, locals := 88 } ([.ref (zad g 0)] : List Value) S r S') : vx_Met l yL_share vL_share { frames := 5, cells := 0, slots := 0, locals := 109 } (va_Pc [.ref (zad g 0), .ref qo] (zPS g qo (S, fo))) (va_Qi (fun (v : Int32) (u : zSt × (Nat → Int64)) => v = 0 ∧ u = (S', vp_updL fo 0 r.toInt64)) (zPS g qo) (zAq g qo)) (vx_X (fun _ : Unit => False) (fun _ _ _ => True) zNo) 0 0 (zAq g qo) := by
  have hY := zOkX hO
  refine vx_ofWH (cc := cL_share) (maxL := 3) (ret := (some .int)) (by decide) rfl ?_
  intro p e s m args below meth c0 s₁ B hml hv
  obtain ⟨rfl, hPX, hP0, hPo⟩ := hv
  have hx := B.exec
  have hb := B.bytes
  have hr := B.returns
  have hts := atoms_spec (ws := vL_share) B.pre
  have hT : ∀ w ∈ zTB, w.before ([.ref (zad g 0), .ref qo] : List Value).toArray s = true := fun w h => hts w (List.mem_cons_of_mem _ h)
  have hown : s.vm.findClass RL = some m.cls := findClass_of_methodNamed B.named
  have hlocks := B.notSynchronized
  have P0 : zP0X g s s.heap := zP0_at (s := s) (H := s.heap) (locs := []) (fun _ h => Or.inl h) hP0 va_S.rf (Vm.Alike.refl s.vm) rfl
  have Z : zZ (zYX g) S s s.heap [] := ⟨hPX, va_S.rf⟩
  have hl := lv_entry ([.ref (zad g 0), .ref qo] : List Value) (n := 3) (Nat.le_of_ble_eq_true rfl)
  rw [lg_entry_eq]
  generalize (lg_sl ([.ref (zad g 0), .ref qo] : List Value) ++ List.replicate (3 - (lg_sl ([.ref (zad g 0), .ref qo] : List Value)).length) Slot.unset).toArray = ls at hl ⊢
  have hl : lv_has ls 3 [(0, .ref (zad g 0)), (1, .ref qo)] := hl
  refine vx_ret ?_
  refine lv_aload_n hx hb (show decode cL_share 0 = .ok (.aload_n 1, 1) by decide +kernel) rfl (lv_at hl 1 rfl) ?_
  refine lv_iconst (v := (nI 0)) hx hb (show decode cL_share 1 = .ok (.iconst 0, 1) by decide +kernel) (by decide) ?_
  refine lv_aload_n hx hb (show decode cL_share 2 = .ok (.aload_n 0, 1) by decide +kernel) rfl (lv_at hl 0 rfl) ?_
  refine zc_Vi hY P0 ⟨hx, hb, hml, hown, hT⟩ (As := []) (rest := [.int (nI 0), .ref qo]) hM (cwV 0 hT (zgV mL_L_7 mI_X9_share mS_X9_share mN_X9 mC_X9_share) rfl rfl rfl hdnX9_share ⟨Nat.le_of_ble_eq_true rfl, Nat.le_of_ble_eq_true rfl⟩) (zrecX_0 P0 Z) Z rfl hl.1 rfl (Nat.le_of_ble_eq_true rfl) (show decode cL_share 3 = .ok (.invokevirtual 7, 3) by decide +kernel) (fun H locs Z => ?_)
  refine lv_i2l hx hb (show decode cL_share 6 = .ok (.i2l, 1) by decide +kernel) rfl ?_
  have hPo1 : va_P g.1 vwCl (zOutC g qo fo) H := va_P.kept hPo (fun k x hx => by
    have hlt := (hPo k x hx).lt
    refine Z.2.2.1 x.1 hlt (fun z => hq ?_)
    have hk : k < 1 := (List.getElem?_eq_some_iff.mp hx).1
    have hk0 : k = 0 := by omega
    subst hk0
    have : x = (qo, .inl (zac g 1, 1, .inr (.inl fo))) := (Option.some.inj hx).symm
    rw [this] at z
    exact z)
  have hP40 : va_P g.1 vwCl (zcX g S' ++ zOutC g qo fo) H := Z.1.app hPo1
  have hD40 : va_D (zAq g qo) (zcX g S' ++ zOutC g qo fo) := zDq hO hq S' _
  refine va_last hx hb P0.1 hP40 hD40 (zS_q Z.2) 39 1 rfl rfl (vp_in_nI (show 0 < 1 by decide) (by decide)) (show decode cL_share 7 = .ok (.lastore, 1) by decide +kernel) (fun H1 locs1 hP1 hD1 hS1 => ?_)
  have hP1 : va_P g.1 vwCl (zcX g S' ++ zOutC g qo (vp_updL fo 0 r.toInt64)) H1 := hP1
  refine lv_goto (tgt := 14) hx hb (show decode cL_share 8 = .ok (.goto 6, 3) by decide +kernel) (by decide) ?_
  refine lv_iconst (v := (0 : Int32)) hx hb (show decode cL_share 14 = .ok (.iconst 0, 1) by decide +kernel) (by decide) ?_
  exact W.iret hx hb hr (fun t ht hW => ⟨⟨0, (S', vp_updL fo 0 r.toInt64), rfl, ⟨rfl, rfl⟩, by rw [ht]; exact hP1.sub (ws' := zcX g S') (List.range 39) rfl, zP0_at (fun _ h => h) hP0 hS1 hW.alike ht, by rw [ht]; exact hP1.sub (ws' := zOutC g qo (vp_updL fo 0 r.toInt64)) [39] rfl⟩, hS1.F ht⟩) hS1.2.2 (show decode cL_share 15 = .ok (.ireturn, 1) by decide +kernel) hlocks
set_option maxHeartbeats 4000000 in
theorem kL_shareB {g : zG} (l : Launch) (hlt : l.stackTraces = false) (hO : zinjX g) {qo sa : Nat} (hq : ¬ zAX g qo) (S : zSt) (fo : Nat → Int64) (h0 : zI S 0 = 0) : vx_Met l yL_share vL_share { frames := 7, cells := 1, slots := 6, locals := 111 } (va_Pc [.ref (zad g 0), .ref qo] (fun U => zPS g qo (S, fo) U ∧ zThr sa (zAq g qo) U U.heap)) (va_Qi (fun (v : Int32) (u : zSt × (Nat → Int64)) => v = 1 ∧ u = (S, fo)) (zPS g qo) (zAq g qo)) (vx_X (fun _ : Unit => False) (fun _ _ _ => True) zNo) 1 6 (zAq g qo) := by
  have hY := zOkX hO
  refine vx_ofWH (cc := cL_share) (maxL := 3) (ret := (some .int)) (by decide) rfl ?_
  intro p e s m args below meth c0 s₁ B hml hv
  obtain ⟨rfl, ⟨hPX, hP0, hPo⟩, hR, hU1, hN, hW⟩ := hv
  have hx := B.exec
  have hb := B.bytes
  have hr := B.returns
  have hts := atoms_spec (ws := vL_share) B.pre
  have hT : ∀ w ∈ zTB, w.before ([.ref (zad g 0), .ref qo] : List Value).toArray s = true := fun w h => hts w (List.mem_cons_of_mem _ h)
  have hown : s.vm.findClass RL = some m.cls := findClass_of_methodNamed B.named
  have hlocks := B.notSynchronized
  have htab : c0.exceptionTable.toList = tableOf [(0, 8, 11, 13)] := vx_table (x := yL_share) B (hts _ List.mem_cons_self)
  have P0 : zP0X g s s.heap := zP0_at (s := s) (H := s.heap) (locs := []) (fun _ h => Or.inl h) hP0 va_S.rf (Vm.Alike.refl s.vm) rfl
  have Z : zZ (zYX g) S s s.heap [] := ⟨hPX, va_S.rf⟩
  have hS : va_S (zAq g qo) s.heap s.heap [] := va_S.rf
  have hl := lv_entry ([.ref (zad g 0), .ref qo] : List Value) (n := 3) (Nat.le_of_ble_eq_true rfl)
  rw [lg_entry_eq]
  generalize (lg_sl ([.ref (zad g 0), .ref qo] : List Value) ++ List.replicate (3 - (lg_sl ([.ref (zad g 0), .ref qo] : List Value)).length) Slot.unset).toArray = ls at hl ⊢
  have hl : lv_has ls 3 [(0, .ref (zad g 0)), (1, .ref qo)] := hl
  refine vx_ret ?_
  refine lv_aload_n hx hb (show decode cL_share 0 = .ok (.aload_n 1, 1) by decide +kernel) rfl (lv_at hl 1 rfl) ?_
  refine lv_iconst (v := (nI 0)) hx hb (show decode cL_share 1 = .ok (.iconst 0, 1) by decide +kernel) (by decide) ?_
  refine lv_aload_n hx hb (show decode cL_share 2 = .ok (.aload_n 0, 1) by decide +kernel) rfl (lv_at hl 0 rfl) ?_
  have hbl : FrameBlind (va_Pc [.ref (zad g 0)] (fun U => zPX (zYX g) S U ∧ zThr sa (zAX g) U U.heap)) := fun a U gg mk q => ⟨q.1, zPX_of (s := U) (H := U.heap) (locs := []) hY q.2.1.2 ⟨q.2.1.1, va_S.rf⟩ rfl (Vm.Alike.refl U.vm), vk_R.same (u := U) rfl q.2.2.1, vx_Zq.moved (u := U) (Vm.Alike.refl U.vm) q.2.2.2.1, vx_Zq.moved (u := U) (Vm.Alike.refl U.vm) q.2.2.2.2.1, fun w hw => va_Nw.same (by revert w; decide +kernel) (u := U) rfl (q.2.2.2.2.2 w hw)⟩
  have hWw : ∀ (U : State), s.WarmedH U.vm → ∀ w ∈ zXB, va_Nw w U := fun U hw w hm => by
    have h1 := hW w hm
    simp only [zXB, List.mem_cons, List.not_mem_nil, or_false] at hm
    rcases hm with e | e | e | e <;> subst e
    · exact va_Nw.warmD hw h1
    · exact va_Nw.warmD hw h1
    · exact va_Nw.warmD hw h1
    · exact va_Nw.warmC hw h1
  refine vx_calli (vx_runV (As := []) (rest := [.int (nI 0), .ref qo]) ⟨hx, hb, hml, hown, hT⟩ (kX9_shareB l hlt hO S sa h0) (cwV 0 hT (zgV mL_L_7 mI_X9_share mS_X9_share mN_X9 mC_X9_share) rfl rfl rfl hdnX9_share ⟨Nat.le_of_ble_eq_true rfl, Nat.le_of_ble_eq_true rfl⟩) ⟨hbl, zrecX_0 P0 Z, fun U hU hw => ⟨rfl, zPX_of hY P0 Z hU hw.alike, vk_R.warm hw hR, by rw [hU]; exact (vx_Zq.moved hw.alike hU1).narrow (fun _ h => Or.inl h), by rw [hU]; exact (vx_Zq.moved hw.alike hN).narrow (fun _ h => Or.inl h), hWw U hw⟩⟩ rfl rfl hl.1 rfl (lv_room (Nat.le_of_ble_eq_true rfl)) (show decode cL_share 3 = .ok (.invokevirtual 7, 3) by decide +kernel) ⟨Nat.le_of_ble_eq_true rfl, Nat.le_of_ble_eq_true rfl⟩) hS (fun q _ h => Or.inl h) (fun q h => Or.inl h) (fun q _ h => Or.inl h) (fun E ce q9 u t H1 locs1 ht hvm hpx hBX hsz hk1 hS1 hce hcv hcl => ?_) (fun r u t H1 locs1 ht hvm hpost _ _ _ _ => hpost.elim)
  obtain ⟨hE, hPt⟩ := hBX
  subst hE
  subst hpx
  have hPo1 : va_P g.1 vwCl (zOutC g qo fo) H1 := va_P.kept hPo (fun k x hx => by
    have hlt := (hPo k x hx).lt
    refine hk1 x.1 hlt (fun z => hq ?_)
    have hk : k < 1 := (List.getElem?_eq_some_iff.mp hx).1
    have hk0 : k = 0 := by omega
    subst hk0
    have : x = (qo, .inl (zac g 1, 1, .inr (.inl fo))) := (Option.some.inj hx).symm
    rw [this] at z
    exact z)
  refine vx_catch hown [] _ [] (by rw [htab]; rfl) (fun _ h => by cases h) (by decide +kernel) (by decide) (hT _ mB_L_13) (va_Nw.use (by decide +kernel) (hW (.castable "java/lang/ArithmeticException" "java/lang/ArithmeticException") (by decide +kernel))) hce hcv hcl ?_
  refine lv_astore_n (lv' := [(2, .ref q9), (0, .ref (zad g 0)), (1, .ref qo)]) hx hb (show decode cL_share 11 = .ok (.astore_n 2, 1) by decide +kernel) rfl hl (by decide) rfl (fun ls hl => ?_)
  refine lv_iconst (v := (1 : Int32)) hx hb (show decode cL_share 12 = .ok (.iconst 1, 1) by decide +kernel) (by decide) ?_
  exact W.iret hx hb hr (fun t2 ht2 hW2 => ⟨⟨1, (u, fo), rfl, ⟨rfl, rfl⟩, by rw [ht2, ← ht]; exact hPt.1, zP0_at (fun _ h => h) hP0 hS1 hW2.alike ht2, by rw [ht2]; exact hPo1⟩, hS1.F ht2⟩) hS1.2.2 (show decode cL_share 13 = .ok (.ireturn, 1) by decide +kernel) hlocks
