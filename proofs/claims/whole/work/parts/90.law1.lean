/-! the law's world: X, M, the row for share's answer -/
abbrev zh (g : zG) (d : Nat → Nat) : zG := (g.1, d, g.2.2)
/-- the cells that the law makes -/
abbrev zNew (s : State) : Nat → Prop := fun q => s.heap.size ≤ q
/-- what stays through the law -/
def zLF (g : zG) (d : Nat → Nat) (qo sa : Nat) (s : State) : Prop :=
  zinjX g ∧ zinjM (zh g d) ∧ (∀ q, zAX g q → zNew s q) ∧ (∀ q, zAM (zh g d) q → zNew s q) ∧ zNew s qo ∧ (∀ q, zAX g q → ¬ zAM (zh g d) q) ∧ ¬ zAX g qo ∧ ¬ zAM (zh g d) qo ∧ zP0 g (zNew s) s s.heap ∧ zThr sa (zNew s) s s.heap
def zLW (g : zG) (d : Nat → Nat) (qo : Nat) (S S2 : zSt) (fo : Nat → Int64) (s : State) (H : Heap) (locs : List Loc) : Prop :=
  va_P g.1 vwCl (zcX g S) H ∧ va_P g.1 vwCl (zcM (zh g d) S2) H ∧ va_P g.1 vwCl (zOutC g qo fo) H ∧ va_S (zNew s) s.heap H locs
theorem zkp {D : va_G} {cl : List vw_C} {ws : va_W} {H H1 : Heap} {A1 : Nat → Prop} (h : va_P D cl ws H) (hk : ∀ q : Nat, q < H.size → ¬ A1 q → H1[q]? = H[q]?) (ha : ∀ (k : Nat) (x : Nat × va_E), ws[k]? = some x → ¬ A1 x.1) : va_P D cl ws H1 := va_P.kept h (fun k x hx => hk x.1 (h k x hx).lt (ha k x hx))
theorem zoq {g : zG} {qo : Nat} {fo : Nat → Int64} {k : Nat} {x : Nat × va_E} (h : (zOutC g qo fo)[k]? = some x) : x.1 = qo := by
  have hk : k < 1 := (List.getElem?_eq_some_iff.mp h).1
  have hk0 : k = 0 := by omega
  subst hk0
  have : x = (qo, .inl (zac g 1, 1, .inr (.inl fo))) := (Option.some.inj h).symm
  rw [this]
section ZLAW
variable {p : Program} {l : Launch} {e : Env} {R : Room} {s : State} {m : MethodId} {args : Array Value} {below : List Frame} {meth : Method} {c : Code} {H : Heap} {locs : List Loc} {cells slots : Nat} {Q : State → Prop}
variable {y : MethodName} {bytes cc : ByteArray} {maxL nL n index pc : Nat} {ret : Option FieldType} {ws : List Cond} {rm : Room} {Ts : List Cond} {own : String} {As rest st0 : List Value} {ls : Array Slot} {S S1 S2 : zSt} {fo : Nat → Int64} {g : zG} {d : Nat → Nat} {qo sa : Nat}
theorem zlX {r1 : Int32} (F : zLF g d qo sa s) (Cf : CallFix p m c cc nL s args Ts own) (hM : zMi (zYX g) l y ws rm (.ref (zad g 0) :: As) S r1 S1) (cw : CallW R s args own RX9 index y bytes maxL ret ws rm 0 0 n) (Z : zLW g d qo S S2 fo s H locs) (hc : cells ≤ R.cells ∧ slots ≤ R.slots)
    (hn : As.length = n) (hsize : ls.size = nL) (hstack : st0 = As.reverse ++ .ref (zad g 0) :: rest) (hroom : (rest.map fun v => v.category).sum ≤ 8) (hdg : decode cc pc = .ok (.invokevirtual index, 3))
    (kk : ∀ (H1 : Heap) (locs1 : List Loc), zLW g d qo S1 S2 fo s H1 locs1 → W p l e R s m args below meth c H1 locs1 cells slots Q (F0 m (pc + 3) ls (.int r1 :: rest))) : W p l e R s m args below meth c H locs cells slots Q (F0 m pc ls st0) := by
  obtain ⟨hO, hO2, hx1, hx2, hx3, hx4, hx5, hx6, hP0, hTh⟩ := F
  obtain ⟨z1, z2, z3, z4⟩ := Z
  refine va_calli (va_runV Cf hM cw ⟨zblind (zOkX hO) _, va_recv (cl := vwCl) (ci := 9) (q0 := 0) hP0.1 z1 rfl rfl, fun U hU hW => ⟨rfl, by rw [hU]; exact z1, zP0_at hx1 hP0 z4 hW.alike hU⟩⟩ rfl hn hsize hstack (lv_room hroom) hdg hc) z4 (fun q _ h => hx1 q h) (fun q h => hx1 q h) (fun r u t H1 locs1 ht hvm hw hB _ hk hS1 => ?_)
  obtain ⟨rfl, rfl⟩ := hw
  exact kk H1 locs1 ⟨by rw [← ht]; exact hB.1, zkp z2 hk (fun k x hx h => hx4 _ h ((zDM hO2 S2).2 k x hx)), zkp z3 hk (fun k x hx h => hx5 (by rw [← zoq hx]; exact h)), hS1⟩
theorem zlM {r1 : Int32} (F : zLF g d qo sa s) (Cf : CallFix p m c cc nL s args Ts own) (hM : zMi (zYM (zh g d)) l y ws rm (.ref (d 0) :: As) S2 r1 S1) (cw : CallW R s args own RX10 index y bytes maxL ret ws rm 0 0 n) (Z : zLW g d qo S S2 fo s H locs) (hc : cells ≤ R.cells ∧ slots ≤ R.slots)
    (hn : As.length = n) (hsize : ls.size = nL) (hstack : st0 = As.reverse ++ .ref (d 0) :: rest) (hroom : (rest.map fun v => v.category).sum ≤ 8) (hdg : decode cc pc = .ok (.invokevirtual index, 3))
    (kk : ∀ (H1 : Heap) (locs1 : List Loc), zLW g d qo S S1 fo s H1 locs1 → W p l e R s m args below meth c H1 locs1 cells slots Q (F0 m (pc + 3) ls (.int r1 :: rest))) : W p l e R s m args below meth c H locs cells slots Q (F0 m pc ls st0) := by
  obtain ⟨hO, hO2, hx1, hx2, hx3, hx4, hx5, hx6, hP0, hTh⟩ := F
  obtain ⟨z1, z2, z3, z4⟩ := Z
  refine va_calli (va_runV Cf hM cw ⟨zblind (zOkM hO2) _, va_recv (cl := vwCl) (ci := 10) (q0 := 0) hP0.1 z2 rfl rfl, fun U hU hW => ⟨rfl, by rw [hU]; exact z2, va_K.moved hW.alike hP0.1⟩⟩ rfl hn hsize hstack (lv_room hroom) hdg hc) z4 (fun q _ h => hx2 q h) (fun q h => hx2 q h) (fun r u t H1 locs1 ht hvm hw hB _ hk hS1 => ?_)
  obtain ⟨rfl, rfl⟩ := hw
  exact kk H1 locs1 ⟨zkp z1 hk (fun k x hx h => hx4 _ ((zDX hO S).2 k x hx) h), by rw [← ht]; exact hB.1, zkp z3 hk (fun k x hx h => hx6 (by rw [← zoq hx]; exact h)), hS1⟩
/-- an int of the script comes onto the stack -/
theorem zps {b L : Nat} {xs : Nat → Int32} {i : Int32} {j : Nat} {jz : Int} (hx : p.tables.exec = Jvm.exec) (hb : c.code = cc) (hX : va_X b L xs s s.heap) (hbl : b < s.heap.size) (hS : va_S (zNew s) s.heap H locs) {lv : List (Nat × Value)} (hl : lv_has ls 7 lv) (k0 k4 : Nat) (h0 : lv[k0]? = some (0, .ref b)) (h4 : lv[k4]? = some (4, .int i))
    (d0 : decode cc pc = .ok (.aload_n 0, 1)) (d1 : decode cc (pc + 1) = .ok (.iload 4, 2)) (d3 : decode cc (pc + 3) = .ok (.iconst jz, 1)) (hj : Int32.ofInt jz = nI j) (d4 : decode cc (pc + 4) = .ok (.iadd, 1)) (d5 : decode cc (pc + 5) = .ok (.iaload, 1)) (hin : vp_in (i + nI j) L)
    (kk : W p l e R s m args below meth c H locs cells slots Q (F0 m (pc + 6) ls (.int (xs (i + nI j).toNatClampNeg) :: rest))) : W p l e R s m args below meth c H locs cells slots Q (F0 m pc ls rest) := by
  refine lv_aload_n hx hb d0 rfl (lv_at hl k0 h0) ?_
  refine lv_iload hx hb d1 (lv_at hl k4 h4) ?_
  refine lv_iconst (v := nI j) hx hb d3 hj ?_
  refine lv_iadd hx hb d4 ?_
  exact va_sld hx hb hX hbl (fun h => absurd h (Nat.not_le.mpr hbl)) hS hin d5 kk
end ZLAW
