/-! the state of a system: its int fields, its long fields, its arrays of ints (bytes, booleans), its arrays of longs, each by a number -/
abbrev zSt : Type := (Nat → Int32) × (Nat → Int64) × (Nat → Nat → Int32) × (Nat → Nat → Int64)
def zI (S : zSt) (k : Nat) : Int32 := S.1 k
def zL (S : zSt) (k : Nat) : Int64 := S.2.1 k
def zA (S : zSt) (k : Nat) : Nat → Int32 := S.2.2.1 k
def zB (S : zSt) (k : Nat) : Nat → Int64 := S.2.2.2 k
def wI (S : zSt) (k : Nat) (v : Int32) : zSt := (fun j => if j = k then v else S.1 j, S.2)
def wL (S : zSt) (k : Nat) (v : Int64) : zSt := (S.1, fun j => if j = k then v else S.2.1 j, S.2.2)
def wA (S : zSt) (k i : Nat) (v : Int32) : zSt := (S.1, S.2.1, fun j => if j = k then upd (S.2.2.1 k) i v else S.2.2.1 j, S.2.2.2)
def wB (S : zSt) (k i : Nat) (v : Int64) : zSt := (S.1, S.2.1, S.2.2.1, fun j => if j = k then vp_updL (S.2.2.2 k) i v else S.2.2.2 j)
/-- is the index in a row of n places -/
abbrev zin (i : Int32) (n : Nat) : Prop := 0 ≤ i.toInt ∧ i.toInt < (n : Int)
/-- a read of a row of n places -/
def zld {α β : Type} (n : Nat) (i : Int32) (f : Nat → β) (k : β → Option α) : Option α := if zin i n then k (f i.toNatClampNeg) else none
/-- a write's check -/
def zck {α : Type} (n : Nat) (i : Int32) (k : Option α) : Option α := if zin i n then k else none
/-- a division's check -/
def zdv {α : Type} (y : Int32) (k : Option α) : Option α := if y = 0 then none else k
/-- a truth value's check -/
def zbo {α : Type} (v : Int32) (k : Option α) : Option α := if v = 0 ∨ v = 1 then k else none
/-- a call -/
def zbd {α β : Type} (x : Option (β × zSt)) (k : β → zSt → Option α) : Option α := match x with
  | none => none
  | some z => k z.1 z.2
/-- a loop -/
def zfix {α β : Type} (F : (α → Option β) → α → Option β) : Nat → α → Option β
  | 0 => fun _ => none
  | n + 1 => fun a => F (zfix F n) a
def zFU : Nat := 1000000
theorem zld_s {α β : Type} {n : Nat} {i : Int32} {f : Nat → β} {k : β → Option α} {z : α} (h : zld n i f k = some z) : ∃ v, v = f i.toNatClampNeg ∧ vp_in i n ∧ k v = some z := by
  unfold zld at h
  split at h
  · rename_i h1
    exact ⟨_, rfl, vp_in_iff.mpr h1, h⟩
  · cases h
theorem zck_s {α : Type} {n : Nat} {i : Int32} {k : Option α} {z : α} (h : zck n i k = some z) : vp_in i n ∧ k = some z := by
  unfold zck at h
  split at h
  · rename_i h1
    exact ⟨vp_in_iff.mpr h1, h⟩
  · cases h
theorem zdv_s {α : Type} {y : Int32} {k : Option α} {z : α} (h : zdv y k = some z) : ¬ y = 0 ∧ k = some z := by
  unfold zdv at h
  split at h
  · cases h
  · rename_i h1
    exact ⟨h1, h⟩
theorem zbo_s {α : Type} {v : Int32} {k : Option α} {z : α} (h : zbo v k = some z) : (v = 0 ∨ v = 1) ∧ k = some z := by
  unfold zbo at h
  split at h
  · rename_i h1
    exact ⟨h1, h⟩
  · cases h
theorem zbd_s {α β : Type} {x : Option (β × zSt)} {k : β → zSt → Option α} {z : α} (h : zbd x k = some z) : ∃ r S, x = some (r, S) ∧ k r S = some z := by
  unfold zbd at h
  cases x with
  | none => cases h
  | some y => exact ⟨y.1, y.2, rfl, h⟩
theorem zi_t {α : Type} {c : Prop} [Decidable c] {a b : Option α} {z : α} (hc : c) (h : (if c then a else b) = some z) : a = some z := by rwa [if_pos hc] at h
theorem zi_f {α : Type} {c : Prop} [Decidable c] {a b : Option α} {z : α} (hc : ¬ c) (h : (if c then a else b) = some z) : b = some z := by rwa [if_neg hc] at h
theorem zbo_n {v : Int32} (h : v = 0 ∨ v = 1) : narrow .boolean (.int v) = .int v := by rcases h with rfl | rfl <;> rfl
theorem zbo_f {v : Int32} (h : v = 0 ∨ v = 1) : fits .boolean (.int v) = true := by rcases h with rfl | rfl <;> rfl
/-- a system: where its classes lie, its cells by its state, the set of its cells, what it takes as given -/
abbrev zY : Type := va_G × (zSt → va_W) × (Nat → Prop) × (State → Heap → Prop)
def zPX (Y : zY) (S : zSt) (U : State) : Prop := va_P Y.1 vwCl (Y.2.1 S) U.heap ∧ Y.2.2.2 U U.heap
def zZ (Y : zY) (S : zSt) (s : State) (H : Heap) (locs : List Loc) : Prop := va_P Y.1 vwCl (Y.2.1 S) H ∧ va_S Y.2.2.1 s.heap H locs
def zOk (Y : zY) : Prop := (∀ S, va_D Y.2.2.1 (Y.2.1 S)) ∧ ∀ (s t : State) (H : Heap) (locs : List Loc), Y.2.2.2 s s.heap → va_S Y.2.2.1 s.heap H locs → s.vm.Alike t.vm → t.heap = H → Y.2.2.2 t t.heap
theorem zPX_of {Y : zY} {S : zSt} {s t : State} {H : Heap} {locs : List Loc} (hY : zOk Y) (P0 : Y.2.2.2 s s.heap) (Z : zZ Y S s H locs) (ht : t.heap = H) (hv : s.vm.Alike t.vm) : zPX Y S t := ⟨by rw [ht]; exact Z.1, hY.2 s t H locs P0 Z.2 hv ht⟩
theorem zblind {Y : zY} {S : zSt} (hY : zOk Y) (av : List Value) : FrameBlind (va_Pc av (zPX Y S)) := fun a U g mk q => ⟨q.1, zPX_of (s := U) (H := U.heap) (locs := []) hY q.2.2 ⟨q.2.1, va_S.rf⟩ rfl (Vm.Alike.refl U.vm)⟩
abbrev zQi (Y : zY) (r : Int32) (S' : zSt) : Array Value → State → Outcome → State → Prop := va_Qi (fun v (u : zSt) => v = r ∧ u = S') (fun u => zPX Y u) Y.2.2.1
abbrev zQl (Y : zY) (r : Int64) (S' : zSt) : Array Value → State → Outcome → State → Prop := va_Ql (fun v (u : zSt) => v = r ∧ u = S') (fun u => zPX Y u) Y.2.2.1
abbrev zQv (Y : zY) (S' : zSt) : Array Value → State → Outcome → State → Prop := va_Qv (fun (u : zSt) => u = S') (fun u => zPX Y u) Y.2.2.1
/-- contracts: with the state S the method returns r, the state is S' then -/
abbrev zMi (Y : zY) (l : Launch) (y : MethodName) (ws : List Cond) (rm : Room) (av : List Value) (S : zSt) (r : Int32) (S' : zSt) : Prop := Met l y ws rm (va_Pc av (zPX Y S)) (zQi Y r S') 0 0 Y.2.2.1
abbrev zMl (Y : zY) (l : Launch) (y : MethodName) (ws : List Cond) (rm : Room) (av : List Value) (S : zSt) (r : Int64) (S' : zSt) : Prop := Met l y ws rm (va_Pc av (zPX Y S)) (zQl Y r S') 0 0 Y.2.2.1
abbrev zMv (Y : zY) (l : Launch) (y : MethodName) (ws : List Cond) (rm : Room) (av : List Value) (S S' : zSt) : Prop := Met l y ws rm (va_Pc av (zPX Y S)) (zQv Y S') 0 0 Y.2.2.1
section ZBASE
variable {p : Program} {l : Launch} {e : Env} {R : Room} {s : State} {m : MethodId} {args : Array Value} {below : List Frame} {meth : Method} {c : Code} {H : Heap} {locs : List Loc} {Q : State → Prop}
variable {y : MethodName} {bytes cc : ByteArray} {maxL nL n index pc : Nat} {ret : Option FieldType} {ws : List Cond} {rm : Room} {Ts : List Cond} {own C : String} {b : Addr} {As rest st0 : List Value} {ls : Array Slot} {Y : zY} {S S1 S' : zSt}
theorem zc_Vi {r1 : Int32} (hY : zOk Y) (P0 : Y.2.2.2 s s.heap) (Cf : CallFix p m c cc nL s args Ts own) (hM : zMi Y l y ws rm (.ref b :: As) S r1 S1) (cw : CallW R s args own C index y bytes maxL ret ws rm 0 0 n)
    (hrec : ∃ cell : Cell, H[b]? = some cell ∧ cell.vm.isStatics = false ∧ s.vm.findClass C = some cell.cls) (Z : zZ Y S s H locs) (hn : As.length = n) (hsize : ls.size = nL) (hstack : st0 = As.reverse ++ .ref b :: rest) (hroom : (rest.map fun v => v.category).sum ≤ 8)
    (hdg : decode cc pc = .ok (.invokevirtual index, 3)) (kk : ∀ (H1 : Heap) (locs1 : List Loc), zZ Y S1 s H1 locs1 → W p l e R s m args below meth c H1 locs1 0 0 Q (F0 m (pc + 3) ls (.int r1 :: rest))) : W p l e R s m args below meth c H locs 0 0 Q (F0 m pc ls st0) := by
  refine va_calli (va_runV Cf hM cw ⟨zblind hY _, hrec, fun U hU hW => ⟨rfl, zPX_of hY P0 Z hU hW.alike⟩⟩ rfl hn hsize hstack (lv_room hroom) hdg ⟨Nat.zero_le _, Nat.zero_le _⟩) Z.2 (fun q _ h => h) (fun q h => h) (fun r u t H1 locs1 ht hvm hw hB _ _ hS1 => ?_)
  obtain ⟨rfl, rfl⟩ := hw
  exact kk H1 locs1 ⟨by rw [← ht]; exact hB.1, hS1⟩
theorem zc_Vl {r1 : Int64} (hY : zOk Y) (P0 : Y.2.2.2 s s.heap) (Cf : CallFix p m c cc nL s args Ts own) (hM : zMl Y l y ws rm (.ref b :: As) S r1 S1) (cw : CallW R s args own C index y bytes maxL ret ws rm 0 0 n)
    (hrec : ∃ cell : Cell, H[b]? = some cell ∧ cell.vm.isStatics = false ∧ s.vm.findClass C = some cell.cls) (Z : zZ Y S s H locs) (hn : As.length = n) (hsize : ls.size = nL) (hstack : st0 = As.reverse ++ .ref b :: rest) (hroom : (rest.map fun v => v.category).sum ≤ 8)
    (hdg : decode cc pc = .ok (.invokevirtual index, 3)) (kk : ∀ (H1 : Heap) (locs1 : List Loc), zZ Y S1 s H1 locs1 → W p l e R s m args below meth c H1 locs1 0 0 Q (F0 m (pc + 3) ls (.long r1 :: rest))) : W p l e R s m args below meth c H locs 0 0 Q (F0 m pc ls st0) := by
  refine va_calll (va_runV Cf hM cw ⟨zblind hY _, hrec, fun U hU hW => ⟨rfl, zPX_of hY P0 Z hU hW.alike⟩⟩ rfl hn hsize hstack (lv_room hroom) hdg ⟨Nat.zero_le _, Nat.zero_le _⟩) Z.2 (fun q _ h => h) (fun q h => h) (fun r u t H1 locs1 ht hvm hw hB _ _ hS1 => ?_)
  obtain ⟨rfl, rfl⟩ := hw
  exact kk H1 locs1 ⟨by rw [← ht]; exact hB.1, hS1⟩
theorem zc_Vv (hY : zOk Y) (P0 : Y.2.2.2 s s.heap) (Cf : CallFix p m c cc nL s args Ts own) (hM : zMv Y l y ws rm (.ref b :: As) S S1) (cw : CallW R s args own C index y bytes maxL ret ws rm 0 0 n)
    (hrec : ∃ cell : Cell, H[b]? = some cell ∧ cell.vm.isStatics = false ∧ s.vm.findClass C = some cell.cls) (Z : zZ Y S s H locs) (hn : As.length = n) (hsize : ls.size = nL) (hstack : st0 = As.reverse ++ .ref b :: rest) (hroom : (rest.map fun v => v.category).sum ≤ 8)
    (hdg : decode cc pc = .ok (.invokevirtual index, 3)) (kk : ∀ (H1 : Heap) (locs1 : List Loc), zZ Y S1 s H1 locs1 → W p l e R s m args below meth c H1 locs1 0 0 Q (F0 m (pc + 3) ls rest)) : W p l e R s m args below meth c H locs 0 0 Q (F0 m pc ls st0) := by
  refine va_callv (va_runV Cf hM cw ⟨zblind hY _, hrec, fun U hU hW => ⟨rfl, zPX_of hY P0 Z hU hW.alike⟩⟩ rfl hn hsize hstack (lv_room hroom) hdg ⟨Nat.zero_le _, Nat.zero_le _⟩) Z.2 (fun q _ h => h) (fun q h => h) (fun u t H1 locs1 ht hvm hw hB _ _ hS1 => ?_)
  subst hw
  exact kk H1 locs1 ⟨by rw [← ht]; exact hB.1, hS1⟩
theorem zc_Si {r1 : Int32} (hY : zOk Y) (P0 : Y.2.2.2 s s.heap) (Cf : CallFix p m c cc nL s args Ts own) (hM : zMi Y l y ws rm As S r1 S1) (cw : CallB R s args own index y bytes maxL ret ws rm 0 0 n ∧ (Cond.static y).before args s = true)
    (Z : zZ Y S s H locs) (hn : As.length = n) (hsize : ls.size = nL) (hstack : st0 = As.reverse ++ rest) (hroom : (rest.map fun v => v.category).sum ≤ 8)
    (hdg : decode cc pc = .ok (.invokestatic index, 3)) (kk : ∀ (H1 : Heap) (locs1 : List Loc), zZ Y S1 s H1 locs1 → W p l e R s m args below meth c H1 locs1 0 0 Q (F0 m (pc + 3) ls (.int r1 :: rest))) : W p l e R s m args below meth c H locs 0 0 Q (F0 m pc ls st0) := by
  refine va_calli (va_runS Cf hM cw ⟨zblind hY _, fun U hU hW => ⟨rfl, zPX_of hY P0 Z hU hW.alike⟩⟩ rfl hn hsize hstack (lv_room hroom) hdg ⟨Nat.zero_le _, Nat.zero_le _⟩) Z.2 (fun q _ h => h) (fun q h => h) (fun r u t H1 locs1 ht hvm hw hB _ _ hS1 => ?_)
  obtain ⟨rfl, rfl⟩ := hw
  exact kk H1 locs1 ⟨by rw [← ht]; exact hB.1, hS1⟩
theorem zr_i {v r : Int32} (hY : zOk Y) (P0 : Y.2.2.2 s s.heap) (hx : p.tables.exec = Jvm.exec) (hb : c.code = cc) (hr : meth.sig.returnType = some .int) (hlocks : meth.locks = false) (h : some (v, S) = some (r, S')) (Z : zZ Y S s H locs) (hdg : decode cc pc = .ok (.ireturn, 1)) :
    W p l e R s m args below meth c H locs 0 0 (MQ below (zQi Y r S') args s 0 0 Y.2.2.1) (F0 m pc ls [.int v]) := by
  cases h
  exact W.iret hx hb hr (fun t ht hW => ⟨⟨v, S, rfl, ⟨rfl, rfl⟩, zPX_of hY P0 Z ht hW.alike⟩, Z.2.F ht⟩) Z.2.2.2 hdg hlocks
theorem zr_z {v r : Int32} (hY : zOk Y) (P0 : Y.2.2.2 s s.heap) (hx : p.tables.exec = Jvm.exec) (hb : c.code = cc) (hr : meth.sig.returnType = some .boolean) (hlocks : meth.locks = false) (hv : v = 0 ∨ v = 1) (h : some (v, S) = some (r, S')) (Z : zZ Y S s H locs) (hdg : decode cc pc = .ok (.ireturn, 1)) :
    W p l e R s m args below meth c H locs 0 0 (MQ below (zQi Y r S') args s 0 0 Y.2.2.1) (F0 m pc ls [.int v]) := by
  cases h
  exact W.zret hx hb hr (zbo_n hv) (fun t ht hW => ⟨⟨v, S, rfl, ⟨rfl, rfl⟩, zPX_of hY P0 Z ht hW.alike⟩, Z.2.F ht⟩) Z.2.2.2 hdg hlocks
theorem zr_l {v r : Int64} (hY : zOk Y) (P0 : Y.2.2.2 s s.heap) (hx : p.tables.exec = Jvm.exec) (hb : c.code = cc) (hr : meth.sig.returnType = some .long) (hlocks : meth.locks = false) (h : some (v, S) = some (r, S')) (Z : zZ Y S s H locs) (hdg : decode cc pc = .ok (.lreturn, 1)) :
    W p l e R s m args below meth c H locs 0 0 (MQ below (zQl Y r S') args s 0 0 Y.2.2.1) (F0 m pc ls [.long v]) := by
  cases h
  exact W.lret hx hb hr (fun t ht hW => ⟨⟨v, S, rfl, ⟨rfl, rfl⟩, zPX_of hY P0 Z ht hW.alike⟩, Z.2.F ht⟩) Z.2.2.2 hdg hlocks
theorem zr_v {r : Unit} (hY : zOk Y) (P0 : Y.2.2.2 s s.heap) (hx : p.tables.exec = Jvm.exec) (hb : c.code = cc) (hr : meth.sig.returnType = none) (hlocks : meth.locks = false) (h : some ((), S) = some (r, S')) (Z : zZ Y S s H locs) (hdg : decode cc pc = .ok (.return_, 1)) :
    W p l e R s m args below meth c H locs 0 0 (MQ below (zQv Y S') args s 0 0 Y.2.2.1) (F0 m pc ls []) := by
  cases h
  exact W.vret hx hb hr (fun t ht hW => ⟨⟨S, rfl, rfl, zPX_of hY P0 Z ht hW.alike⟩, Z.2.F ht⟩) Z.2.2.2 hdg hlocks
theorem ztbl (hx : p.tables.exec = Jvm.exec) (hb : c.code = cc) {dflt lo hi : Int} {offs : Array Int} {len : Nat} {x k : Int32} {off : Int} {tgt : Nat} (q : x = k) (hdg : decode cc pc = .ok (.tableswitch dflt lo hi offs, len)) (h1 : ¬ k.toInt < lo) (h2 : ¬ hi < k.toInt) (ho : offs[(k.toInt - lo).toNat]? = some off) (ht : (pc : Int) + off = (tgt : Int))
    (kk : W p l e R s m args below meth c H locs 0 0 Q (F0 m tgt ls rest)) : W p l e R s m args below meth c H locs 0 0 Q (F0 m pc ls (.int x :: rest)) := by
  rw [q]
  exact lv_tableIn hx hb hdg h1 h2 ho ht kk
theorem zlkp (hx : p.tables.exec = Jvm.exec) (hb : c.code = cc) {dflt : Int} {ps : Array (Int × Int)} {len : Nat} {x k : Int32} {off : Int} {tgt : Nat} (q : x = k) (hdg : decode cc pc = .ok (.lookupswitch dflt ps, len)) (hp : (ps.toList.zip (ps.toList.drop 1)).all (fun (a, next) => a.1 < next.1) = true) (ho : Op.lookupswitch.offset ps.toList dflt k.toInt = off) (ht : (pc : Int) + off = (tgt : Int))
    (kk : W p l e R s m args below meth c H locs 0 0 Q (F0 m tgt ls rest)) : W p l e R s m args below meth c H locs 0 0 Q (F0 m pc ls (.int x :: rest)) := by
  rw [q]
  exact lv_lookup hx hb hdg hp ho ht kk
end ZBASE
