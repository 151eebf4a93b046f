/-! THE START: the first states, and the walk to the loop -/
def adX (h0 : Nat) (q : Nat → Nat) : Nat → Nat := fun k => ([h0, q 0, q 2, q 15, q 13, q 18, q 23, q 26, q 29, q 33, q 37, q 1, q 3, q 4, q 5, q 6, q 7, q 8, q 9, q 10, q 11, q 12, q 16, q 17, q 14, q 19, q 20, q 21, q 22, q 24, q 25, q 27, q 28, q 30, q 31, q 32, q 34, q 35, q 36] : List Nat).getD k 0
def adM (h0 : Nat) (q : Nat → Nat) : Nat → Nat := fun k => match k with
  | 0 => h0
  | k + 1 => q k
def S0X : zSt := (fun k => match k with
  | 4 => -1
  | 18 => -3
  | 23 => -1
  | 24 => -1
  | 25 => -1
  | _ => nI 0, fun _ => 0, fun _ _ => 0, fun k => match k with
  | 24 => gW15
  | _ => fun _ => 0)
def wM0 : Nat → Int64 := (vp_updL (vp_updL (vp_updL (vp_updL (vp_updL (vp_updL (vp_updL (vp_updL (vp_updL (vp_updL (vp_updL (vp_updL (vp_updL (vp_updL (vp_updL (fun _ => 0) 0 (7103860 : Int64)) 1 (26990 : Int64)) 2 (6382692 : Int64)) 3 (7566690 : Int64)) 4 (7173484 : Int64)) 5 (7435631 : Int64)) 6 (1818588019 : Int64)) 7 (1935764837 : Int64)) 8 (26982 : Int64)) 9 (1668247155 : Int64)) 10 (7235948 : Int64)) 11 (1751474532 : Int64)) 12 (1952541036 : Int64)) 13 (435627783289 : Int64)) 14 (7562609 : Int64))
def S0M : zSt := (fun _ => 0, fun _ => 0, fun _ _ => 0, fun k => match k with
  | 2 => wM0
  | _ => fun _ => 0)
theorem LV_start : LV 0 S0X S0M := by
  refine ⟨⟨0, by omega, rfl, rfl, fun i h => absurd h (by omega)⟩, ⟨fun i => wdL.getD i 0, gW_eq, ?_, ?_⟩, rfl, ⟨0, by omega, rfl, fun s _ => Or.inl rfl⟩, Or.inl ⟨rfl, rfl⟩⟩
  · show ∀ i, i < 15 → wM0 i = if i < 2 then wdL.getD (13 + i) 0 else wdL.getD (i - 2) 0
    decide +kernel
  · have hd : ∀ i, i < 15 → ∀ j, j < 15 → wdL.getD i 0 = wdL.getD j 0 → i = j := by decide +kernel
    exact fun i j hi hj => hd i hi j hj
theorem zinjX_of {g : zG} {A : Nat → Prop} {S : zSt} (h : va_D A (zcX g S)) : zinjX g ∧ ∀ q, zAX g q → A q := by
  have key : ∀ i, i < 39 → ∃ x, (zcX g S)[i]? = some (zad g i, x) := fun i hi => by
    have hl : i < (zcX g S).length := hi
    have h1 : ((zcX g S).map (fun q => q.1))[i]? = some (zad g i) := by rw [zcadX, List.getElem?_map, List.getElem?_range hi]; rfl
    rw [List.getElem?_map, List.getElem?_eq_getElem hl] at h1
    exact ⟨((zcX g S)[i]).2, by rw [List.getElem?_eq_getElem hl]; exact congrArg some (Prod.ext (Option.some.inj h1) rfl)⟩
  refine ⟨fun i j hi hj e => ?_, fun q ⟨k, hk, e⟩ => ?_⟩
  · obtain ⟨x, hx⟩ := key i hi
    obtain ⟨y, hy⟩ := key j hj
    exact h.1 i j _ _ hx hy e
  · obtain ⟨x, hx⟩ := key k hk
    rw [e]
    exact h.2 k _ hx
theorem zinjM_of {g : zG} {A : Nat → Prop} {S : zSt} (h : va_D A (zcM g S)) : zinjM g ∧ ∀ q, zAM g q → A q := by
  have key : ∀ i, i < 38 → ∃ x, (zcM g S)[i]? = some (zad g i, x) := fun i hi => by
    have hl : i < (zcM g S).length := hi
    have h1 : ((zcM g S).map (fun q => q.1))[i]? = some (zad g i) := by rw [zcadM, List.getElem?_map, List.getElem?_range hi]; rfl
    rw [List.getElem?_map, List.getElem?_eq_getElem hl] at h1
    exact ⟨((zcM g S)[i]).2, by rw [List.getElem?_eq_getElem hl]; exact congrArg some (Prod.ext (Option.some.inj h1) rfl)⟩
  refine ⟨fun i j hi hj e => ?_, fun q ⟨k, hk, e⟩ => ?_⟩
  · obtain ⟨x, hx⟩ := key i hi
    obtain ⟨y, hy⟩ := key j hj
    exact h.1 i j _ _ hx hy e
  · obtain ⟨x, hx⟩ := key k hk
    rw [e]
    exact h.2 k _ hx
set_option maxRecDepth 100000 in
theorem zXof (g1 : va_G) (ct : Nat → ClassId) (t1 t2 h0 : Nat) (q : Nat → Nat) : ([0, 1, 3, 16, 14, 19, 24, 27, 30, 34, 38, 2, 4, 5, 6, 7, 8, 9, 10, 11, 12, 13, 17, 18, 15, 20, 21, 22, 23, 25, 26, 28, 29, 31, 32, 33, 35, 36, 37] : List Nat).map (fun i => (wX9 ct h0 q)[i]?) = (zcX (g1, adX h0 q, ct, t1, t2) S0X).map some := rfl
set_option maxRecDepth 100000 in
theorem zMof (g1 : va_G) (ct : Nat → ClassId) (t1 t2 h0 : Nat) (q : Nat → Nat) : wX10 ct h0 q = zcM (g1, adM h0 q, ct, t1, t2) S0M := rfl
