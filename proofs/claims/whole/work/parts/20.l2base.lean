/-! ===== Layer 2: pure rows over the states ===== -/
theorem zs : (∀ (S : zSt) (k j : Nat) (v : Int32), zI (wI S k v) j = if j = k then v else zI S j) ∧ (∀ (S : zSt) (k j : Nat) (v : Int64), zI (wL S k v) j = zI S j) ∧ (∀ (S : zSt) (k i j : Nat) (v : Int32), zI (wA S k i v) j = zI S j) ∧ (∀ (S : zSt) (k i j : Nat) (v : Int64), zI (wB S k i v) j = zI S j)
    ∧ (∀ (S : zSt) (k j : Nat) (v : Int32), zL (wI S k v) j = zL S j) ∧ (∀ (S : zSt) (k j : Nat) (v : Int64), zL (wL S k v) j = if j = k then v else zL S j) ∧ (∀ (S : zSt) (k i j : Nat) (v : Int32), zL (wA S k i v) j = zL S j) ∧ (∀ (S : zSt) (k i j : Nat) (v : Int64), zL (wB S k i v) j = zL S j)
    ∧ (∀ (S : zSt) (k j : Nat) (v : Int32), zA (wI S k v) j = zA S j) ∧ (∀ (S : zSt) (k j : Nat) (v : Int64), zA (wL S k v) j = zA S j) ∧ (∀ (S : zSt) (k i j : Nat) (v : Int32), zA (wA S k i v) j = if j = k then upd (zA S k) i v else zA S j) ∧ (∀ (S : zSt) (k i j : Nat) (v : Int64), zA (wB S k i v) j = zA S j)
    ∧ (∀ (S : zSt) (k j : Nat) (v : Int32), zB (wI S k v) j = zB S j) ∧ (∀ (S : zSt) (k j : Nat) (v : Int64), zB (wL S k v) j = zB S j) ∧ (∀ (S : zSt) (k i j : Nat) (v : Int32), zB (wA S k i v) j = zB S j) ∧ (∀ (S : zSt) (k i j : Nat) (v : Int64), zB (wB S k i v) j = if j = k then vp_updL (zB S k) i v else zB S j) :=
  ⟨fun _ _ _ _ => rfl, fun _ _ _ _ => rfl, fun _ _ _ _ _ => rfl, fun _ _ _ _ _ => rfl, fun _ _ _ _ => rfl, fun _ _ _ _ => rfl, fun _ _ _ _ _ => rfl, fun _ _ _ _ _ => rfl, fun _ _ _ _ => rfl, fun _ _ _ _ => rfl, fun _ _ _ _ _ => rfl, fun _ _ _ _ _ => rfl, fun _ _ _ _ => rfl, fun _ _ _ _ => rfl, fun _ _ _ _ _ => rfl, fun _ _ _ _ _ => rfl⟩
theorem zin_n {i n : Nat} (h : i < n) (hn : n ≤ 2000000) : zin (nI i) n := by
  have := nI_toInt (n := i) (by omega)
  unfold zin
  omega
theorem zld_n {α β : Type} {n i : Nat} {f : Nat → β} {k : β → Option α} (h : i < n) (hn : n ≤ 2000000) : zld n (nI i) f k = k (f i) := by
  unfold zld
  rw [if_pos (zin_n h hn), nI_clamp (by omega)]
theorem zck_n {α : Type} {n i : Nat} {k : Option α} (h : i < n) (hn : n ≤ 2000000) : zck n (nI i) k = k := by
  unfold zck
  rw [if_pos (zin_n h hn)]
theorem zbd_r {α β : Type} {r : β} {S : zSt} {k : β → zSt → Option α} : zbd (some (r, S)) k = k r S := rfl
theorem zfix_s {α β : Type} {F : (α → Option β) → α → Option β} {n : Nat} {a : α} : zfix F (n + 1) a = F (zfix F n) a := rfl
theorem zFU_s : zFU = 999999 + 1 := rfl
theorem ncl {n : Nat} (h : n ≤ 2000000) : (nI n).toNatClampNeg = n := nI_clamp (by omega)
theorem nle {a b : Nat} (ha : a ≤ 2000000) (hb : b ≤ 2000000) : nI a ≤ nI b ↔ a ≤ b := nI_leI (by omega) (by omega)
theorem nlt {a b : Nat} (ha : a ≤ 2000000) (hb : b ≤ 2000000) : nI a < nI b ↔ a < b := nI_ltI (by omega) (by omega)
theorem neq {a b : Nat} (ha : a ≤ 2000000) (hb : b ≤ 2000000) : nI a = nI b ↔ a = b := nI_eq (by omega) (by omega)
theorem nneg {a : Nat} (ha : a ≤ 2000000) : ¬ nI a < 0 := nI_pos (by omega)
theorem nsub {a b : Nat} (h : b ≤ a) : nI a - nI b = nI (a - b) := pk_sub h
theorem nadd (a b : Nat) : nI a + nI b = nI (a + b) := nI_add a b
theorem nne {a : Nat} (ha : a ≤ 2000000) {v : Int32} (hv : v.toInt < 0) : ¬ nI a = v := by
  intro h
  have := nI_toInt (n := a) (by omega)
  rw [h] at this
  omega
theorem updS (f : Nat → Int32) (k : Nat) (v : Int32) : upd f k v k = v := pk_us
theorem updN (f : Nat → Int32) {k j : Nat} (v : Int32) (h : j ≠ k) : upd f k v j = f j := pk_un h
theorem upd_ite (f : Nat → Int32) (k j : Nat) (v : Int32) : upd f k v j = if j = k then v else f j := rfl
theorem updL_ite (f : Nat → Int64) (k j : Nat) (v : Int64) : vp_updL f k v j = if j = k then v else f j := rfl
theorem lgc0 (x y : Int64) : lg_cmp x y = 0 ↔ x = y := by
  unfold lg_cmp
  by_cases h : x > y
  · simp only [h, if_true]
    constructor
    · intro q; exact absurd q (by decide)
    · intro q; subst q; exact absurd h (by simp)
  · simp only [h, if_false]
    by_cases h2 : x = y
    · simp [h2]
    · simp only [h2, if_false, iff_false]
      decide
