theorem qle {a b : Nat} (h : a ≤ b) (hb : b ≤ 2000000 := by omega) : nI a ≤ nI b := (nle (by omega) hb).mpr h
theorem nl {a b : Nat} (h : b < a) (ha : a ≤ 2000000 := by omega) : ¬ nI a ≤ nI b := fun q => absurd ((nle ha (by omega)).mp q) (by omega)
theorem pt {a b : Nat} (h : a < b) (hb : b ≤ 2000000 := by omega) : nI a < nI b := (nlt (by omega) hb).mpr h
theorem nt {a b : Nat} (h : b ≤ a) (ha : a ≤ 2000000 := by omega) : ¬ nI a < nI b := fun q => absurd ((nlt ha (by omega)).mp q) (by omega)
theorem nq {a b : Nat} (h : a ≠ b) (ha : a ≤ 2000000 := by omega) (hb : b ≤ 2000000 := by omega) : ¬ nI a = nI b := fun q => h ((neq ha hb).mp q)
/-! the class's reads -/
theorem x_kind {X : zSt} {n : Nat} (h : n < 400) : fX0_kindOf (nI n) X = some (zA X 25 n, X) := by
  unfold fX0_kindOf
  rw [if_neg (nneg (by omega)), if_neg (nl (a := 400) (b := n) (by omega)), zld_n h (by omega)]
theorem x_kindN {X : zSt} {v : Int32} (h : v < 0) : fX0_kindOf v X = some (-1, X) := by
  unfold fX0_kindOf
  rw [if_pos h]
theorem x_first {X : zSt} {n : Nat} (h : n < 400) : fX0_firstOf (nI n) X = some (zA X 26 n, X) := by
  unfold fX0_firstOf
  rw [if_neg (nneg (by omega)), if_neg (nl (a := 400) (b := n) (by omega)), zld_n h (by omega)]
theorem x_second {X : zSt} {n : Nat} (h : n < 400) : fX0_secondOf (nI n) X = some (zA X 27 n, X) := by
  unfold fX0_secondOf
  rw [if_neg (nneg (by omega)), if_neg (nl (a := 400) (b := n) (by omega)), zld_n h (by omega)]
theorem x_maker {X : zSt} {n : Nat} (h : n < 400) : fX0_makerOf (nI n) X = some (zA X 28 n, X) := by
  unfold fX0_makerOf
  rw [if_neg (nneg (by omega)), if_neg (nl (a := 400) (b := n) (by omega)), zld_n h (by omega)]
theorem x_become {X : zSt} {n : Nat} {k a b : Int32} (h : n < 400) : fX0_become (nI n) k a b X = some ((), wA (wA (wA X 25 n k) 26 n a) 27 n b) := by
  unfold fX0_become
  rw [if_neg (nneg (by omega)), if_neg (nl (a := 400) (b := n) (by omega)), zck_n h (by omega), zck_n h (by omega), zck_n h (by omega), ncl (by omega)]
theorem x_params {X : zSt} {d : Nat} (h : d < 20) : fX4_parametersOf (nI d) X = some (zA X 13 d, X) := by
  unfold fX4_parametersOf fX4_isDefinition
  rw [if_neg (nneg (by omega)), if_neg (nl (a := 20) (b := d) (by omega)), zbd_r, if_neg (by decide), zld_n h (by omega)]
theorem x_nodes {X : zSt} {d : Nat} (h : d < 20) : fX4_nodesOf (nI d) X = some (zA X 16 d, X) := by
  unfold fX4_nodesOf fX4_isDefinition
  rw [if_neg (nneg (by omega)), if_neg (nl (a := 20) (b := d) (by omega)), zbd_r, if_neg (by decide), zld_n h (by omega)]
theorem x_begin {X : zSt} {d : Nat} (h : d < 20) : fX4_beginOf (nI d) X = some (zA X 14 d, X) := by
  unfold fX4_beginOf fX4_isDefinition
  rw [if_neg (nneg (by omega)), if_neg (nl (a := 20) (b := d) (by omega)), zbd_r, if_neg (by decide), zld_n h (by omega)]
theorem x_end {X : zSt} {d : Nat} (h : d < 20) : fX4_endOf (nI d) X = some (zA X 15 d, X) := by
  unfold fX4_endOf fX4_isDefinition
  rw [if_neg (nneg (by omega)), if_neg (nl (a := 20) (b := d) (by omega)), zbd_r, if_neg (by decide), zld_n h (by omega)]
theorem x_needs {X : zSt} {p : Nat} (h : p < 13) : fX2_needsOf (nI p) X = some (zneeds p, X) := by
  unfold fX2_needsOf
  rw [if_neg (nneg (by omega)), if_neg (nl (a := 13) (b := p) (by omega)), zld_n h (by omega)]
theorem x_wants {X : zSt} {p : Nat} (h : p < 13) : fX2_wantsOf (nI p) X = some (zwants p, X) := by
  unfold fX2_wantsOf
  rw [if_neg (nneg (by omega)), if_neg (nl (a := 13) (b := p) (by omega)), zld_n h (by omega)]
/-- the class's stacks: how many places, how many on the dump, where the one at hand begins -/
def XS (X : zSt) (sz dp b : Nat) : Prop := zI X 19 = nI sz ∧ zI X 20 = nI dp ∧ zA X 30 dp = nI b ∧ b < sz ∧ sz ≤ 600 ∧ dp < 600
theorem x_beginOf {X : zSt} {i : Nat} (h : i < 600) : fX6_beginOf (nI i) X = some (zA X 30 i, X) := by
  unfold fX6_beginOf
  rw [if_neg (nneg (by omega)), if_neg (nl (a := 600) (b := i) (by omega)), zld_n h (by omega)]
theorem x_height {X : zSt} {sz dp b : Nat} (h : XS X sz dp b) : fX6_height X = some (nI (sz - b), X) := by
  obtain ⟨h1, h2, h3, h4, h5, h6⟩ := h
  unfold fX6_height
  rw [h2, x_beginOf h6, zbd_r, h1, h3, nsub (by omega)]
theorem x_at {X : zSt} {sz i : Nat} (h1 : zI X 19 = nI sz) (h : i < sz) (h5 : sz ≤ 600) : fX6_at (nI i) X = some (zA X 29 i, X) := by
  unfold fX6_at
  rw [if_neg (nneg (by omega)), h1, if_neg (nl (by omega)), if_neg (nl (a := 600) (b := i) (by omega)), zld_n (by omega) (by omega)]
theorem x_fromTop {X : zSt} {sz dp b k : Nat} (h : XS X sz dp b) (hk : k < sz - b) : fX6_fromTop (nI k) X = some (zA X 29 (sz - 1 - k), X) := by
  unfold fX6_fromTop
  have h0 := h
  obtain ⟨h1, h2, h3, h4, h5, h6⟩ := h
  rw [if_neg (nneg (by omega)), x_height h0, zbd_r, if_neg (nl (by omega)), h1, nsub (by omega), nsub (by omega), x_at h1 (by omega) h5, zbd_r]
theorem x_fromTop_out {X : zSt} {sz dp b : Nat} {v : Int32} (h : XS X sz dp b) (hk : v < 0 ∨ nI (sz - b) ≤ v) : fX6_fromTop v X = some (-1, X) := by
  unfold fX6_fromTop
  by_cases q : v < 0
  · rw [if_pos q]
  · rw [if_neg q, x_height h, zbd_r, if_pos (hk.resolve_left q)]
theorem x_secondBelow {X : zSt} {sz dp b k n : Nat} (h : XS X sz dp b) (hk : k < sz - b) (hn : zA X 29 (sz - 1 - k) = nI n) (hn4 : n < 400) : fX2_secondBelow (nI k) X = some (zA X 27 n, X) := by
  unfold fX2_secondBelow
  rw [x_fromTop h hk, zbd_r, hn, x_second hn4, zbd_r]
theorem x_push {X : zSt} {sz : Nat} {v : Int32} (h1 : zI X 19 = nI sz) (h : sz < 600) : fX6_push v X = some ((), wI (wA X 29 sz v) 19 (nI (sz + 1))) := by
  unfold fX6_push
  rw [h1, if_neg (nneg (by omega)), if_neg (nl (a := 600) (by omega)), zck_n h (by omega), ncl (by omega), nadd]
theorem x_pop {X : zSt} {sz dp b k : Nat} (h : XS X sz dp b) (hk : k ≤ sz - b) : fX6_pop (nI k) X = some ((), wI X 19 (nI (sz - k))) := by
  have h0 := h
  obtain ⟨h1, h2, h3, h4, h5, h6⟩ := h
  unfold fX6_pop
  rw [x_height h0, zbd_r]
  by_cases q : nI (sz - b) ≤ nI k
  · have q2 := (nle (by omega) (by omega)).mp q
    rw [if_pos q, x_height h0, zbd_r, h1, nsub (by omega)]
    have : sz - (sz - b) = sz - k := by omega
    rw [this]
  · rw [if_neg q, h1, nsub (by omega)]
theorem x_hasRoom {X : zSt} {sz : Nat} (h1 : zI X 19 = nI sz) (h : sz ≤ 600) : fX6_hasRoom X = some (if sz = 600 then nI 0 else nI 1, X) := by
  unfold fX6_hasRoom
  by_cases q : sz = 600
  · rw [if_pos q, h1, if_pos (qle (a := 600) (by omega))]
  · rw [if_neg q, h1, if_neg (nl (a := 600) (by omega))]
theorem x_putOnDump {X : zSt} {sz dp : Nat} {v : Int32} (h1 : zI X 19 = nI sz) (h2 : zI X 20 = nI dp) (h : sz < 600) (hd : dp < 599) : fX6_putOnDump v X = some ((), wI (wA (wA (wI X 20 (nI (dp + 1))) 30 (dp + 1) (nI sz)) 29 sz v) 19 (nI (sz + 1))) := by
  unfold fX6_putOnDump
  rw [x_hasRoom h1 (by omega), zbd_r, if_neg (show ¬ sz = 600 by omega), if_neg (show ¬ nI 1 = 0 by decide), h2, if_neg (nneg (by omega)), if_neg (nl (a := 599) (by omega)), nadd, zck_n (by omega) (by omega), ncl (by omega), h1]
  rw [x_push (sz := sz) (by simp only [zs]; exact h1) h, zbd_r]
theorem x_takeFromDump {X : zSt} {sz dp b : Nat} (h : XS X sz dp b) (hd : 0 < dp) : fX6_takeFromDump X = some ((), wI (wI X 19 (nI b)) 20 (nI (dp - 1))) := by
  obtain ⟨h1, h2, h3, h4, h5, h6⟩ := h
  unfold fX6_takeFromDump
  rw [h2, if_neg (show ¬ nI dp ≤ 0 from nl (a := dp) (b := 0) (by omega)), x_beginOf h6, zbd_r, h3, h2, nsub (by omega)]
theorem x_valueOnTop {X : zSt} {dp : Nat} (h2 : zI X 20 = nI dp) (hd : dp < 600) : fX2_valueOnTop X = some (if dp = 0 then nI 6 else nI 5, X) := by
  unfold fX2_valueOnTop fX6_dumped
  rw [zbd_r, h2]
  by_cases q : dp = 0
  · rw [if_pos q, if_pos (show nI dp ≤ 0 from qle (b := 0) (by omega))]
  · rw [if_neg q, if_neg (show ¬ nI dp ≤ 0 from nl (a := dp) (b := 0) (by omega))]
