/-! the class's findKept: breadth first -/
def XQ (nd : Nat) (M : zSt) (pl : Nat) (X0 X : zSt) (f len par : Nat → Nat) (c c0 : Nat) : Prop :=
  zI X 27 = nI c ∧ (∀ j, j < c → f j < 400 ∧ zA X 36 j = nI (f j)) ∧ (∀ n, n < 400 → zA X 37 n = nI (len n)) ∧ (∀ j, j < c → 1 ≤ len (f j) ∧ len (f j) ≤ j + 1) ∧ (∀ n, n < 400 → len n ≠ 0 → ∃ j, j < c ∧ f j = n) ∧ (∀ j j', j < c → j' < c → f j = f j' → j = j')
  ∧ c0 ≤ c ∧ (∀ j, j < c0 → rt nd M pl (f j) ∧ len (f j) = 1) ∧ (∀ r, rt nd M pl r → ∃ j, j < c0 ∧ f j = r) ∧ (∀ j j', j < j' → j' < c0 → f j < f j')
  ∧ (∀ j, c0 ≤ j → j < c → par j < j ∧ ed M (f (par j)) (f j) ∧ len (f j) = len (f (par j)) + 1 ∧ zA X 38 (f j) = nI (f (par j)))
  ∧ (∀ j j', c0 ≤ j → j < j' → j' < c → par j < par j' ∨ (par j = par j' ∧ f j < f j')) ∧ FR [36, 37, 38] [27] X0 X
theorem XQ.c400 {nd : Nat} {M : zSt} {pl : Nat} {X0 X : zSt} {f len par : Nat → Nat} {c c0 : Nat} (h : XQ nd M pl X0 X f len par c c0) : c ≤ 400 := inj_400 h.2.2.2.2.2.1 (fun j hj => (h.2.1 j hj).1)
theorem x_addFound {X : zSt} {q c : Nat} {v : Int32} (hq : q < 400) (hc : zI X 27 = nI c) (hc4 : c < 400) : fX1_addFound (nI q) v X = some ((), wI (wA (wA X 38 q v) 36 c (nI q)) 27 (nI (c + 1))) := by
  unfold fX1_addFound
  rw [if_neg (nneg (by omega)), if_neg (nl (by omega)), hc, if_neg (nneg (by omega)), if_neg (nl (by omega)), zck_n hq (by omega), zck_n hc4 (by omega), ncl (by omega), ncl (by omega), nadd]
/-- a node is come to from found i -/
theorem x_come {nd : Nat} {M : zSt} {pl : Nat} {X0 X : zSt} {f len par : Nat → Nat} {c c0 i q : Nat} (h : XQ nd M pl X0 X f len par c c0) (hi : i < c) (hq : q < 400) (he : ed M (f i) q) (hb : len q = 0 → ∀ j, c0 ≤ j → j < c → par j < i ∨ (par j = i ∧ f j < q)) (hpi : ∀ j, c0 ≤ j → j < c → par j ≤ i) :
    ∃ X' f' len' par' c', fX1_comeTo (nI q) (nI (f i)) X = some ((), X') ∧ XQ nd M pl X0 X' f' len' par' c' c0 ∧ c ≤ c' ∧ (∀ j, j < c → f' j = f j ∧ par' j = par j) ∧ (∃ j, j < c' ∧ f' j = q) ∧ (∀ j, c0 ≤ j → j < c' → par' j ≤ i) ∧ (∀ j, c ≤ j → j < c' → par' j = i ∧ f' j = q) ∧ len' q ≠ 0 := by
  have hc4 := h.c400
  have h0 := h
  obtain ⟨h1, h2, h3, h4, h5, h6, h7, h8, h9, h10, h11, h12, h13⟩ := h
  unfold fX1_comeTo
  rw [if_neg (nneg (by omega)), if_neg (nl (by omega)), zld_n hq (by omega), h3 q hq]
  by_cases e : len q = 0
  · have hn : ∀ j, j < c → f j ≠ q := fun j hj z => by have := (h4 j hj).1; rw [z] at this; omega
    have hlt := inj_fresh h6 (fun j hj => (h2 j hj).1) hq hn
    have hfi := h2 i hi
    have hli := h4 i hi
    have hqf : ∀ j, j < c → q ≠ f j := fun j hj z => hn j hj z.symm
    refine ⟨wI (wA (wA (wA X 37 q (nI (len (f i) + 1))) 38 q (nI (f i))) 36 c (nI q)) 27 (nI (c + 1)), up f c q, up len q (len (f i) + 1), up par c i, c + 1, ?_, ?_, by omega, fun j hj => ⟨upN f q (by omega), upN par i (by omega)⟩, ⟨c, by omega, upS _ _ _⟩, fun j hj0 hj => ?_, fun j hj0 hj => ?_, by rw [upS]; omega⟩
    · rw [e, if_pos nI_0]
      unfold fX1_lengthOf
      rw [if_neg (nneg (by omega)), if_neg (nl (by omega)), zld_n hfi.1 (by omega), h3 _ hfi.1, zbd_r, zck_n hq (by omega), ncl (by omega), nadd, x_addFound (X := wA X 37 q (nI (len (f i) + 1))) (c := c) hq h1 hlt, zbd_r]
    · refine ⟨rfl, fun j hj => ?_, fun n hn4 => ?_, fun j hj => ?_, fun n hn4 hl => ?_, inj_up h6 hn, by omega, fun j hj => ?_, fun r hr => ?_, fun j j' hj hj' => ?_, fun j hj0 hj => ?_, fun j j' hj0 hjj hj' => ?_, ?_⟩
      · show up f c q j < 400 ∧ upd (zA X 36) c (nI q) j = nI (up f c q j)
        by_cases z : j = c
        · rw [z, upS, updS]; exact ⟨hq, rfl⟩
        · rw [upN f q z, updN _ _ z]; exact h2 j (by omega)
      · show upd (zA X 37) q (nI (len (f i) + 1)) n = nI (up len q (len (f i) + 1) n)
        by_cases z : n = q
        · rw [z, upS, updS]
        · rw [upN _ _ z, updN _ _ z]; exact h3 n hn4
      · by_cases z : j = c
        · rw [z, upS, upS]; omega
        · rw [upN f q z, upN len _ (hn j (by omega))]; exact h4 j (by omega)
      · by_cases z : n = q
        · exact ⟨c, by omega, by rw [upS, z]⟩
        · rw [upN len _ z] at hl
          obtain ⟨j, j1, j2⟩ := h5 n hn4 hl
          exact ⟨j, by omega, by rw [upN f q (by omega)]; exact j2⟩
      · rw [upN f q (by omega), upN len _ (hn j (by omega))]; exact h8 j hj
      · obtain ⟨j, j1, j2⟩ := h9 r hr
        exact ⟨j, j1, by rw [upN f q (by omega)]; exact j2⟩
      · rw [upN f q (by omega), upN f q (by omega)]; exact h10 j j' hj hj'
      · show up par c i j < j ∧ ed M (up f c q (up par c i j)) (up f c q j) ∧ up len q (len (f i) + 1) (up f c q j) = up len q (len (f i) + 1) (up f c q (up par c i j)) + 1 ∧ upd (zA X 38) q (nI (f i)) (up f c q j) = nI (up f c q (up par c i j))
        by_cases z : j = c
        · rw [z, upS, upS, upN f q (show i ≠ c by omega), upS, upN len _ (hn i hi), updS]
          exact ⟨hi, he, rfl, rfl⟩
        · obtain ⟨a, b, c1, d⟩ := h11 j hj0 (by omega)
          rw [upN par i z, upN f q z, upN f q (show par j ≠ c by omega), upN len _ (hn j (by omega)), upN len _ (hn (par j) (by omega)), updN _ _ (hn j (by omega))]
          exact ⟨a, b, c1, d⟩
      · by_cases z : j' = c
        · rw [z, upS, upN par i (show j ≠ c by omega), upN f q (show j ≠ c by omega), upS]
          exact hb e j hj0 (by omega)
        · rw [upN par i z, upN par i (show j ≠ c by omega), upN f q z, upN f q (show j ≠ c by omega)]
          exact h12 j j' hj0 hjj (by omega)
      · exact FR_trans h13 (FR_trans (FR_trans (FR_trans (FR_A _ _ _ (by decide)) (FR_A _ _ _ (by decide))) (FR_A _ _ _ (by decide))) (FR_I _ _ (by decide)))
    · by_cases z : j = c
      · rw [z, upS]; exact Nat.le_refl _
      · rw [upN par i z]; exact hpi j hj0 (by omega)
    · have : j = c := by omega
      rw [this, upS, upS]; exact ⟨rfl, rfl⟩
  · obtain ⟨j, j1, j2⟩ := h5 q hq e
    have hle : len q ≤ 401 := by have := (h4 j j1).2; rw [j2] at this; omega
    refine ⟨X, f, len, par, c, ?_, h0, Nat.le_refl _, fun _ _ => ⟨rfl, rfl⟩, ⟨j, j1, j2⟩, hpi, fun j' z1 z2 => by omega, e⟩
    rw [if_neg (show ¬ nI (len q) = 0 from nq (b := 0) e)]
theorem x_hasTwo {X M : zSt} (hR : Rg X M) {n : Nat} (hn : n < 400) (hl : zA M 24 n ≠ nI 7) : fX0_hasTwo (nI n) X = some (if two M n then nI 1 else nI 0, X) := by
  unfold fX0_hasTwo
  rw [x_kind hn, zbd_r, (hR.live hn hl).1]
  by_cases h1 : zA M 24 n = nI 1
  · have t : two M n := Or.inl h1
    rw [if_pos h1, if_pos t]
  · rw [if_neg h1]
    by_cases h4 : zA M 24 n = nI 4
    · have t : two M n := Or.inr h4
      rw [if_pos h4, if_pos t]
    · have t : ¬ two M n := fun z => z.elim h1 h4
      rw [if_neg h4, if_neg t]
theorem x_hasOne {X M : zSt} (hR : Rg X M) {n : Nat} (hn : n < 400) (hl : zA M 24 n ≠ nI 7) : fX0_hasOne (nI n) X = some (if zA M 24 n = nI 6 then nI 1 else nI 0, X) := by
  unfold fX0_hasOne
  rw [x_kind hn, zbd_r, (hR.live hn hl).1]
  split <;> rfl
