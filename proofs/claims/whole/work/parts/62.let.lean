/-! read(): a let -/
theorem rk_le (M : zSt) (l : Nat) {s s' : Nat} (h : s ≤ s') : rk M l s ≤ rk M l s' := by
  obtain ⟨d, rfl⟩ : ∃ d, s' = s + d := ⟨s' - s, by omega⟩
  exact rk_mono M l d s
theorem rk_surj (M : zSt) (l j : Nat) : ∀ ns, j < rk M l ns → ∃ s, s < ns ∧ zA M 22 s = nI l ∧ rk M l s = j := by
  intro ns
  induction ns with
  | zero => intro h; exact absurd h (Nat.not_lt_zero _)
  | succ ns ih =>
    intro h
    by_cases z : j < rk M l ns
    · obtain ⟨s, h1, h2⟩ := ih z
      exact ⟨s, by omega, h2⟩
    · have h' : j < rk M l ns + (if zA M 22 ns = nI l then 1 else 0) := h
      by_cases y : zA M 22 ns = nI l
      · rw [if_pos y] at h'
        exact ⟨ns, by omega, y, by omega⟩
      · rw [if_neg y] at h'
        omega
theorem rk_zero {M : zSt} {l : Nat} : ∀ ns, (∀ s, s < ns → zA M 22 s ≠ nI l) → rk M l ns = 0 := by
  intro ns
  induction ns with
  | zero => intro _; rfl
  | succ ns ih =>
    intro h
    show rk M l ns + (if zA M 22 ns = nI l then 1 else 0) = 0
    rw [ih (fun s hs => h s (by omega)), if_neg (h ns (by omega))]
/-- a NAME is told from a deed on -/
def TL (X X' : zSt) (a nd : Nat) (nm : Int64) (dk v : Int32) : Prop := ∀ i, (a ≤ i → i < nd → zA X 17 i = nI 8 → zB X 20 i = nm → zA X' 17 i = dk ∧ zA X' 18 i = v) ∧ (¬ (a ≤ i ∧ i < nd ∧ zA X 17 i = nI 8 ∧ zB X 20 i = nm) → zA X' 17 i = zA X 17 i ∧ zA X' 18 i = zA X 18 i)
theorem x_tellL {nd : Nat} {nm : Int64} {dk v : Int32} (hnd : nd ≤ 800) : ∀ (c i f : Nat) (X : zSt), i + c = nd → c < f → zI X 7 = nI nd → ∃ X', fX4_tell_11L f (nm, dk, v, nI i, X) = some ((), X') ∧ FQ [17, 18] [] [] X X' ∧ zL X' 0 = zL X 0 ∧ TL X X' i nd nm dk v := by
  intro c
  induction c with
  | zero =>
    intro i f X hi hf h7
    obtain ⟨f, rfl⟩ : ∃ n', f = n' + 1 := ⟨f - 1, by omega⟩
    refine ⟨X, ?_, FQ_refl _, rfl, fun j => ⟨fun h1 h2 => by omega, fun _ => ⟨rfl, rfl⟩⟩⟩
    show fX4_tell_11 (fX4_tell_11L f) nm dk v (nI i) X = _
    unfold fX4_tell_11
    rw [h7, if_pos (qle (by omega))]
  | succ c ih =>
    intro i f X hi hf h7
    obtain ⟨f, rfl⟩ : ∃ n', f = n' + 1 := ⟨f - 1, by omega⟩
    have e : fX4_tell_11L (f + 1) (nm, dk, v, nI i, X) = if zA X 17 i = nI 8 ∧ zB X 20 i = nm then fX4_tell_11L f (nm, dk, v, nI (i + 1), wA (wA X 17 i dk) 18 i v) else fX4_tell_11L f (nm, dk, v, nI (i + 1), X) := by
      show fX4_tell_11 (fX4_tell_11L f) nm dk v (nI i) X = _
      unfold fX4_tell_11
      rw [h7, if_neg (nl (by omega)), if_neg (nl (by omega)), zld_n (by omega) (by omega), nadd]
      by_cases z : zA X 17 i = nI 8
      · rw [if_pos z, zld_n (by omega) (by omega)]
        by_cases y : zB X 20 i = nm
        · rw [if_pos ((lgc0 _ _).mpr y), zck_n (by omega) (by omega), zck_n (by omega) (by omega), ncl (by omega), if_pos ⟨z, y⟩]
        · rw [if_neg (fun q => y ((lgc0 _ _).mp q)), if_neg (fun q => y q.2)]
      · rw [if_neg z, if_neg (fun q => z q.1)]
    rw [e]
    by_cases z : zA X 17 i = nI 8 ∧ zB X 20 i = nm
    · rw [if_pos z]
      obtain ⟨X', r1, r2, r3, r4⟩ := ih (i + 1) f (wA (wA X 17 i dk) 18 i v) (by omega) (by omega) h7
      refine ⟨X', r1, FQ_trans (FQ_trans (FQ_A _ _ _ (by decide)) (FQ_A _ _ _ (by decide))) r2, r3, fun j => ?_⟩
      have hw : j ≠ i → zA (wA (wA X 17 i dk) 18 i v) 17 j = zA X 17 j ∧ zA (wA (wA X 17 i dk) 18 i v) 18 j = zA X 18 j := fun hj => ⟨updN _ _ hj, updN _ _ hj⟩
      by_cases hj : j = i
      · obtain ⟨q1, q2⟩ := (r4 j).2 (fun w => by omega)
        have h1 : zA (wA (wA X 17 i dk) 18 i v) 17 j = dk := by rw [hj]; exact updS _ _ _
        have h2 : zA (wA (wA X 17 i dk) 18 i v) 18 j = v := by rw [hj]; exact updS _ _ _
        exact ⟨fun _ _ _ _ => ⟨q1.trans h1, q2.trans h2⟩, fun w => absurd ⟨by omega, by omega, by rw [hj]; exact z.1, by rw [hj]; exact z.2⟩ w⟩
      · obtain ⟨w1, w2⟩ := hw hj
        refine ⟨fun h1 h2 h3 h4 => (r4 j).1 (by omega) h2 (by rw [w1]; exact h3) h4, fun h => ?_⟩
        obtain ⟨q1, q2⟩ := (r4 j).2 (fun w => h ⟨by omega, w.2.1, by rw [← w1]; exact w.2.2.1, w.2.2.2⟩)
        exact ⟨q1.trans w1, q2.trans w2⟩
    · rw [if_neg z]
      obtain ⟨X', r1, r2, r3, r4⟩ := ih (i + 1) f X (by omega) (by omega) h7
      refine ⟨X', r1, r2, r3, fun j => ?_⟩
      by_cases hj : j = i
      · refine ⟨fun _ _ h1 h2 => absurd ⟨by rw [← hj]; exact h1, by rw [← hj]; exact h2⟩ z, fun _ => (r4 j).2 (fun w => by omega)⟩
      · exact ⟨fun h1 h2 h3 h4 => (r4 j).1 (by omega) h2 h3 h4, fun h => (r4 j).2 (fun w => h ⟨by omega, w.2⟩)⟩
theorem x_tell {nd a : Nat} {nm : Int64} {dk v : Int32} {X : zSt} (hnd : nd ≤ 800) (ha : a ≤ nd) (h7 : zI X 7 = nI nd) : ∃ X', fX4_tell (nI a) nm dk v X = some ((), X') ∧ FQ [17, 18] [] [] X X' ∧ zL X' 0 = zL X 0 ∧ TL X X' a nd nm dk v := by
  unfold fX4_tell
  rw [if_pos (show (0 : Int32) ≤ nI a from qle (a := 0) (Nat.zero_le _))]
  exact x_tellL hnd (nd - a) a zFU X (by omega) (by rw [zFU_s]; omega) h7
/-- several NAMES are told, one after another -/
def TB (X X' : zSt) (a nd : Nat) (B : Nat → Int64) (base j0 cnt : Nat) (dk : Int32) : Prop := ∀ i, (a ≤ i → i < nd → zA X 17 i = nI 8 → ∀ j, j0 ≤ j → j < cnt → B j = zB X 20 i → (∀ j', j0 ≤ j' → j' < j → B j' ≠ zB X 20 i) → zA X' 17 i = dk ∧ zA X' 18 i = nI (base + j)) ∧ ((¬ (a ≤ i ∧ i < nd ∧ zA X 17 i = nI 8) ∨ ∀ j, j0 ≤ j → j < cnt → B j ≠ zB X 20 i) → zA X' 17 i = zA X 17 i ∧ zA X' 18 i = zA X 18 i)
theorem TB_nil (X : zSt) (a nd : Nat) (B : Nat → Int64) (base cnt : Nat) (dk : Int32) : TB X X a nd B base cnt cnt dk := fun i => ⟨fun _ _ _ j h1 h2 => by omega, fun _ => ⟨rfl, rfl⟩⟩
theorem TB_step {X X1 X2 : zSt} {a nd base j0 cnt : Nat} {B : Nat → Int64} {dk : Int32} (hdk : ¬ dk = nI 8) (hj : j0 < cnt) (h20 : zB X1 20 = zB X 20) (h1 : TL X X1 a nd (B j0) dk (nI (base + j0))) (h2 : TB X1 X2 a nd B base (j0 + 1) cnt dk) : TB X X2 a nd B base j0 cnt dk := by
  intro i
  obtain ⟨a1, a2⟩ := h1 i
  obtain ⟨b1, b2⟩ := h2 i
  rw [h20] at b1 b2
  refine ⟨fun q1 q2 q3 j w1 w2 w3 w4 => ?_, fun q => ?_⟩
  · by_cases z : j = j0
    · obtain ⟨y1, y2⟩ := a1 q1 q2 q3 (by rw [← z]; exact w3.symm)
      obtain ⟨v1, v2⟩ := b2 (Or.inl (fun w => hdk (by rw [← y1]; exact w.2.2)))
      exact ⟨v1.trans y1, by rw [v2, y2, z]⟩
    · obtain ⟨y1, y2⟩ := a2 (fun w => w4 j0 (Nat.le_refl _) (by omega) w.2.2.2.symm)
      exact b1 q1 q2 (by rw [y1]; exact q3) j (by omega) w2 w3 (fun j' u1 u2 => w4 j' (by omega) u2)
  · rcases q with q | q
    · obtain ⟨y1, y2⟩ := a2 (fun w => q ⟨w.1, w.2.1, w.2.2.1⟩)
      obtain ⟨v1, v2⟩ := b2 (Or.inl (fun w => q ⟨w.1, w.2.1, by rw [← y1]; exact w.2.2⟩))
      exact ⟨v1.trans y1, v2.trans y2⟩
    · obtain ⟨y1, y2⟩ := a2 (fun w => q j0 (Nat.le_refl _) hj w.2.2.2.symm)
      obtain ⟨v1, v2⟩ := b2 (Or.inr (fun j u1 u2 => q j (by omega) u2))
      exact ⟨v1.trans y1, v2.trans y2⟩
/-- the let's NAMES are told -/
theorem tell_let {oE : Int32 → zSt → Option (Int32 × zSt)} {nd a o cnt : Nat} (hnd : nd ≤ 800) (ha : a ≤ nd) (hc : 6 * o + cnt ≤ 72) : ∀ (k j f : Nat) (X : zSt), j + k = cnt → k < f → zI X 7 = nI nd → ∃ X', fX5_readLet_143L oE f (nI (6 * o), nI a, nI cnt, nI (6 * o + j), X) = some (nI 1, X') ∧ FQ [17, 18] [] [] X X' ∧ zL X' 0 = zL X 0 ∧ TB X X' a nd (fun j => zB X 23 (6 * o + j)) (6 * o) j cnt (nI 4) := by
  intro k
  induction k with
  | zero =>
    intro j f X hj hf h7
    obtain ⟨f, rfl⟩ : ∃ n', f = n' + 1 := ⟨f - 1, by omega⟩
    have : j = cnt := by omega
    subst this
    refine ⟨X, ?_, FQ_refl _, rfl, TB_nil _ _ _ _ _ _ _⟩
    show fX5_readLet_143 oE (fX5_readLet_143L oE f) (nI (6 * o)) (nI a) (nI j) (nI (6 * o + j)) X = _
    unfold fX5_readLet_143
    rw [nadd, if_pos (qle (by omega))]
  | succ k ih =>
    intro j f X hj hf h7
    obtain ⟨f, rfl⟩ : ∃ n', f = n' + 1 := ⟨f - 1, by omega⟩
    obtain ⟨X1, r1, r2, r3, r4⟩ := x_tell (nm := zB X 23 (6 * o + j)) (dk := nI 4) (v := nI (6 * o + j)) hnd ha h7
    obtain ⟨X', q1, q2, q3, q4⟩ := ih (j + 1) f X1 (by omega) (by omega) (by rw [r2.2.1 7 (by decide)]; exact h7)
    refine ⟨X', ?_, FQ_trans r2 q2, q3.trans r3, ?_⟩
    · show fX5_readLet_143 oE (fX5_readLet_143L oE f) (nI (6 * o)) (nI a) (nI cnt) (nI (6 * o + j)) X = _
      unfold fX5_readLet_143
      rw [nadd, if_neg (nl (by omega)), if_neg (nl (by omega)), zld_n (by omega) (by omega), r1, zbd_r, nadd]
      exact q1
    · rw [r2.2.2 23 (by decide)] at q4
      exact TB_step (by decide) (by omega) (r2.2.2 20 (by decide)) r4 q4
/-- has a let this NAME already -/
theorem x_hasN {X : zSt} {hi : Nat} {nm : Int64} (hh : hi ≤ 72) : ∀ (c i f : Nat), i + c = hi → c < f → (∀ j, i ≤ j → j < hi → zB X 23 j ≠ nm) → fX5_has_23_11L f (nI hi, nm, nI i, X) = some (nI 0, X) := by
  intro c
  induction c with
  | zero =>
    intro i f hi hf _
    obtain ⟨f, rfl⟩ : ∃ n', f = n' + 1 := ⟨f - 1, by omega⟩
    show fX5_has_23_11 (fX5_has_23_11L f) _ nm (nI i) X = _
    unfold fX5_has_23_11
    rw [if_pos (qle (by omega))]
  | succ c ih =>
    intro i f hi hf hn
    obtain ⟨f, rfl⟩ : ∃ n', f = n' + 1 := ⟨f - 1, by omega⟩
    show fX5_has_23_11 (fX5_has_23_11L f) _ nm (nI i) X = _
    unfold fX5_has_23_11
    rw [if_neg (nl (by omega)), if_neg (nl (by omega)), zld_n (by omega) (by omega), if_neg (fun z => hn i (Nat.le_refl _) (by omega) ((lgc0 _ _).mp z)), nadd]
    exact ih (i + 1) f (by omega) (by omega) (fun j h1 h2 => hn j (by omega) h2)
theorem x_hasY {X : zSt} {hi : Nat} {nm : Int64} (hh : hi ≤ 72) : ∀ (c i f : Nat), i + c = hi → c < f → (∃ j, i ≤ j ∧ j < hi ∧ zB X 23 j = nm) → fX5_has_23_11L f (nI hi, nm, nI i, X) = some (nI 1, X) := by
  intro c
  induction c with
  | zero =>
    intro i f hi hf h
    obtain ⟨j, h1, h2, -⟩ := h
    omega
  | succ c ih =>
    intro i f hi hf h
    obtain ⟨f, rfl⟩ : ∃ n', f = n' + 1 := ⟨f - 1, by omega⟩
    show fX5_has_23_11 (fX5_has_23_11L f) _ nm (nI i) X = _
    unfold fX5_has_23_11
    rw [if_neg (nl (by omega)), if_neg (nl (by omega)), zld_n (by omega) (by omega)]
    by_cases z : zB X 23 i = nm
    · rw [if_pos ((lgc0 _ _).mpr z)]
    · rw [if_neg (fun q => z ((lgc0 _ _).mp q)), nadd]
      obtain ⟨j, h1, h2, h3⟩ := h
      exact ih (i + 1) f (by omega) (by omega) ⟨j, by
        have : j ≠ i := fun q => z (by rw [← q]; exact h3)
        omega, h2, h3⟩
theorem m_dupY {M : zSt} {o l ns : Nat} (h11 : zI M 11 = nI ns) (hns : ns ≤ 300) (h6 : zI M 6 = nI 0) : ∀ (c i f : Nat), i + c = ns → c < f → (∃ s, i ≤ s ∧ s < ns ∧ zA M 22 s = nI l ∧ zB M 16 s = zL M 0) → fX10_let_284L f (nI o, nI l, nI i, M) = some ((), wI (wI M 6 (nI 4)) 7 (zI M 3)) := by
  intro c
  induction c with
  | zero =>
    intro i f hi hf h
    obtain ⟨j, h1, h2, -⟩ := h
    omega
  | succ c ih =>
    intro i f hi hf h
    obtain ⟨f, rfl⟩ : ∃ n', f = n' + 1 := ⟨f - 1, by omega⟩
    obtain ⟨j, h1, h2, h3, h4⟩ := h
    show fX10_let_284 (fX10_let_284L f) (nI o) (nI l) (nI i) M = _
    unfold fX10_let_284
    rw [h11, if_neg (nlN (by omega)), zld_n (by omega) (by omega), nadd]
    by_cases z : zA M 22 i = nI l
    · rw [if_pos z, zld_n (by omega) (by omega)]
      by_cases y : zB M 16 i = zL M 0
      · rw [if_pos ((lgc0 _ _).mpr y), m_fail h6, zbd_r]
      · rw [if_neg (fun q => y ((lgc0 _ _).mp q))]
        exact ih (i + 1) f (by omega) (by omega) ⟨j, by
          have : j ≠ i := fun q => y (by rw [← q]; exact h4)
          omega, h2, h3, h4⟩
    · rw [if_neg z]
      exact ih (i + 1) f (by omega) (by omega) ⟨j, by
        have : j ≠ i := fun q => z (by rw [← q]; exact h3)
        omega, h2, h3, h4⟩
/-- a slot more -/
def mS (M : zSt) (o l ns cnt dd : Nat) : zSt := wA (wI (wA (wA (wA (wB M 16 ns (zL M 0)) 22 ns (nI l)) 23 ns (nI dd)) 21 o (nI ns)) 11 (nI (ns + 1))) 15 l (nI (cnt + 1))
theorem m_dupN {M : zSt} {o l ns cnt dd : Nat} (h11 : zI M 11 = nI ns) (hns : ns < 300) (ho : o < 60) (hl : l < 300) (h15 : zA M 15 l = nI cnt) (h8 : zI M 8 = nI (dd + 1)) : ∀ (c i f : Nat), i + c = ns → c < f → (∀ s, i ≤ s → s < ns → zA M 22 s = nI l → zB M 16 s ≠ zL M 0) → fX10_let_284L f (nI o, nI l, nI i, M) = zbd (fX10_token (mS M o l ns cnt dd)) (fun _ S30 => zbd (fX10_need (nI 61) S30) (fun r31 S32 => if r31 = 0 then some ((), S32) else zbd (fX10_push (nI 0) (wA S32 18 o (nI 2))) (fun _ S34 => some ((), S34)))) := by
  intro c
  induction c with
  | zero =>
    intro i f hi hf _
    obtain ⟨f, rfl⟩ : ∃ n', f = n' + 1 := ⟨f - 1, by omega⟩
    have : i = ns := by omega
    subst this
    show fX10_let_284 (fX10_let_284L f) (nI o) (nI l) (nI i) M = _
    unfold fX10_let_284 mS
    rw [h11, if_pos (qle (by omega)), zck_n hns (by omega), zck_n hns (by omega), zck_n hns (by omega), zck_n ho (by omega), zld_n hl (by omega), zck_n hl (by omega), h15, h8, nadd, nadd, nsub (by omega), ncl (by omega), ncl (by omega), ncl (by omega)]
    simp only [zck_n (n := 60) ho (by omega)]
    rfl
  | succ c ih =>
    intro i f hi hf hn
    obtain ⟨f, rfl⟩ : ∃ n', f = n' + 1 := ⟨f - 1, by omega⟩
    show fX10_let_284 (fX10_let_284L f) (nI o) (nI l) (nI i) M = _
    unfold fX10_let_284
    rw [h11, if_neg (nlN (by omega)), zld_n (by omega) (by omega), nadd]
    have nx := ih (i + 1) f (by omega) (by omega) (fun s h1 h2 => hn s (by omega) h2)
    by_cases z : zA M 22 i = nI l
    · rw [if_pos z, zld_n (by omega) (by omega), if_neg (fun q => hn i (Nat.le_refl _) (by omega) z ((lgc0 _ _).mp q))]
      exact nx
    · rw [if_neg z]
      exact nx
