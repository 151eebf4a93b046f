/-! read(): a DEFINITION -/
def wt (X : zSt) (i : Nat) : Nat := if zA X 17 i = nI 0 then 1 else if zA X 17 i = nI 1 then 1 else if zA X 17 i = nI 5 then (zA X 18 i).toNatClampNeg - 1 else if zA X 17 i = nI 6 then (zA X 18 i).toNatClampNeg else 0
def wsum (X : zSt) (a : Nat) : Nat → Nat
  | 0 => 0
  | b + 1 => wsum X a b + if a ≤ b then wt X b else 0
theorem wsum_0 (X : zSt) (a : Nat) : ∀ b, b ≤ a → wsum X a b = 0 := by
  intro b
  induction b with
  | zero => intro _; rfl
  | succ b ih =>
    intro h
    show wsum X a b + (if a ≤ b then wt X b else 0) = 0
    rw [ih (by omega), if_neg (by omega)]
theorem wsum_s (X : zSt) {a b : Nat} (h : a ≤ b) : wsum X a (b + 1) = wsum X a b + wt X b := by
  show wsum X a b + (if a ≤ b then wt X b else 0) = _
  rw [if_pos h]
theorem wsum_f (X : zSt) {a : Nat} : ∀ b, a < b → wsum X a b = wt X a + wsum X (a + 1) b := by
  intro b
  induction b with
  | zero => intro h; omega
  | succ b ih =>
    intro h
    by_cases z : a < b
    · rw [wsum_s X (by omega), wsum_s X (by omega), ih z]; omega
    · have : a = b := by omega
      subst this
      rw [wsum_s X (Nat.le_refl _), wsum_0 X a a (Nat.le_refl _), wsum_0 X (a + 1) (a + 1) (Nat.le_refl _)]; omega
theorem wsum_c {X X' : zSt} {a : Nat} : ∀ b, (∀ i, a ≤ i → i < b → wt X' i = wt X i) → wsum X' a b = wsum X a b := by
  intro b
  induction b with
  | zero => intro _; rfl
  | succ b ih =>
    intro h
    show wsum X' a b + (if a ≤ b then wt X' b else 0) = wsum X a b + (if a ≤ b then wt X b else 0)
    rw [ih (fun i h1 h2 => h i h1 (by omega))]
    by_cases z : a ≤ b
    · rw [if_pos z, if_pos z, h b z (by omega)]
    · rw [if_neg z, if_neg z]
/-- the deed has a weight -/
def WOK (X : zSt) (i : Nat) : Prop := (zA X 17 i = nI 5 → ∃ n, 1 ≤ n ∧ n ≤ 100 ∧ zA X 18 i = nI n) ∧ (zA X 17 i = nI 6 → ∃ n, n ≤ 100 ∧ zA X 18 i = nI n)
theorem x_countL {X : zSt} {nd : Nat} (h7 : zI X 7 = nI nd) (hnd : nd ≤ 800) : ∀ (c i f s : Nat), i + c = nd → c < f → (∀ j, i ≤ j → j < nd → WOK X j) → fX4_countNodes_4L f (nI s, nI i, X) = some (nI (s + wsum X i nd), X) := by
  intro c
  induction c with
  | zero =>
    intro i f s hi hf _
    obtain ⟨f, rfl⟩ : ∃ n', f = n' + 1 := ⟨f - 1, by omega⟩
    show fX4_countNodes_4 (fX4_countNodes_4L f) (nI s) (nI i) X = _
    unfold fX4_countNodes_4
    rw [h7, if_pos (qle (by omega)), wsum_0 X i nd (by omega)]; rfl
  | succ c ih =>
    intro i f s hi hf hW
    obtain ⟨f, rfl⟩ : ∃ n', f = n' + 1 := ⟨f - 1, by omega⟩
    have nx := fun s' => ih (i + 1) f s' (by omega) (by omega) (fun j h1 h2 => hW j (by omega) h2)
    obtain ⟨w5, w6⟩ := hW i (Nat.le_refl _) (by omega)
    show fX4_countNodes_4 (fX4_countNodes_4L f) (nI s) (nI i) X = _
    unfold fX4_countNodes_4
    rw [h7, if_neg (nl (by omega)), x_deedAt (by omega), zbd_r, wsum_f X nd (by omega)]
    unfold wt
    by_cases z0 : zA X 17 i = nI 0
    · rw [if_pos z0, if_pos z0, nadd, nadd, nx, show s + 1 + wsum X (i + 1) nd = s + (1 + wsum X (i + 1) nd) by omega]
    rw [if_neg z0, if_neg z0]
    by_cases z1 : zA X 17 i = nI 1
    · rw [if_pos z1, if_pos z1, nadd, nadd, nx, show s + 1 + wsum X (i + 1) nd = s + (1 + wsum X (i + 1) nd) by omega]
    rw [if_neg z1, if_neg z1]
    by_cases z5 : zA X 17 i = nI 5
    · obtain ⟨n, n1, n2, n3⟩ := w5 z5
      rw [if_pos z5, if_pos z5, x_aboutAt (by omega), zbd_r, n3, nsub n1, nadd, nadd, nx, ncl (by omega), show s + (n - 1) + wsum X (i + 1) nd = s + (n - 1 + wsum X (i + 1) nd) by omega]
    rw [if_neg z5, if_neg z5]
    by_cases z6 : zA X 17 i = nI 6
    · obtain ⟨n, n1, n2⟩ := w6 z6
      rw [if_pos z6, if_pos z6, x_aboutAt (by omega), zbd_r, n2, nadd, nadd, nx, ncl (by omega), show s + n + wsum X (i + 1) nd = s + (n + wsum X (i + 1) nd) by omega]
    rw [if_neg z6, if_neg z6, nadd, nx, show s + wsum X (i + 1) nd = s + (0 + wsum X (i + 1) nd) by omega]
/-- the PARAMETERS' NAMES are told -/
theorem tell_par {nd a cnt : Nat} (hnd : nd ≤ 800) (ha : a ≤ nd) (hc : cnt ≤ 8) : ∀ (k j f : Nat) (X : zSt), j + k = cnt → k < f → zI X 7 = nI nd → ∃ X', fX5_readDefinition_141L f (nI a, nI cnt, nI j, X) = fX5_readDefinition_177 (nI cnt) X' ∧ FQ [17, 18] [] [] X X' ∧ zL X' 0 = zL X 0 ∧ TB X X' a nd (fun j => zB X 22 j) 0 j cnt (nI 3) := by
  intro k
  induction k with
  | zero =>
    intro j f X hj hf h7
    obtain ⟨f, rfl⟩ : ∃ n', f = n' + 1 := ⟨f - 1, by omega⟩
    have : j = cnt := by omega
    subst this
    refine ⟨X, ?_, FQ_refl _, rfl, TB_nil _ _ _ _ _ _ _⟩
    show fX5_readDefinition_141 (fX5_readDefinition_141L f) (nI a) (nI j) (nI j) X = _
    unfold fX5_readDefinition_141
    rw [if_pos (qle (by omega))]
  | succ k ih =>
    intro j f X hj hf h7
    obtain ⟨f, rfl⟩ : ∃ n', f = n' + 1 := ⟨f - 1, by omega⟩
    obtain ⟨X1, r1, r2, r3, r4⟩ := x_tell (nm := zB X 22 j) (dk := nI 3) (v := nI j) hnd ha h7
    obtain ⟨X', q1, q2, q3, q4⟩ := ih (j + 1) f X1 (by omega) (by omega) (by rw [r2.2.1 7 (by decide)]; exact h7)
    refine ⟨X', ?_, FQ_trans r2 q2, q3.trans r3, ?_⟩
    · show fX5_readDefinition_141 (fX5_readDefinition_141L f) (nI a) (nI cnt) (nI j) X = _
      unfold fX5_readDefinition_141
      rw [if_neg (nl (by omega)), if_neg (nl (by omega)), zld_n (by omega) (by omega), r1, zbd_r, nadd]
      exact q1
    · rw [r2.2.2 22 (by decide)] at q4
      exact TB_step (by decide) (by omega) (r2.2.2 20 (by decide)) (by rw [show 0 + j = j by omega]; exact r4) q4
theorem x_has2N {X : zSt} {hi : Nat} {nm : Int64} (hh : hi ≤ 8) : ∀ (c i f : Nat), i + c = hi → c < f → (∀ j, i ≤ j → j < hi → zB X 22 j ≠ nm) → fX5_has_22_11L f (nI hi, nm, nI i, X) = some (nI 0, X) := by
  intro c
  induction c with
  | zero =>
    intro i f hi hf _
    obtain ⟨f, rfl⟩ : ∃ n', f = n' + 1 := ⟨f - 1, by omega⟩
    show fX5_has_22_11 (fX5_has_22_11L f) _ nm (nI i) X = _
    unfold fX5_has_22_11
    rw [if_pos (qle (by omega))]
  | succ c ih =>
    intro i f hi hf hn
    obtain ⟨f, rfl⟩ : ∃ n', f = n' + 1 := ⟨f - 1, by omega⟩
    show fX5_has_22_11 (fX5_has_22_11L f) _ nm (nI i) X = _
    unfold fX5_has_22_11
    rw [if_neg (nl (by omega)), if_neg (nl (by omega)), zld_n (by omega) (by omega), if_neg (fun z => hn i (Nat.le_refl _) (by omega) ((lgc0 _ _).mp z)), nadd]
    exact ih (i + 1) f (by omega) (by omega) (fun j h1 h2 => hn j (by omega) h2)
theorem x_has2Y {X : zSt} {hi : Nat} {nm : Int64} (hh : hi ≤ 8) : ∀ (c i f : Nat), i + c = hi → c < f → (∃ j, i ≤ j ∧ j < hi ∧ zB X 22 j = nm) → fX5_has_22_11L f (nI hi, nm, nI i, X) = some (nI 1, X) := by
  intro c
  induction c with
  | zero =>
    intro i f hi hf h
    obtain ⟨j, h1, h2, -⟩ := h
    omega
  | succ c ih =>
    intro i f hi hf h
    obtain ⟨f, rfl⟩ : ∃ n', f = n' + 1 := ⟨f - 1, by omega⟩
    show fX5_has_22_11 (fX5_has_22_11L f) _ nm (nI i) X = _
    unfold fX5_has_22_11
    rw [if_neg (nl (by omega)), if_neg (nl (by omega)), zld_n (by omega) (by omega)]
    by_cases z : zB X 22 i = nm
    · rw [if_pos ((lgc0 _ _).mpr z)]
    · rw [if_neg (fun q => z ((lgc0 _ _).mp q)), nadd]
      obtain ⟨j, h1, h2, h3⟩ := h
      exact ih (i + 1) f (by omega) (by omega) ⟨j, by
        have : j ≠ i := fun q => z (by rw [← q]; exact h3)
        omega, h2, h3⟩
theorem k8 : ∀ k : Fin 21, nI 8 * nI k.val = nI (8 * k.val) := by decide
/-- a PARAMETER more -/
def mP (M : zSt) (k cnt : Nat) : zSt := wA (wB M 5 (8 * k + cnt) (zL M 0)) 4 k (nI (cnt + 1))
theorem m_parN {g : Int32 × zSt → Option (Unit × zSt)} {k cnt : Nat} {M : zSt} (hk : k < 20) (hc : cnt < 8) (h4 : zA M 4 k = nI cnt) : ∀ (c i f : Nat), i + c = cnt → c < f → (∀ j, i ≤ j → j < cnt → zB M 5 (8 * k + j) ≠ zL M 0) → fX10_definition_148L g f (nI k, nI i, M) = zbd (fX10_token (mP M k cnt)) (fun _ S => g (nI k, S)) := by
  intro c
  induction c with
  | zero =>
    intro i f hi hf _
    obtain ⟨f, rfl⟩ : ∃ n', f = n' + 1 := ⟨f - 1, by omega⟩
    have : i = cnt := by omega
    subst this
    show fX10_definition_148 g (fX10_definition_148L g f) (nI k) (nI i) M = _
    unfold fX10_definition_148 mP
    rw [zld_n (by omega) (by omega), h4, if_pos (qle (by omega)), zld_n (by omega) (by omega), h4, k8 ⟨k, by omega⟩, nadd, zck_n (by omega) (by omega), zld_n (by omega) (by omega), h4, zck_n (by omega) (by omega), ncl (by omega), ncl (by omega), nadd]
  | succ c ih =>
    intro i f hi hf hn
    obtain ⟨f, rfl⟩ : ∃ n', f = n' + 1 := ⟨f - 1, by omega⟩
    show fX10_definition_148 g (fX10_definition_148L g f) (nI k) (nI i) M = _
    unfold fX10_definition_148
    rw [zld_n (by omega) (by omega), h4, if_neg (nl (by omega)), k8 ⟨k, by omega⟩, nadd, zld_n (by omega) (by omega), if_neg (fun q => hn i (Nat.le_refl _) (by omega) ((lgc0 _ _).mp q)), nadd]
    exact ih (i + 1) f (by omega) (by omega) (fun j h1 h2 => hn j (by omega) h2)
theorem m_parF {g : Int32 × zSt → Option (Unit × zSt)} {k cnt : Nat} {M : zSt} (hk : k < 20) (hc : cnt < 8) (h4 : zA M 4 k = nI cnt) (h6 : ¬ zI M 6 = 0) : ∀ (c i f : Nat), i + c = cnt → c < f → fX10_definition_148L g f (nI k, nI i, M) = g (nI k, mP M k cnt) := by
  intro c
  induction c with
  | zero =>
    intro i f hi hf
    obtain ⟨f, rfl⟩ : ∃ n', f = n' + 1 := ⟨f - 1, by omega⟩
    have : i = cnt := by omega
    subst this
    show fX10_definition_148 g (fX10_definition_148L g f) (nI k) (nI i) M = _
    unfold fX10_definition_148 mP
    rw [zld_n (by omega) (by omega), h4, if_pos (qle (by omega)), zld_n (by omega) (by omega), h4, k8 ⟨k, by omega⟩, nadd, zck_n (by omega) (by omega), zld_n (by omega) (by omega), h4, zck_n (by omega) (by omega), ncl (by omega), ncl (by omega), nadd]
    unfold fX10_token
    rw [if_neg (show ¬ zI (wA (wB M 5 (8 * k + i) (zL M 0)) 4 k (nI (i + 1))) 6 = 0 from h6), zbd_r]
  | succ c ih =>
    intro i f hi hf
    obtain ⟨f, rfl⟩ : ∃ n', f = n' + 1 := ⟨f - 1, by omega⟩
    show fX10_definition_148 g (fX10_definition_148L g f) (nI k) (nI i) M = _
    unfold fX10_definition_148 fX10_fail
    rw [zld_n (by omega) (by omega), h4, if_neg (nl (by omega)), k8 ⟨k, by omega⟩, nadd, zld_n (by omega) (by omega), if_neg h6, zbd_r, nadd, ih (i + 1) f (by omega) (by omega)]
    by_cases z : lg_cmp (zB M 5 (8 * k + i)) (zL M 0) = 0
    · rw [if_pos z]
    · rw [if_neg z]
theorem m_parY {g : Int32 × zSt → Option (Unit × zSt)} {k cnt : Nat} {M : zSt} (hk : k < 20) (hc : cnt < 8) (h4 : zA M 4 k = nI cnt) (h6 : zI M 6 = nI 0) : ∀ (c i f : Nat), i + c = cnt → c < f → (∃ j, i ≤ j ∧ j < cnt ∧ zB M 5 (8 * k + j) = zL M 0) → fX10_definition_148L g f (nI k, nI i, M) = g (nI k, mP (wI (wI M 6 (nI 4)) 7 (zI M 3)) k cnt) := by
  intro c
  induction c with
  | zero =>
    intro i f hi hf h
    obtain ⟨j, h1, h2, -⟩ := h
    omega
  | succ c ih =>
    intro i f hi hf h
    obtain ⟨f, rfl⟩ : ∃ n', f = n' + 1 := ⟨f - 1, by omega⟩
    show fX10_definition_148 g (fX10_definition_148L g f) (nI k) (nI i) M = _
    unfold fX10_definition_148
    rw [zld_n (by omega) (by omega), h4, if_neg (nl (by omega)), k8 ⟨k, by omega⟩, nadd, zld_n (by omega) (by omega), nadd]
    by_cases z : zB M 5 (8 * k + i) = zL M 0
    · rw [if_pos ((lgc0 _ _).mpr z), m_fail h6, zbd_r]
      exact m_parF (M := wI (wI M 6 (nI 4)) 7 (zI M 3)) hk hc h4 (show ¬ nI 4 = 0 by decide) c (i + 1) f (by omega) (by omega)
    · rw [if_neg (fun q => z ((lgc0 _ _).mp q))]
      obtain ⟨j, h1, h2, h3⟩ := h
      exact ih (i + 1) f (by omega) (by omega) ⟨j, by
        have : j ≠ i := fun q => z (by rw [← q]; exact h3)
        omega, h2, h3⟩
/-- after a fault the reference goes on to no other -/
theorem m_needF {M : zSt} {t : Int32} (h6 : ¬ zI M 6 = 0) : fX10_need t M = some (nI 0, M) := by
  have e : ∀ y, fX10_need_14 y M = some (nI 0, M) := fun y => by
    unfold fX10_need_14 fX10_can fX10_can_40
    rw [if_neg h6, if_neg h6, zbd_r, if_pos zer0]
    unfold fX10_need_24
    rw [if_neg h6]
  unfold fX10_need
  by_cases z : zI M 2 = t
  · rw [if_pos z, e]
  · rw [if_neg z, e]
theorem m_108F {f k : Nat} {M : zSt} (h6 : ¬ zI M 6 = 0) : fX10_definition_108L (f + 1) (nI k, M) = some ((), M) := by
  show fX10_definition_108 (fX10_definition_108L f) (nI k) M = _
  unfold fX10_definition_108 fX10_definition_229
  rw [if_neg h6, m_needF h6, zbd_r, if_pos zer0]
/-- the PARAMETERS of a DEFINITION -/
theorem par_loop {b : Nat → Nat} {tl k : Nat} (hk : k < 20) : ∀ (mm cnt fx fm pl : Nat) (X M : zSt), cnt + mm = 9 → mm < fx → mm + 1 < fm → TK b tl pl X M → zA M 4 k = nI cnt → cnt ≤ 8 → (∀ j, j < cnt → zB X 22 j = zB M 5 (8 * k + j)) →
    (∃ cnt' pl' X' M', cnt' ≤ 8 ∧ pl ≤ pl' ∧ fX5_readParameters_2L fx (nI cnt, X) = some (nI cnt', X') ∧ fX10_definition_108L fm (nI k, M) = fX10_definition_229 (nI k) M' ∧ TK b tl pl' X' M' ∧ zA M' 4 k = nI cnt' ∧ (∀ j, j < cnt' → zB X' 22 j = zB M' 5 (8 * k + j)) ∧ FQ [] [10, 11, 12, 13] [22] X X' ∧ FQ [4] [2, 3, 4, 5] [5] M M' ∧ (∀ d, d ≠ k → zA M' 4 d = zA M 4 d) ∧ ∀ j, j < 8 * k → zB M' 5 j = zB M 5 j)
    ∨ (∃ X' M', fX5_readParameters_2L fx (nI cnt, X) = some (-1, X') ∧ fX10_definition_108L fm (nI k, M) = some ((), M') ∧ FL X' M' ∧ rX X X' ∧ rM M M') := by
  intro mm
  induction mm with
  | zero => intro cnt fx fm pl X M h1 _ _ _ _ h2; omega
  | succ mm ih =>
    intro cnt fx fm pl X M hmm hfx hfm hT h4 hc hpar
    obtain ⟨fx, rfl⟩ : ∃ n', fx = n' + 1 := ⟨fx - 1, by omega⟩
    obtain ⟨fm, rfl⟩ : ∃ n', fm = n' + 1 + 1 := ⟨fm - 2, by omega⟩
    obtain ⟨x, m, k1, k2, k3, k4, k5, k6⟩ := TK_kp hT
    unfold KP at k3
    have e6 : zI M 6 = nI 0 := hT.2.2.2.2.2.2.1
    have e3 : zI X 12 = zI M 3 := by rw [hT.2.2.2.1, hT.2.2.2.2.1]
    have ex : fX5_readParameters_2L (fx + 1) (nI cnt, X) = fX5_readParameters_2 (fX5_readParameters_2L fx) (nI cnt) X := rfl
    have em : fX10_definition_108L (fm + 1 + 1) (nI k, M) = fX10_definition_108 (fX10_definition_108L (fm + 1)) (nI k) M := rfl
    rw [ex, em]
    unfold fX5_readParameters_2 fX8_kind fX10_definition_108
    rw [if_neg (nt (by omega)), zbd_r, k1, if_pos (show zI M 6 = 0 from e6), k2]
    by_cases hx : x = 2
    · have hm : m = 2 := by omega
      rw [if_pos (show nI x = nI 2 by rw [hx]), if_pos (show nI m = nI 2 by rw [hm]), zld_n (by omega) (by omega), h4]
      by_cases h8 : cnt = 8
      · rw [if_neg (nt (by omega)), if_pos (qle (by omega))]
        right
        refine ⟨wI (wI X 8 (nI 3)) 9 (zI X 12), wI (wI M 6 (nI 3)) 7 (zI M 3), rfl, ?_, FL_of (by decide) e3, FQ_trans (FQ_I _ _ (by decide)) (FQ_I _ _ (by decide)), FQ_trans (FQ_I _ _ (by decide)) (FQ_I _ _ (by decide))⟩
        unfold fX10_definition_140
        rw [m_room0 e6, zbd_r, if_pos zer0]
        exact m_108F (show ¬ nI 3 = 0 by decide)
      · rw [if_pos (pt (by omega)), if_neg (nl (by omega))]
        unfold fX10_definition_140 fX8_name fX5_has_22
        rw [m_room1 e6, zbd_r, zbd_r, if_neg one0, if_pos (show (0 : Int32) ≤ nI 0 by decide)]
        by_cases hdup : ∃ j, j < cnt ∧ zB M 5 (8 * k + j) = zL M 0
        · obtain ⟨j, j1, j2⟩ := hdup
          rw [x_has2Y (by omega) cnt 0 zFU (by omega) (by rw [zFU_s]; omega) ⟨j, Nat.zero_le _, j1, by rw [hpar j j1, j2]; exact (k5 hx).symm⟩, zbd_r, if_neg one0, m_parY hk (by omega) h4 e6 cnt 0 zFU (by omega) (by rw [zFU_s]; omega) ⟨j, Nat.zero_le _, j1, j2⟩]
          right
          refine ⟨wI (wI X 8 (nI 4)) 9 (zI X 12), mP (wI (wI M 6 (nI 4)) 7 (zI M 3)) k cnt, rfl, m_108F (show ¬ nI 4 = 0 by decide), ⟨rfl, show ¬ nI 4 = 0 by decide, e3⟩, FQ_trans (FQ_I _ _ (by decide)) (FQ_I _ _ (by decide)), ?_⟩
          unfold mP
          exact FQ_trans (FQ_trans (FQ_I _ _ (by decide)) (FQ_I _ _ (by decide))) (FQ_trans (FQ_B _ _ _ (by decide)) (FQ_A _ _ _ (by decide)))
        · rw [x_has2N (by omega) cnt 0 zFU (by omega) (by rw [zFU_s]; omega) (fun j _ q2 q3 => hdup ⟨j, q2, by rw [← hpar j q2, q3]; exact k5 hx⟩), zbd_r, if_pos zer0, zbd_r, zck_n (by omega) (by omega), ncl (by omega), m_parN hk (by omega) h4 cnt 0 zFU (by omega) (by rw [zFU_s]; omega) (fun j _ q2 q3 => hdup ⟨j, q2, q3⟩)]
          have fX1 : FQ [] [] [22] X (wB X 22 cnt (zL X 0)) := FQ_B _ _ _ (by decide)
          have fM1 : FQ [4] [] [5] M (mP M k cnt) := by unfold mP; exact FQ_trans (FQ_B _ _ _ (by decide)) (FQ_A _ _ _ (by decide))
          obtain ⟨pl1, X1, M1, r1, r2, r3, r4, r5, r6⟩ := adv hT (by rw [k1]; exact nq (by omega)) fX1 fM1 (by decide) (by decide) (by decide) (by decide) (by decide) (by decide)
          rw [r2, zbd_r, r3, zbd_r, nadd]
          have fX2 : FQ [] [10, 11, 12, 13] [22] X X1 := FQ_trans (FQ_mono fX1 (by decide) (by decide) (by decide)) (FQ_mono r5 (by decide) (by decide) (by decide))
          have fM2 : FQ [4] [2, 3, 4, 5] [5] M M1 := FQ_trans (FQ_mono fM1 (by decide) (by decide) (by decide)) (FQ_mono r6 (by decide) (by decide) (by decide))
          have e22 : ∀ j, zB X1 22 j = if j = cnt then zL X 0 else zB X 22 j := fun j => by rw [r5.2.2 22 (by simp)]; rfl
          have e5 : ∀ j, zB M1 5 j = if j = 8 * k + cnt then zL M 0 else zB M 5 j := fun j => by rw [r6.2.2 5 (by simp)]; rfl
          have e4 : ∀ j, zA M1 4 j = if j = k then nI (cnt + 1) else zA M 4 j := fun j => by rw [r6.1 4 (by simp)]; rfl
          rcases ih (cnt + 1) fx (fm + 1) pl1 X1 M1 (by omega) (by omega) (by omega) r4 (by rw [e4, if_pos rfl]) (by omega) (fun j hj => by
            rw [e22, e5]
            by_cases z : j = cnt
            · rw [if_pos z, if_pos (by omega)]; exact k5 hx
            · rw [if_neg z, if_neg (by omega)]; exact hpar j (by omega)) with ⟨cnt', pl', X', M', q1, q2, q3, q4, q5, q6, q7, q8, q9, q10, q11⟩ | ⟨X', M', q1, q2, q3, q4, q5⟩
          · left
            exact ⟨cnt', pl', X', M', q1, by omega, q3, q4, q5, q6, q7, FQ_trans fX2 q8, FQ_trans fM2 q9, fun d hd => by rw [q10 d hd, e4, if_neg hd], fun j hj => by rw [q11 j hj, e5, if_neg (by omega)]⟩
          · right
            exact ⟨X', M', q1, q2, q3, FQ_trans (FQ_mono fX2 (by decide) (by decide) (by decide)) q4, FQ_trans (FQ_mono fM2 (by decide) (by decide) (by decide)) q5⟩
    · rw [if_neg (nq hx), if_neg (nq (by omega))]
      left
      exact ⟨cnt, pl, X, M, by omega, Nat.le_refl _, rfl, rfl, hT, h4, hpar, FQ_refl _, FQ_refl _, fun _ _ => rfl, fun _ _ => rfl⟩
