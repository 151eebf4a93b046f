/-! VALUES -/
/-- the tables that the steps read: how many definitions, their parameters -/
def Pp (nd : Nat) (X M : zSt) : Prop := nd ≤ 20 ∧ ∀ d, d < nd → zA X 13 d = zA M 4 d ∧ ∃ q, q ≤ 8 ∧ zA M 4 d = nI q
def wnt (p : Nat) : Nat := if p = 6 then 3 else if p ≤ 8 then 2 else if 12 ≤ p then 2 else 1
theorem wnt_needs : ∀ p, p < 13 → p ≠ 8 → zneeds p = nI (wnt p) := by
  intro p h h8
  have : ∀ q : Fin 13, q.val ≠ 8 → zneeds q.val = nI (wnt q.val) := by decide
  exact this ⟨p, h⟩ h8
theorem wnt_pos (p : Nat) : 1 ≤ wnt p ∧ wnt p ≤ 3 := by unfold wnt; split <;> (try split) <;> (try split) <;> omega
theorem m_wants {M : zSt} {p : Nat} (h : p < 13) : fX10_wants (nI p) M = some (nI (wnt p), M) := by
  unfold fX10_wants wnt
  by_cases h6 : p = 6
  · rw [if_pos (by rw [h6]), if_pos h6]
  · rw [if_neg (nq h6), if_neg h6]
    by_cases h8 : p ≤ 8
    · rw [if_pos (qle h8), if_pos h8]
    · rw [if_neg (nl (by omega)), if_neg h8]
      by_cases h12 : 12 ≤ p
      · rw [if_pos (qle h12), if_pos h12]
      · rw [if_neg (nl (by omega)), if_neg h12]
def bI (b : Bool) : Int32 := if b then nI 1 else nI 0
/-- is a node that is no APPLY, with t things, a VALUE -/
def tst (M : zSt) (k t : Nat) : Bool :=
  if zA M 24 k = nI 2 then decide (¬ zA M 4 (zA M 25 k).toNatClampNeg ≤ nI t) else if zA M 24 k = nI 3 then decide (¬ nI (wnt (zA M 25 k).toNatClampNeg) ≤ nI t) else t == 0
def vlF (M : zSt) : Nat → Nat → Nat → Bool
  | 0, k, t => if zA M 24 k = nI 1 then false else tst M k t
  | f + 1, k, t => if zA M 24 k = nI 1 then (match fol M (zA M 25 k).toNatClampNeg with
    | none => false
    | some r => vlF M f r (t + 1)) else tst M k t
abbrev vl (M : zSt) (k : Nat) : Bool := vlF M 9 k 0
theorem m_tst {nd : Nat} {X M : zSt} (hW : Wg nd M) (hp : Pp nd X M) {k t : Nat} (hk : k < 400) (hl : zA M 24 k ≠ nI 7) (h1 : zA M 24 k ≠ nI 1) (ht : t ≤ 100) : fX10_isValue_41 (nI k) (nI t) M = some (bI (tst M k t), M) := by
  unfold fX10_isValue_41 tst
  rw [if_neg (nneg (by omega)), zld_n hk (by omega), if_neg h1, zld_n hk (by omega)]
  by_cases h2 : zA M 24 k = nI 2
  · obtain ⟨d, hd, e⟩ := hW.p2 hk h2
    rw [if_pos h2, if_pos h2, zld_n hk (by omega), e, zld_n (by have := hp.1; omega) (by omega), ncl (by have := hp.1; omega)]
    by_cases q : zA M 4 d ≤ nI t
    · rw [if_pos q, decide_eq_false (fun z => z q)]; rfl
    · rw [if_neg q, decide_eq_true q]; rfl
  · rw [if_neg h2, if_neg h2, zld_n hk (by omega)]
    by_cases h3 : zA M 24 k = nI 3
    · obtain ⟨p, hp1, -, e⟩ := hW.p3 hk h3
      rw [if_pos h3, if_pos h3, zld_n hk (by omega), e, m_wants hp1, zbd_r, ncl (by omega)]
      by_cases q : nI (wnt p) ≤ nI t
      · rw [if_pos q, decide_eq_false (fun z => z q)]; rfl
      · rw [if_neg q, decide_eq_true q]; rfl
    · rw [if_neg h3, if_neg h3]
      by_cases q : t = 0
      · subst q
        rw [if_pos nI_0]; rfl
      · rw [if_neg (show ¬ nI t = 0 from nq (b := 0) q)]
        have : (t == 0) = false := by simpa using q
        rw [this]; rfl
theorem x_tst {nd : Nat} {X M : zSt} (hW : Wg nd M) (hR : Rg X M) (hp : Pp nd X M) {k t : Nat} (hk : k < 400) (hl : zA M 24 k ≠ nI 7) (h1 : zA M 24 k ≠ nI 1) (h6 : zA M 24 k ≠ nI 6) (ht : t ≤ 100) : fX2_isValue_44 (nI k) (nI t) X = some (bI (tst M k t), X) := by
  unfold fX2_isValue_44 tst
  have hr := hR.live hk hl
  rw [x_kind hk, zbd_r, hr.1]
  have hz : (if nI t = 0 then some (nI 1, X) else some (nI 0, X)) = some (bI (t == 0), X) := by
    by_cases q : t = 0
    · subst q
      rw [if_pos nI_0]; rfl
    · rw [if_neg (show ¬ nI t = 0 from nq (b := 0) q)]
      have : (t == 0) = false := by simpa using q
      rw [this]; rfl
  rcases hW k hk hl with q | ⟨q, -⟩ | ⟨q, d, hd, e⟩ | ⟨q, p, hp1, hp8, e⟩ | ⟨q, -⟩ | q | ⟨q, -⟩
  · rw [q, if_pos rfl, hz, if_neg (by decide), if_neg (by decide)]
  · exact absurd q h1
  · rw [q, if_neg (by decide), if_pos rfl, if_pos rfl, x_first hk, zbd_r, hr.2.1, e, x_params (by have := hp.1; omega), zbd_r, (hp.2 d hd).1, ncl (by have := hp.1; omega)]
    by_cases q : zA M 4 d ≤ nI t
    · rw [if_pos q, decide_eq_false (fun z => z q)]; rfl
    · rw [if_neg q, decide_eq_true q]; rfl
  · rw [q, if_neg (by decide), if_neg (by decide), if_pos rfl, if_neg (by decide), if_pos rfl, x_first hk, zbd_r, hr.2.1, e, x_needs hp1, zbd_r, wnt_needs p hp1 hp8, ncl (by omega)]
    by_cases q : nI (wnt p) ≤ nI t
    · rw [if_pos q, decide_eq_false (fun z => z q)]; rfl
    · rw [if_neg q, decide_eq_true q]; rfl
  · rw [q, if_neg (by decide), if_neg (by decide), if_neg (by decide), if_pos rfl, hz, if_neg (by decide), if_neg (by decide)]
  · rw [q, if_neg (by decide), if_neg (by decide), if_neg (by decide), if_neg (by decide), if_pos rfl, hz, if_neg (by decide), if_neg (by decide)]
  · exact absurd q h6
theorem tst_10 {nd : Nat} {X M : zSt} (hW : Wg nd M) (hp : Pp nd X M) {k t : Nat} (hk : k < 400) (hl : zA M 24 k ≠ nI 7) (ht : 9 < t) (ht2 : t ≤ 100) : tst M k t = false := by
  unfold tst
  by_cases h2 : zA M 24 k = nI 2
  · obtain ⟨d, hd, e⟩ := hW.p2 hk h2
    obtain ⟨q, hq, e2⟩ := (hp.2 d hd).2
    rw [if_pos h2, e, ncl (by have := hp.1; omega), e2, decide_eq_false (fun z => z (qle (by omega)))]
  · rw [if_neg h2]
    by_cases h3 : zA M 24 k = nI 3
    · have := wnt_pos (zA M 25 k).toNatClampNeg
      rw [if_pos h3, decide_eq_false (fun z => z (qle (by omega)))]
    · rw [if_neg h3]
      have : ¬ t = 0 := by omega
      simpa using this
theorem m_valL {nd : Nat} {X M : zSt} (hW : Wg nd M) (hp : Pp nd X M) : ∀ (f k t n : Nat), k < 400 → zA M 24 k ≠ nI 7 → f + t = 9 → f + 2 < n → fX10_isValue_4L n (nI k, nI t, M) = some (bI (vlF M f k t), M) := by
  intro f
  induction f with
  | zero =>
    intro k t n hk hl hf hn
    obtain ⟨n, rfl⟩ : ∃ n', n = n' + 1 := ⟨n - 1, by omega⟩
    show fX10_isValue_4 (fX10_isValue_4L n) (nI k) (nI t) M = _
    unfold fX10_isValue_4 vlF
    rw [if_neg (nneg (by omega)), zld_n hk (by omega)]
    by_cases h1 : zA M 24 k = nI 1
    · have h2 := (hW.p1 hk h1).1.lt
      rw [if_pos h1, if_neg (nl (by omega)), if_pos h1, zld_n hk (by omega), h2.2.1, m_followed hW h2.1 h2.2.2, zbd_r, nadd]
      obtain ⟨n, rfl⟩ : ∃ n', n = n' + 1 := ⟨n - 1, by omega⟩
      show fX10_isValue_4 (fX10_isValue_4L n) _ (nI (t + 1)) M = _
      cases hf2 : fol M (zA M 25 k).toNatClampNeg with
      | none =>
        show fX10_isValue_4 (fX10_isValue_4L n) (-1) (nI (t + 1)) M = _
        unfold fX10_isValue_4 fX10_isValue_41
        rw [if_pos (by decide), if_pos (by decide)]
        rfl
      | some r =>
        have h3 := fol_live hW h2.1 h2.2.2 hf2
        show fX10_isValue_4 (fX10_isValue_4L n) (nI r) (nI (t + 1)) M = _
        unfold fX10_isValue_4
        rw [if_neg (nneg (by omega)), zld_n h3.1 (by omega)]
        by_cases h4 : zA M 24 r = nI 1
        · rw [if_pos h4, if_pos (qle (by omega))]
          unfold fX10_isValue_41
          rw [if_neg (nneg (by omega)), zld_n h3.1 (by omega), if_pos h4]
          rfl
        · rw [if_neg h4, m_tst hW hp h3.1 h3.2.1 h4 (by omega), tst_10 hW hp h3.1 h3.2.1 (by omega) (by omega)]
    · rw [if_neg h1, if_neg h1, m_tst hW hp hk hl h1 (by omega)]
  | succ f ih =>
    intro k t n hk hl hf hn
    obtain ⟨n, rfl⟩ : ∃ n', n = n' + 1 := ⟨n - 1, by omega⟩
    show fX10_isValue_4 (fX10_isValue_4L n) (nI k) (nI t) M = _
    unfold fX10_isValue_4 vlF
    rw [if_neg (nneg (by omega)), zld_n hk (by omega)]
    by_cases h1 : zA M 24 k = nI 1
    · have h2 := (hW.p1 hk h1).1.lt
      rw [if_pos h1, if_neg (nl (by omega)), if_pos h1, zld_n hk (by omega), h2.2.1, m_followed hW h2.1 h2.2.2, zbd_r, nadd]
      rw [← h2.2.1]
      cases hf2 : fol M (zA M 25 k).toNatClampNeg with
      | none =>
        obtain ⟨n, rfl⟩ : ∃ n', n = n' + 1 := ⟨n - 1, by omega⟩
        show fX10_isValue_4 (fX10_isValue_4L n) (-1) (nI (t + 1)) M = _
        unfold fX10_isValue_4 fX10_isValue_41
        rw [if_pos (by decide), if_pos (by decide)]
        rfl
      | some r =>
        have h3 := fol_live hW h2.1 h2.2.2 hf2
        exact ih r (t + 1) n h3.1 h3.2.1 (by omega) (by omega)
    · rw [if_neg h1, if_neg h1, m_tst hW hp hk hl h1 (by omega)]
theorem m_isValue {nd : Nat} {X M : zSt} (hW : Wg nd M) (hp : Pp nd X M) {k : Nat} (hk : k < 400) (hl : zA M 24 k ≠ nI 7) : fX10_isValue (nI k) M = some (bI (vl M k), M) := by
  unfold fX10_isValue
  exact m_valL hW hp 9 k 0 zFU hk hl (by omega) (by rw [zFU_s]; omega)
theorem x_valL {nd : Nat} {X M : zSt} (hW : Wg nd M) (hR : Rg X M) (hp : Pp nd X M) : ∀ (f k t n : Nat), k < 400 → zA M 24 k ≠ nI 7 → zA M 24 k ≠ nI 6 → f + t = 9 → f < n → fX2_isValue_4L n (nI k, nI t, X) = some (bI (vlF M f k t), X) := by
  intro f
  induction f with
  | zero =>
    intro k t n hk hl h6 hf hn
    obtain ⟨n, rfl⟩ : ∃ n', n = n' + 1 := ⟨n - 1, by omega⟩
    show fX2_isValue_4 (fX2_isValue_4L n) (nI k) (nI t) X = _
    unfold fX2_isValue_4 vlF
    rw [if_pos (pt (a := 8) (by omega))]
    by_cases h1 : zA M 24 k = nI 1
    · unfold fX2_isValue_44
      rw [x_kind hk, zbd_r, (hR.live hk hl).1, h1, if_neg (by decide), if_neg (by decide), if_neg (by decide), if_neg (by decide), if_neg (by decide), if_pos rfl]
      rfl
    · rw [if_neg h1, x_tst hW hR hp hk hl h1 h6 (by omega)]
  | succ f ih =>
    intro k t n hk hl h6 hf hn
    obtain ⟨n, rfl⟩ : ∃ n', n = n' + 1 := ⟨n - 1, by omega⟩
    show fX2_isValue_4 (fX2_isValue_4L n) (nI k) (nI t) X = _
    unfold fX2_isValue_4 vlF
    have hr := hR.live hk hl
    rw [if_neg (nt (a := 8) (by omega)), x_kind hk, zbd_r, hr.1]
    by_cases h1 : zA M 24 k = nI 1
    · have h2 := (hW.p1 hk h1).1.lt
      rw [if_pos h1, if_pos h1, x_first hk, zbd_r, hr.2.1, h2.2.1, x_followed hW hR h2.1 h2.2.2, zbd_r, nadd]
      rw [← h2.2.1]
      cases hf2 : fol M (zA M 25 k).toNatClampNeg with
      | none =>
        obtain ⟨n, rfl⟩ : ∃ n', n = n' + 1 := ⟨n - 1, by omega⟩
        show fX2_isValue_4 (fX2_isValue_4L n) (-1) (nI (t + 1)) X = _
        have h44 : fX2_isValue_44 (-1) (nI (t + 1)) X = some (nI 0, X) := by
          unfold fX2_isValue_44
          rw [x_kindN (by decide), zbd_r, if_neg (by decide), if_neg (by decide), if_neg (by decide), if_neg (by decide), if_neg (by decide)]
        unfold fX2_isValue_4
        by_cases q : nI 8 < nI (t + 1)
        · rw [if_pos q, h44]; rfl
        · rw [if_neg q, x_kindN (by decide), zbd_r, if_neg (by decide), h44]; rfl
      | some r =>
        have h3 := fol_live hW h2.1 h2.2.2 hf2
        exact ih r (t + 1) n h3.1 h3.2.1 h3.2.2 (by omega) (by omega)
    · rw [if_neg h1, if_neg h1, x_tst hW hR hp hk hl h1 h6 (by omega)]
theorem x_isValue {nd : Nat} {X M : zSt} (hW : Wg nd M) (hR : Rg X M) (hp : Pp nd X M) {k : Nat} (hk : k < 400) (hl : zA M 24 k ≠ nI 7) (h6 : zA M 24 k ≠ nI 6) : fX2_isValue (nI k) X = some (bI (vl M k), X) := by
  unfold fX2_isValue
  exact x_valL hW hR hp 9 k 0 zFU hk hl h6 (by omega) (by rw [zFU_s]; omega)
