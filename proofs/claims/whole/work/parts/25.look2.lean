def mny (p : Nat) : Nat := if p < 6 then 2 else if p = 7 then 0 else 1
theorem mny_wants : ∀ p, p < 13 → p ≠ 8 → zwants p = nI (mny p) := by
  intro p h h8
  have : ∀ q : Fin 13, q.val ≠ 8 → zwants q.val = nI (mny q.val) := by decide
  exact this ⟨p, h⟩ h8
theorem mny_le : ∀ p, p < 13 → p ≠ 8 → mny p ≤ wnt p := by
  intro p h h8
  have : ∀ q : Fin 13, q.val ≠ 8 → mny q.val ≤ wnt q.val := by decide
  exact this ⟨p, h⟩ h8
theorem x_fin {X M : zSt} {p r1 r2 : Nat} (hR : Rg X M) (hp : p < 13) (h1 : (p = 9 ∨ p = 10) → zI X 24 = nI r1 ∧ r1 < 400 ∧ zA M 24 r1 ≠ nI 7) (h2 : p = 3 → zI X 25 = nI r2 ∧ r2 < 400 ∧ zA M 24 r2 ≠ nI 7) :
    fX2_lookAtValues (nI p) X = some (if p = 3 ∧ zA M 25 r2 = 0 then (nI 7, wI X 22 (nI 3)) else if (p = 9 ∨ p = 10) ∧ zA M 24 r1 = nI 5 then (nI 7, wI X 22 (nI 4)) else (nI 4, X)) := by
  have h42 : fX2_lookAtValues_42 (nI 0) X = some (nI 4, X) := by
    unfold fX2_lookAtValues_42
    rw [if_pos nI_0]
  have h37 : (p = 9 ∨ p = 10) → fX2_lookAtValues_37 X = some (if zA M 24 r1 = nI 5 then (nI 7, wI X 22 (nI 4)) else (nI 4, X)) := by
    intro q
    obtain ⟨e, hr, hl⟩ := h1 q
    unfold fX2_lookAtValues_37 fX2_lookAtValues_42 fX2_isNil
    rw [if_neg (by decide), e, x_kind hr, zbd_r, (hR.live hr hl).1]
    by_cases q5 : zA M 24 r1 = nI 5
    · rw [if_pos q5, if_pos q5, zbd_r, if_neg (by decide)]; rfl
    · rw [if_neg q5, if_neg q5, zbd_r, if_pos nI_0]
  unfold fX2_lookAtValues
  by_cases h3 : p = 3
  · obtain ⟨e, hr, hl⟩ := h2 h3
    rw [if_pos (by rw [h3]), e, x_first hr, zbd_r, (hR.live hr hl).2.1]
    by_cases q : zA M 25 r2 = 0
    · rw [if_pos q, if_pos ⟨h3, q⟩]; rfl
    · rw [if_neg q, if_neg (fun z => q z.2), if_neg (fun z => by omega)]
      unfold fX2_lookAtValues_25
      rw [if_neg (nq (by omega)), if_neg (nq (by omega)), h42]
  · rw [if_neg (nq h3), if_neg (fun z => h3 z.1)]
    unfold fX2_lookAtValues_25
    by_cases h9 : p = 9
    · rw [if_pos (by rw [h9]), h37 (Or.inl h9)]
      by_cases q : zA M 24 r1 = nI 5
      · rw [if_pos q, if_pos ⟨Or.inl h9, q⟩]
      · rw [if_neg q, if_neg (fun z => q z.2)]
    · rw [if_neg (nq h9)]
      by_cases h10 : p = 10
      · rw [if_pos (by rw [h10]), h37 (Or.inr h10)]
        by_cases q : zA M 24 r1 = nI 5
        · rw [if_pos q, if_pos ⟨Or.inr h10, q⟩]
        · rw [if_neg q, if_neg (fun z => q z.2)]
      · rw [if_neg (nq h10), h42, if_neg (fun z => by omega)]
theorem m_fin {nd : Nat} {M : zSt} {pl sk p n r1 r2 : Nat} {bs : Nat → Nat} (hW : Wg nd M) (h : MS M pl sk bs) (hp : p < 13) (hw : zI M 27 = 0) (many : Nat) (hm : many ≤ 2)
    (h1 : (p = 9 ∨ p = 10) → 1 < pl - bs (sk - 1) ∧ zA M 24 (en M (pl - 1 - 1)) = nI 1 ∧ fol M (tn M pl 1) = some r1) (h2 : p = 3 → 2 < pl - bs (sk - 1) ∧ zA M 24 (en M (pl - 1 - 2)) = nI 1 ∧ fol M (tn M pl 2) = some r2) :
    fX10_lookPrimitive_22L (n + 1) (nI p, nI many, nI (many + 1), M) = some (if p = 3 ∧ zA M 25 r2 = 0 then (nI 7, wI M 27 (nI 3)) else if (p = 9 ∨ p = 10) ∧ zA M 24 r1 = nI 5 then (nI 7, wI M 27 (nI 4)) else (nI 4, M)) := by
  show fX10_lookPrimitive_22 (fX10_lookPrimitive_22L n) (nI p) (nI many) (nI (many + 1)) M = _
  have h270 : fX10_lookPrimitive_270 M = some (nI 4, M) := by
    unfold fX10_lookPrimitive_270
    rw [hw, if_pos (by decide)]
  have h270' : ∀ v : Nat, 0 < v → v < 10 → fX10_lookPrimitive_270 (wI M 27 (nI v)) = some (nI 7, wI M 27 (nI v)) := by
    intro v hv hv2
    unfold fX10_lookPrimitive_270
    rw [if_neg (show ¬ zI (wI M 27 (nI v)) 27 ≤ 0 from nl (a := v) (b := 0) hv)]
  have h247 : (p = 9 ∨ p = 10) → fX10_lookPrimitive_247 M = some (if zA M 24 r1 = nI 5 then (nI 7, wI M 27 (nI 4)) else (nI 4, M)) := by
    intro q
    obtain ⟨a1, a2, a3⟩ := h1 q
    have he := h.ent (i := pl - 1 - 1) (by omega)
    have ht := (hW.p1 he.1 a2).2.lt
    have hr := fol_live hW ht.1 ht.2.2 a3
    unfold fX10_lookPrimitive_247
    rw [m_thing h (by omega), zbd_r, ht.2.1, m_followed hW ht.1 ht.2.2, zbd_r, a3, show fv (some r1) = nI r1 from rfl, zld_n hr.1 (by omega)]
    by_cases q5 : zA M 24 r1 = nI 5
    · rw [if_pos q5, if_pos q5, h270' 4 (by omega) (by omega)]
    · rw [if_neg q5, if_neg q5, h270]
  have h235 : fX10_lookPrimitive_235 (nI p) M = some (if (p = 9 ∨ p = 10) ∧ zA M 24 r1 = nI 5 then (nI 7, wI M 27 (nI 4)) else (nI 4, M)) := by
    unfold fX10_lookPrimitive_235
    by_cases h9 : p = 9
    · rw [if_pos (by rw [h9]), h247 (Or.inl h9)]
      by_cases q : zA M 24 r1 = nI 5
      · rw [if_pos q, if_pos ⟨Or.inl h9, q⟩]
      · rw [if_neg q, if_neg (fun z => q z.2)]
    · rw [if_neg (nq h9)]
      by_cases h10 : p = 10
      · rw [if_pos (by rw [h10]), h247 (Or.inr h10)]
        by_cases q : zA M 24 r1 = nI 5
        · rw [if_pos q, if_pos ⟨Or.inr h10, q⟩]
        · rw [if_neg q, if_neg (fun z => q z.2)]
      · rw [if_neg (nq h10), h270, if_neg (fun z => by omega)]
  unfold fX10_lookPrimitive_22
  rw [if_pos (pt (by omega))]
  by_cases h3 : p = 3
  · obtain ⟨a1, a2, a3⟩ := h2 h3
    have he := h.ent (i := pl - 1 - 2) (by omega)
    have ht := (hW.p1 he.1 a2).2.lt
    have hr := fol_live hW ht.1 ht.2.2 a3
    rw [if_pos (by rw [h3]), m_thing h (by omega), zbd_r, ht.2.1, m_followed hW ht.1 ht.2.2, zbd_r, a3, show fv (some r2) = nI r2 from rfl, zld_n hr.1 (by omega)]
    by_cases q : zA M 25 r2 = 0
    · rw [if_pos q, if_pos ⟨h3, q⟩, h270' 3 (by omega) (by omega)]
    · rw [if_neg q, if_neg (fun z => q z.2), h235]
  · rw [if_neg (nq h3), if_neg (fun z => h3 z.1), h235]
/-- what look() leaves behind -/
def xL (X : zSt) (e n f s : Int32) : zSt := wI (wI (wI (wI X 22 e) 23 n) 24 f) 25 s
def mL (M : zSt) (n e : Int32) : zSt := wI (wI M 26 n) 27 e
theorem xL0 (X : zSt) (e : Int32) : wI X 22 e = xL X e (zI X 23) (zI X 24) (zI X 25) := by
  unfold xL
  rw [show zI X 23 = zI (wI X 22 e) 23 from rfl, wI_id, show zI X 24 = zI (wI X 22 e) 24 from rfl, wI_id, show zI X 25 = zI (wI X 22 e) 25 from rfl, wI_id]
theorem xL_e (X : zSt) (e n f s e' : Int32) : wI (xL X e n f s) 22 e' = xL X e' n f s := by
  unfold xL
  rw [wI_comm _ _ _ (show 25 ≠ 22 by decide), wI_comm _ _ _ (show 24 ≠ 22 by decide), wI_comm _ _ _ (show 23 ≠ 22 by decide), wI_wI]
theorem xL_n (X : zSt) (e n f s n' : Int32) : wI (xL X e n f s) 23 n' = xL X e n' f s := by
  unfold xL
  rw [wI_comm _ _ _ (show 25 ≠ 23 by decide), wI_comm _ _ _ (show 24 ≠ 23 by decide), wI_wI]
theorem xL_f (X : zSt) (e n f s f' : Int32) : wI (xL X e n f s) 24 f' = xL X e n f' s := by
  unfold xL
  rw [wI_comm _ _ _ (show 25 ≠ 24 by decide), wI_wI]
theorem xL_s (X : zSt) (e n f s s' : Int32) : wI (xL X e n f s) 25 s' = xL X e n f s' := by
  unfold xL
  rw [wI_wI]
theorem mL_n (M : zSt) (n e n' : Int32) : wI (mL M n e) 26 n' = mL M n' e := by
  unfold mL
  rw [wI_comm _ _ _ (show 27 ≠ 26 by decide), wI_wI]
theorem mL_e (M : zSt) (n e e' : Int32) : wI (mL M n e) 27 e' = mL M n e' := by
  unfold mL
  rw [wI_wI]
/-- what a STEP would do, and what is known then -/
def LK (nd : Nat) (M : zSt) (pl sk : Nat) (bs : Nat → Nat) (c : Nat) (e n nM f s : Int32) : Prop :=
  (c = 0 ∧ e = 0 ∧ zA M 24 (en M (pl - 1)) = nI 6) ∨ (c = 1 ∧ e = 0 ∧ zA M 24 (en M (pl - 1)) = nI 1)
  ∨ (c = 2 ∧ e = 0 ∧ ∃ d q, zA M 24 (en M (pl - 1)) = nI 2 ∧ zA M 25 (en M (pl - 1)) = nI d ∧ d < nd ∧ zA M 4 d = nI q ∧ q < pl - bs (sk - 1))
  ∨ (c = 3 ∧ e = 0 ∧ ∃ p k r, zA M 24 (en M (pl - 1)) = nI 3 ∧ zA M 25 (en M (pl - 1)) = nI p ∧ p < 13 ∧ p ≠ 8 ∧ wnt p < pl - bs (sk - 1) ∧ 1 ≤ k ∧ k ≤ mny p ∧ fol M (tn M pl k) = some r ∧ vl M r = false ∧ n = nI r ∧ nM = nI r)
  ∨ (c = 4 ∧ e = 0 ∧ ∃ p, zA M 24 (en M (pl - 1)) = nI 3 ∧ zA M 25 (en M (pl - 1)) = nI p ∧ p < 13 ∧ p ≠ 8 ∧ wnt p < pl - bs (sk - 1) ∧ (1 ≤ mny p → ∃ r, fol M (tn M pl 1) = some r ∧ vl M r = true ∧ srt p (zA M 24 r) = true ∧ f = nI r ∧ ((p = 9 ∨ p = 10) → zA M 24 r ≠ nI 5)) ∧ (2 ≤ mny p → ∃ r, fol M (tn M pl 2) = some r ∧ vl M r = true ∧ srt p (zA M 24 r) = true ∧ s = nI r ∧ (p = 3 → zA M 25 r ≠ 0)))
  ∨ (c = 5 ∧ e = 0 ∧ 1 < sk) ∨ (c = 6 ∧ e = 0 ∧ sk = 1) ∨ c = 7
