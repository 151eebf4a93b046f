/-! what a STEP would do -/
theorem wI_id (S : zSt) (k : Nat) : wI S k (zI S k) = S := by
  unfold wI zI
  refine Prod.ext ?_ rfl
  funext j
  show (if j = k then S.1 k else S.1 j) = S.1 j
  split
  · rename_i h; rw [h]
  · rfl
theorem wI_wI (S : zSt) (k : Nat) (a b : Int32) : wI (wI S k a) k b = wI S k b := by
  unfold wI
  refine Prod.ext ?_ rfl
  funext j
  show (if j = k then b else if j = k then a else S.1 j) = if j = k then b else S.1 j
  split <;> rfl
theorem wI_comm (S : zSt) {k j : Nat} (a b : Int32) (h : k ≠ j) : wI (wI S k a) j b = wI (wI S j b) k a := by
  unfold wI
  refine Prod.ext ?_ rfl
  funext i
  show (if i = j then b else if i = k then a else S.1 i) = if i = k then a else if i = j then b else S.1 i
  by_cases h1 : i = j
  · by_cases h2 : i = k
    · exact absurd (h2.symm.trans h1) h
    · rw [if_pos h1, if_neg h2, if_pos h1]
  · rw [if_neg h1, if_neg h1]
/-- the reference's stacks: places, how many stacks, where they begin; the nodes on them are live -/
def MS (M : zSt) (pl sk : Nat) (bs : Nat → Nat) : Prop := zI M 18 = nI pl ∧ zI M 19 = nI sk ∧ 1 ≤ sk ∧ pl ≤ 600 ∧ bs 0 = 0 ∧ (∀ i, i < sk → zA M 31 i = nI (bs i)) ∧ (∀ i, i + 1 < sk → bs i < bs (i + 1)) ∧ bs (sk - 1) < pl ∧ ∀ i, i < pl → lvn M (zA M 30 i)
def Rs (X M : zSt) (pl sk : Nat) : Prop := zI X 19 = nI pl ∧ zI X 20 = nI (sk - 1) ∧ (∀ i, i < pl → zA X 29 i = zA M 30 i) ∧ ∀ i, i < sk → zA X 30 i = zA M 31 i
abbrev en (M : zSt) (i : Nat) : Nat := (zA M 30 i).toNatClampNeg
theorem MS.bsge {M : zSt} {pl sk : Nat} {bs : Nat → Nat} (h : MS M pl sk bs) : ∀ i, i < sk → i ≤ bs i := by
  obtain ⟨-, -, -, -, -, -, h7, -, -⟩ := h
  intro i
  induction i with
  | zero => intro _; omega
  | succ i ih => intro hi; have := ih (by omega); have := h7 i hi; omega
theorem MS.bsmono {M : zSt} {pl sk : Nat} {bs : Nat → Nat} (h : MS M pl sk bs) : ∀ (d i : Nat), i + d < sk → bs i ≤ bs (i + d) := by
  obtain ⟨-, -, -, -, -, -, h7, -, -⟩ := h
  intro d
  induction d with
  | zero => intro i _; exact Nat.le_refl _
  | succ d ih => intro i hi; have := ih i (by omega); have := h7 (i + d) hi; show bs i ≤ bs (i + d + 1); omega
theorem MS.bslt {M : zSt} {pl sk : Nat} {bs : Nat → Nat} (h : MS M pl sk bs) {i : Nat} (hi : i < sk) : bs i < pl := by
  have h1 := h.bsmono (sk - 1 - i) i (by omega)
  have h2 : i + (sk - 1 - i) = sk - 1 := by omega
  rw [h2] at h1
  have := h.2.2.2.2.2.2.2.1
  omega
theorem MS.skle {M : zSt} {pl sk : Nat} {bs : Nat → Nat} (h : MS M pl sk bs) : sk ≤ pl := by
  have h1 := h.bsge (sk - 1) (by have := h.2.2.1; omega)
  have := h.2.2.2.2.2.2.2.1
  have := h.2.2.1
  omega
theorem MS.xs {X M : zSt} {pl sk : Nat} {bs : Nat → Nat} (h : MS M pl sk bs) (hS : Rs X M pl sk) : XS X pl (sk - 1) (bs (sk - 1)) := by
  have h0 := h.skle
  obtain ⟨h1, h2, h3, h4, h5, h6, h7, h8, h9⟩ := h
  obtain ⟨r1, r2, r3, r4⟩ := hS
  exact ⟨r1, r2, by rw [r4 _ (by omega), h6 _ (by omega)], h8, h4, by omega⟩
theorem MS.ent {M : zSt} {pl sk : Nat} {bs : Nat → Nat} (h : MS M pl sk bs) {i : Nat} (hi : i < pl) : en M i < 400 ∧ zA M 30 i = nI (en M i) ∧ zA M 24 (en M i) ≠ nI 7 := (h.2.2.2.2.2.2.2.2 i hi).lt
theorem m_topNode {M : zSt} {pl sk : Nat} {bs : Nat → Nat} (h : MS M pl sk bs) : fX10_topNode M = some (nI (en M (pl - 1)), M) := by
  have h0 := h.skle
  have h1 := h.2.2.1
  have h4 := h.2.2.2.1
  unfold fX10_topNode
  rw [h.1, nsub (by omega), zld_n (by omega) (by omega), (h.ent (i := pl - 1) (by omega)).2.1]
theorem m_size {M : zSt} {pl sk : Nat} {bs : Nat → Nat} (h : MS M pl sk bs) : fX10_size M = some (nI (pl - bs (sk - 1)), M) := by
  have h0 := h.skle
  obtain ⟨h1, h2, h3, h4, h5, h6, h7, h8, h9⟩ := h
  unfold fX10_size
  rw [h2, nsub (by omega), zld_n (by omega) (by omega), h1, h6 _ (by omega), nsub (by omega)]
theorem m_thing {M : zSt} {pl sk : Nat} {bs : Nat → Nat} (h : MS M pl sk bs) {k : Nat} (hk : k < pl) : fX10_thing (nI k) M = some (zA M 26 (en M (pl - 1 - k)), M) := by
  have h4 := h.2.2.2.1
  have h5 := h.ent (i := pl - 1 - k) (by omega)
  unfold fX10_thing
  rw [h.1, nsub (by omega), nsub (by omega), zld_n (by omega) (by omega), h5.2.1, zld_n h5.1 (by omega)]
/-- a node is the lowest of a stack, from stack j on -/
def lowR (M : zSt) (bs : Nat → Nat) : Nat → Nat → Int32 → Bool
  | 0, _, _ => false
  | c + 1, j, v => decide (zA M 30 (bs j) = v) || lowR M bs c (j + 1) v
theorem x_low {X M : zSt} {pl sk : Nat} {bs : Nat → Nat} (h : MS M pl sk bs) (hS : Rs X M pl sk) (v : Int32) : ∀ (c j n : Nat), j + c = sk → c < n → fX6_hasAsLowest_2L n (v, nI j, X) = some (bI (lowR M bs c j v), X) := by
  have h0 := h.skle
  have h4 := h.2.2.2.1
  intro c
  induction c with
  | zero =>
    intro j n hj hn
    obtain ⟨n, rfl⟩ : ∃ n', n = n' + 1 := ⟨n - 1, by omega⟩
    show fX6_hasAsLowest_2 (fX6_hasAsLowest_2L n) v (nI j) X = _
    unfold fX6_hasAsLowest_2
    rw [hS.2.1, if_pos (pt (by have := h.2.2.1; omega))]
    rfl
  | succ c ih =>
    intro j n hj hn
    obtain ⟨n, rfl⟩ : ∃ n', n = n' + 1 := ⟨n - 1, by omega⟩
    show fX6_hasAsLowest_2 (fX6_hasAsLowest_2L n) v (nI j) X = _
    unfold fX6_hasAsLowest_2 lowR
    have hb := h.bslt (i := j) (by omega)
    rw [hS.2.1, if_neg (nt (by omega)), x_beginOf (by omega), zbd_r, hS.2.2.2 j (by omega), h.2.2.2.2.2.1 j (by omega), x_at hS.1 hb h4, zbd_r, hS.2.2.1 _ hb]
    by_cases q : zA M 30 (bs j) = v
    · rw [if_pos q, decide_eq_true q, Bool.true_or]; rfl
    · rw [if_neg q, decide_eq_false q, Bool.false_or, nadd]
      exact ih (j + 1) n (by omega) (by omega)
theorem x_hasAsLowest {X M : zSt} {pl sk : Nat} {bs : Nat → Nat} (h : MS M pl sk bs) (hS : Rs X M pl sk) (v : Int32) : fX6_hasAsLowest v X = some (bI (lowR M bs sk 0 v), X) := by
  unfold fX6_hasAsLowest
  exact x_low h hS v sk 0 zFU (by omega) (by have := h.skle; have := h.2.2.2.1; rw [zFU_s]; omega)
theorem m_low {M : zSt} {pl sk : Nat} {bs : Nat → Nat} (h : MS M pl sk bs) (v : Int32) : ∀ (c j n : Nat) (w : Int32), (w = 0 ∨ w = nI 5) → j + c = sk → c < n → fX10_lookPrimitive_63L n (v, nI j, wI M 27 w) = some (if w = 0 ∧ lowR M bs c j v = false then nI 3 else nI 7, wI (wI M 27 (if w = 0 ∧ lowR M bs c j v = false then 0 else nI 5)) 26 v) := by
  have h0 := h.skle
  have h4 := h.2.2.2.1
  intro c
  induction c with
  | zero =>
    intro j n w hw hj hn
    obtain ⟨n, rfl⟩ : ∃ n', n = n' + 1 := ⟨n - 1, by omega⟩
    show fX10_lookPrimitive_63 (fX10_lookPrimitive_63L n) v (nI j) (wI M 27 w) = _
    unfold fX10_lookPrimitive_63 lowR
    have e1 : zI (wI M 27 w) 19 = nI sk := h.2.1
    have e2 : zI (wI M 27 w) 27 = w := rfl
    rw [e1, e2, if_pos (qle (by omega))]
    rcases hw with rfl | rfl
    · rw [if_pos (by decide), if_pos ⟨rfl, rfl⟩, if_pos ⟨rfl, rfl⟩]
    · rw [if_neg (by decide), if_neg (fun q => absurd q.1 (by decide)), if_neg (fun q => absurd q.1 (by decide))]
  | succ c ih =>
    intro j n w hw hj hn
    obtain ⟨n, rfl⟩ : ∃ n', n = n' + 1 := ⟨n - 1, by omega⟩
    show fX10_lookPrimitive_63 (fX10_lookPrimitive_63L n) v (nI j) (wI M 27 w) = _
    unfold fX10_lookPrimitive_63 lowR
    have hb := h.bslt (i := j) (by omega)
    have e1 : zI (wI M 27 w) 19 = nI sk := h.2.1
    have e2 : zI (wI M 27 w) 27 = w := rfl
    have e3 : zA (wI M 27 w) 31 = zA M 31 := rfl
    have e4 : zA (wI M 27 w) 30 = zA M 30 := rfl
    rw [e1, e2, e3, e4, if_neg (nl (by omega)), zld_n (by omega) (by omega), h.2.2.2.2.2.1 j (by omega), zld_n (by omega) (by omega), nadd, wI_wI, wI_wI]
    by_cases q : zA M 30 (bs j) = v
    · rw [if_pos q, decide_eq_true q, Bool.true_or, ih (j + 1) n (nI 5) (Or.inr rfl) (by omega) (by omega), if_neg (fun q => absurd q.1 (by decide)), if_neg (fun q => absurd q.1 (by decide)), if_neg (fun q => absurd q.2 (by decide)), if_neg (fun q => absurd q.2 (by decide))]
    · rw [if_neg q, decide_eq_false q, Bool.false_or, ih (j + 1) n w hw (by omega) (by omega)]
/-- is the kind of the sort that the PRIMITIVE wants -/
def srt (p : Nat) (kd : Int32) : Bool := if p < 7 then decide (kd = 0) else (decide (p = 12) || (decide (kd = nI 4) || decide (kd = nI 5)))
theorem x_sort {X : zSt} {p : Nat} {kd : Int32} (h : p < 13) (h7 : p ≠ 7) (h8 : p ≠ 8) : fX2_isOfSort (nI p) kd X = some (bI (srt p kd), X) := by
  unfold fX2_isOfSort srt
  have h45 : (if kd = nI 4 then some (nI 1, X) else if kd = nI 5 then some (nI 1, X) else some (nI 0, X)) = some (bI (decide (kd = nI 4) || decide (kd = nI 5)), X) := by
    by_cases a : kd = nI 4
    · rw [if_pos a, decide_eq_true a, Bool.true_or]; rfl
    · rw [if_neg a, decide_eq_false a, Bool.false_or]
      by_cases b : kd = nI 5
      · rw [if_pos b, decide_eq_true b]; rfl
      · rw [if_neg b, decide_eq_false b]; rfl
  rw [h45]
  by_cases h9 : p = 9
  · rw [if_pos (by rw [h9]), if_neg (show ¬ p < 7 by omega), decide_eq_false (show ¬ p = 12 by omega), Bool.false_or]
  · rw [if_neg (nq h9)]
    by_cases h10 : p = 10
    · rw [if_pos (by rw [h10]), if_neg (show ¬ p < 7 by omega), decide_eq_false (show ¬ p = 12 by omega), Bool.false_or]
    · rw [if_neg (nq h10)]
      by_cases h11 : p = 11
      · rw [if_pos (by rw [h11]), if_neg (show ¬ p < 7 by omega), decide_eq_false (show ¬ p = 12 by omega), Bool.false_or]
      · rw [if_neg (nq h11)]
        by_cases h12 : p = 12
        · rw [if_pos (by rw [h12]), if_neg (show ¬ p < 7 by omega), decide_eq_true h12, Bool.true_or]; rfl
        · rw [if_neg (nq h12), if_pos (show p < 7 by omega)]
          by_cases q : kd = 0
          · rw [if_pos q, decide_eq_true q]; rfl
          · rw [if_neg q, decide_eq_false q]; rfl
/-- thing k of the PRIMITIVE on top -/
abbrev tn (M : zSt) (pl k : Nat) : Nat := (zA M 26 (en M (pl - 1 - k))).toNatClampNeg
theorem x_iter {nd : Nat} {X M : zSt} {pl sk p many k n : Nat} {bs : Nat → Nat} (hW : Wg nd M) (hR : Rg X M) (hp : Pp nd X M) (h : MS M pl sk bs) (hS : Rs X M pl sk) (hp1 : p < 13) (hp7 : p ≠ 7) (hp8 : p ≠ 8) (hk : k ≤ many) (hm : many ≤ 2) (hh : k < pl - bs (sk - 1)) (hA : zA M 24 (en M (pl - 1 - k)) = nI 1) :
    fX2_lookAtThings_7L (n + 1) (nI p, nI many, nI k, X) = match fol M (tn M pl k) with
      | none => some (nI 7, wI X 22 (nI 5))
      | some r => if vl M r then (if srt p (zA M 24 r) then (if k = 1 then fX2_lookAtThings_7L n (nI p, nI many, nI (k + 1), wI X 24 (nI r)) else fX2_lookAtThings_7L n (nI p, nI many, nI (k + 1), wI X 25 (nI r))) else some (nI 7, wI X 22 (nI 2)))
        else if lowR M bs sk 0 (nI r) then some (nI 7, wI (wI X 23 (nI r)) 22 (nI 5)) else some (nI 3, wI X 23 (nI r)) := by
  show fX2_lookAtThings_7 (fX2_lookAtThings_7L n) (nI p) (nI many) (nI k) X = _
  have he := h.ent (i := pl - 1 - k) (by omega)
  have ht := (hW.p1 he.1 hA).2.lt
  have hr := hR.live he.1 he.2.2
  unfold fX2_lookAtThings_7
  rw [if_neg (nt (by omega)), x_secondBelow (h.xs hS) hh (by rw [hS.2.2.1 _ (by omega), he.2.1]) he.1, zbd_r, hr.2.2.1, ht.2.1, x_followed hW hR ht.1 ht.2.2, zbd_r]
  cases hf : fol M (tn M pl k) with
  | none =>
    show (if (-1 : Int32) = -1 then _ else _) = _
    rw [if_pos rfl]
    rfl
  | some r =>
    have h3 := fol_live hW ht.1 ht.2.2 hf
    dsimp only
    rw [show fv (some r) = nI r from rfl, if_neg (nne (by omega) (by decide)), x_isValue hW hR hp h3.1 h3.2.1 h3.2.2, zbd_r]
    cases hv : vl M r with
    | false =>
      rw [show bI false = nI 0 from rfl, if_pos nI_0, x_hasAsLowest (X := wI X 23 (nI r)) h hS, zbd_r]
      cases hlo : lowR M bs sk 0 (nI r) with
      | false => rw [show bI false = nI 0 from rfl, if_pos nI_0]; rfl
      | true => rw [show bI true = nI 1 from rfl, if_neg (by decide)]; rfl
    | true =>
      rw [show bI true = nI 1 from rfl, if_neg (by decide), x_kind h3.1, zbd_r, (hR.live h3.1 h3.2.1).1, x_sort hp1 hp7 hp8, zbd_r]
      cases hs : srt p (zA M 24 r) with
      | false => rw [show bI false = nI 0 from rfl, if_pos nI_0]; rfl
      | true =>
        rw [show bI true = nI 1 from rfl, if_neg (by decide), nadd]
        by_cases hk1 : k = 1
        · subst hk1
          rw [if_pos rfl]; rfl
        · rw [if_neg (nq hk1), if_neg hk1]; rfl
theorem m_iter {nd : Nat} {X M : zSt} {pl sk p many k n : Nat} {bs : Nat → Nat} (hW : Wg nd M) (hp : Pp nd X M) (h : MS M pl sk bs) (hp1 : p < 13) (hp7 : p ≠ 7) (hp8 : p ≠ 8) (hk : k ≤ many) (hm : many ≤ 2) (hh : k < pl - bs (sk - 1)) (hA : zA M 24 (en M (pl - 1 - k)) = nI 1) (hw : zI M 27 = 0) :
    fX10_lookPrimitive_22L (n + 1) (nI p, nI many, nI k, M) = match fol M (tn M pl k) with
      | none => some (nI 7, wI M 27 (nI 5))
      | some r => if vl M r then (if srt p (zA M 24 r) then fX10_lookPrimitive_22L n (nI p, nI many, nI (k + 1), M) else some (nI 7, wI M 27 (nI 2)))
        else if lowR M bs sk 0 (nI r) then some (nI 7, wI (wI M 27 (nI 5)) 26 (nI r)) else some (nI 3, wI M 26 (nI r)) := by
  show fX10_lookPrimitive_22 (fX10_lookPrimitive_22L n) (nI p) (nI many) (nI k) M = _
  have he := h.ent (i := pl - 1 - k) (by omega)
  have ht := (hW.p1 he.1 hA).2.lt
  unfold fX10_lookPrimitive_22
  rw [if_neg (nt (by omega)), m_thing h (by omega), zbd_r, ht.2.1, m_followed hW ht.1 ht.2.2, zbd_r]
  cases hf : fol M (tn M pl k) with
  | none =>
    show (if (0 : Int32) ≤ -1 then _ else _) = _
    rw [if_neg (by decide)]
  | some r =>
    have h3 := fol_live hW ht.1 ht.2.2 hf
    dsimp only
    rw [show fv (some r) = nI r from rfl, if_pos (show (0 : Int32) ≤ nI r from qle (a := 0) (by omega)), m_isValue hW hp h3.1 h3.2.1, zbd_r]
    cases hv : vl M r with
    | false =>
      rw [show bI false = nI 0 from rfl, if_pos nI_0]
      have e := m_low h (nI r) sk 0 zFU 0 (Or.inl rfl) (by omega) (by have := h.skle; have := h.2.2.2.1; rw [zFU_s]; omega)
      have e0 : wI M 27 0 = M := by rw [← hw]; exact wI_id M 27
      rw [e0] at e
      rw [show nI 0 = (0 : Int32) from rfl] at e ⊢
      rw [e]
      cases hlo : lowR M bs sk 0 (nI r) with
      | false => rw [if_pos ⟨rfl, rfl⟩, if_pos ⟨rfl, rfl⟩, e0]; rfl
      | true => rw [if_neg (fun q => absurd q.2 (by decide)), if_neg (fun q => absurd q.2 (by decide))]; rfl
    | true =>
      rw [show bI true = nI 1 from rfl, if_neg (by decide)]
      rw [if_pos rfl]
      unfold srt fX10_lookPrimitive_179 fX10_lookPrimitive_184
      simp only [if_neg (show ¬ nI 1 = 0 by decide), if_pos (show nI 0 = 0 from rfl), nadd]
      by_cases h7 : p < 7
      · rw [if_neg (nl (by omega)), if_pos h7, zld_n h3.1 (by omega)]
        by_cases q : zA M 24 r = 0
        · rw [if_pos q, decide_eq_true q, if_pos rfl]
        · rw [if_neg q, decide_eq_false q, if_neg (by decide)]
      · rw [if_pos (qle (by omega)), if_neg h7]
        by_cases h12 : p = 12
        · rw [if_pos (by rw [h12]), decide_eq_true h12, Bool.true_or, if_pos rfl]
        · rw [if_neg (nq h12), decide_eq_false h12, Bool.false_or, zld_n h3.1 (by omega)]
          by_cases a : zA M 24 r = nI 4
          · rw [if_pos a, decide_eq_true a, Bool.true_or, if_pos rfl]
          · rw [if_neg a, decide_eq_false a, Bool.false_or, zld_n h3.1 (by omega)]
            by_cases b : zA M 24 r = nI 5
            · rw [if_pos b, decide_eq_true b, if_pos rfl]
            · rw [if_neg b, decide_eq_false b, if_neg (by decide)]
