/-! the way to a node -/
theorem XQ.lenmono {nd : Nat} {M : zSt} {pl : Nat} {X0 X : zSt} {f len par : Nat → Nat} {c c0 : Nat} (h : XQ nd M pl X0 X f len par c c0) : ∀ j' j, j ≤ j' → j' < c → len (f j) ≤ len (f j') := by
  obtain ⟨h1, h2, h3, h4, h5, h6, h7, h8, h9, h10, h11, h12, h13⟩ := h
  intro j'
  induction j' using Nat.strongRecOn with
  | _ j' ih =>
    intro j hj hj'
    by_cases q' : j' < c0
    · rw [(h8 j (by omega)).2, (h8 j' q').2]; exact Nat.le_refl _
    · by_cases q : j < c0
      · rw [(h8 j q).2]; exact (h4 j' hj').1
      · by_cases e : j = j'
        · rw [e]; exact Nat.le_refl _
        · obtain ⟨a1, a2, a3, a4⟩ := h11 j (by omega) (by omega)
          obtain ⟨b1, b2, b3, b4⟩ := h11 j' (by omega) hj'
          have hp : par j ≤ par j' := by
            rcases h12 j j' (by omega) (by omega) hj' with z | ⟨z, -⟩ <;> omega
          have := ih (par j') b1 (par j) hp (by omega)
          omega
theorem XQ.lened {nd : Nat} {M : zSt} {pl : Nat} {X0 X : zSt} {f len par : Nat → Nat} {c c0 : Nat} (h : XQ nd M pl X0 X f len par c c0) (hD : Dn M f par c c0 c) {p v : Nat} (hp : p < c) (he : ed M (f p) v) : ∃ j, j < c ∧ f j = v ∧ len v ≤ len (f p) + 1 := by
  obtain ⟨j, j1, j2, j3⟩ := hD p v hp he
  refine ⟨j, j1, j2, ?_⟩
  rw [← j2]
  by_cases q : j < c0
  · rw [(h.2.2.2.2.2.2.2.1 j q).2]; omega
  · obtain ⟨a1, a2, a3, a4⟩ := h.2.2.2.2.2.2.2.2.2.2.1 j (by omega) j1
    have := h.lenmono p (par j) (j3 (by omega)) hp
    omega
/-- positions on the way, from its end -/
def Ps (par : Nat → Nat) (p : Nat) : Nat → Nat
  | 0 => p
  | t + 1 => par (Ps par p t)
theorem way_pos {nd : Nat} {M : zSt} {pl : Nat} {X0 X : zSt} {f len par : Nat → Nat} {c c0 p : Nat} (h : XQ nd M pl X0 X f len par c c0) (hp : p < c) : ∀ t, t < len (f p) → Ps par p t < c ∧ len (f (Ps par p t)) + t = len (f p) ∧ (t + 1 < len (f p) → c0 ≤ Ps par p t) := by
  have key : ∀ j, j < c → 2 ≤ len (f j) → c0 ≤ j := fun j hj hl => by
    rcases Nat.lt_or_ge j c0 with z | z
    · have := (h.2.2.2.2.2.2.2.1 j z).2; omega
    · exact z
  intro t
  induction t with
  | zero => intro ht; exact ⟨hp, rfl, fun z => key p hp (by omega)⟩
  | succ t ih =>
    intro ht
    obtain ⟨i1, i2, i3⟩ := ih (by omega)
    obtain ⟨a1, a2, a3, a4⟩ := h.2.2.2.2.2.2.2.2.2.2.1 _ (i3 ht) i1
    have e : len (f (Ps par p (t + 1))) + (t + 1) = len (f p) := by
      show len (f (par (Ps par p t))) + (t + 1) = _
      omega
    have hlt : Ps par p (t + 1) < c := by show par (Ps par p t) < c; omega
    exact ⟨hlt, e, fun z => key _ hlt (by omega)⟩
theorem way_far {nd : Nat} {M : zSt} {pl sk : Nat} {bs : Nat → Nat} {X0 X : zSt} {f len par : Nat → Nat} {c c0 p : Nat} {fr : Nat → Nat} (hW : Wg nd M) (hS : MS M pl sk bs) (hnd : nd ≤ 20) (hd : ∀ d, d < nd → zA M 24 d ≠ nI 7) (h : XQ nd M pl X0 X f len par c c0) (hD : Dn M f par c c0 c) (hp : p < c) (hF : FF M (f p) fr) :
    (∀ s j, j < c → fr (f j) = s + 1 → len (f p) ≤ len (f j) + s) ∧ (∀ t, t < len (f p) → fr (f (Ps par p t)) = t + 1) ∧ (∀ t j, t < len (f p) → j < c → j < Ps par p t → fr (f j) ≠ t + 1) := by
  obtain ⟨f1, f2, f3, f4⟩ := hF
  have lv : ∀ j, j < c → f j < 400 ∧ zA M 24 (f j) ≠ nI 7 := fun j hj => Kp_live hW hS hnd hd (h.kp j hj)
  have A : ∀ s j, j < c → fr (f j) = s + 1 → len (f p) ≤ len (f j) + s := by
    intro s
    induction s with
    | zero =>
      intro j hj hs
      have := f2 (f j) (lv j hj).1 hs
      rw [← this]; omega
    | succ s ih =>
      intro j hj hs
      obtain ⟨v, v1, v2⟩ := f4 (f j) (lv j hj).1 (by omega)
      obtain ⟨j', j1, j2, j3⟩ := h.lened hD hj v1
      have := ih j' j1 (by rw [j2]; omega)
      rw [j2] at this
      omega
  have B : ∀ t, t < len (f p) → fr (f (Ps par p t)) = t + 1 := by
    intro t
    induction t with
    | zero => intro _; exact f1
    | succ t ih =>
      intro ht
      have i0 := ih (by omega)
      obtain ⟨i1, i2, i3⟩ := way_pos h hp t (by omega)
      obtain ⟨k1, k2, k3⟩ := way_pos h hp (t + 1) ht
      obtain ⟨a1, a2, a3, a4⟩ := h.2.2.2.2.2.2.2.2.2.2.1 _ (i3 ht) i1
      have hlv := lv _ k1
      have hle := f3 (f (Ps par p (t + 1))) (f (Ps par p t)) hlv.1 hlv.2 a2 (by omega)
      obtain ⟨s, hs⟩ : ∃ s, fr (f (Ps par p (t + 1))) = s + 1 := ⟨fr (f (Ps par p (t + 1))) - 1, by omega⟩
      have := A s _ k1 hs
      omega
  refine ⟨A, B, ?_⟩
  intro t
  induction t with
  | zero =>
    intro j ht hj hlt hs
    have := f2 (f j) (lv j hj).1 hs
    have := h.2.2.2.2.2.1 j p hj hp this
    have hlt : j < p := hlt
    omega
  | succ t ih =>
    intro j ht hj hlt hs
    obtain ⟨v, v1, v2⟩ := f4 (f j) (lv j hj).1 (by omega)
    obtain ⟨j', j1, j2, j3⟩ := hD j v hj v1
    obtain ⟨i1, i2, i3⟩ := way_pos h hp t (by omega)
    have hc0 := i3 ht
    have hlt : j < par (Ps par p t) := hlt
    refine ih j' (by omega) j1 ?_ (by rw [j2]; omega)
    rcases Nat.lt_or_ge j' (Ps par p t) with z | z
    · exact z
    · exfalso
      have := j3 (by omega)
      by_cases e : Ps par p t = j'
      · rw [e] at hlt; omega
      · rcases h.2.2.2.2.2.2.2.2.2.2.2.1 (Ps par p t) j' hc0 (by omega) j1 with w | ⟨w, -⟩ <;> omega
theorem x_onWay {nd : Nat} {M : zSt} {pl : Nat} {X0 X : zSt} {f len par : Nat → Nat} {c c0 p k : Nat} (h : XQ nd M pl X0 X f len par c c0) (hp : p < c) (hk : k < len (f p)) : ∀ (m t fu : Nat), t + m = len (f p) - 1 - k → m < fu → fX1_onWay_11L fu (nI k, nI (f (Ps par p t)), nI (len (f p) - 1 - t), X) = some (nI (f (Ps par p (len (f p) - 1 - k))), X) := by
  have hc4 := h.c400
  have hl := h.2.2.2.1 p hp
  intro m
  induction m with
  | zero =>
    intro t fu ht hf
    obtain ⟨fu, rfl⟩ : ∃ n', fu = n' + 1 := ⟨fu - 1, by omega⟩
    rw [show fX1_onWay_11L (fu + 1) (nI k, nI (f (Ps par p t)), nI (len (f p) - 1 - t), X) = fX1_onWay_11 (fX1_onWay_11L fu) (nI k) (nI (f (Ps par p t))) (nI (len (f p) - 1 - t)) X from rfl]
    unfold fX1_onWay_11
    rw [if_pos (qle (by omega))]
    have : t = len (f p) - 1 - k := by omega
    rw [this]
  | succ m ih =>
    intro t fu ht hf
    obtain ⟨fu, rfl⟩ : ∃ n', fu = n' + 1 := ⟨fu - 1, by omega⟩
    rw [show fX1_onWay_11L (fu + 1) (nI k, nI (f (Ps par p t)), nI (len (f p) - 1 - t), X) = fX1_onWay_11 (fX1_onWay_11L fu) (nI k) (nI (f (Ps par p t))) (nI (len (f p) - 1 - t)) X from rfl]
    unfold fX1_onWay_11
    obtain ⟨i1, i2, i3⟩ := way_pos h hp t (by omega)
    have hf4 := (h.2.1 _ i1).1
    obtain ⟨a1, a2, a3, a4⟩ := h.2.2.2.2.2.2.2.2.2.2.1 _ (i3 (by omega)) i1
    have e1 : nI (len (f p) - 1 - t) + (-1 : Int32) = nI (len (f p) - 1 - (t + 1)) := by
      rw [sb_m1 (by omega)]
      congr 1
    rw [if_neg (nl (by omega)), if_neg (nneg (by omega)), if_neg (nl (by omega)), zld_n hf4 (by omega), a4, e1]
    exact ih (t + 1) fu (by omega) (by omega)
theorem m_isRoot12 {M S : zSt} {pl sk : Nat} {bs : Nat → Nat} {r : Nat} (hS : MS M pl sk bs) (frm : FR [35, 36, 37] [28] M S) (hr : r < 400) : ∀ (m i fu : Nat), i + m = pl → m < fu → (∀ k, k < i → en M k ≠ r) → (fX10_isRoot_12L fu (nI r, nI i, S) = some (nI 1, S) ∧ ∃ k, k < pl ∧ en M k = r) ∨ (fX10_isRoot_12L fu (nI r, nI i, S) = some (nI 0, S) ∧ ¬ ∃ k, k < pl ∧ en M k = r) := by
  have hpl := hS.2.2.2.1
  intro m
  induction m with
  | zero =>
    intro i fu hi hf hn
    obtain ⟨fu, rfl⟩ : ∃ n', fu = n' + 1 := ⟨fu - 1, by omega⟩
    right
    refine ⟨?_, fun ⟨k, k1, k2⟩ => hn k (by omega) k2⟩
    rw [show fX10_isRoot_12L (fu + 1) (nI r, nI i, S) = fX10_isRoot_12 (fX10_isRoot_12L fu) (nI r) (nI i) S from rfl]
    unfold fX10_isRoot_12
    rw [frm.2.1 18 (by decide), hS.1, if_pos (qle (by omega))]
  | succ m ih =>
    intro i fu hi hf hn
    obtain ⟨fu, rfl⟩ : ∃ n', fu = n' + 1 := ⟨fu - 1, by omega⟩
    rw [show fX10_isRoot_12L (fu + 1) (nI r, nI i, S) = fX10_isRoot_12 (fX10_isRoot_12L fu) (nI r) (nI i) S from rfl]
    unfold fX10_isRoot_12
    have he := hS.ent (i := i) (by omega)
    rw [frm.2.1 18 (by decide), hS.1, if_neg (nl (by omega)), zld_n (by omega) (by omega), frm.1 30 (by decide), he.2.1, nadd]
    by_cases e : en M i = r
    · left
      rw [if_pos (by rw [e])]
      exact ⟨rfl, i, by omega, e⟩
    · rw [if_neg (nq e)]
      refine ih (i + 1) fu (by omega) (by omega) (fun k hk => ?_)
      by_cases z : k = i
      · rw [z]; exact e
      · exact hn k (by omega)
theorem m_isRoot {nd : Nat} {M S : zSt} {pl sk : Nat} {bs : Nat → Nat} {r : Nat} (hS : MS M pl sk bs) (frm : FR [35, 36, 37] [28] M S) (hnd : nd ≤ 20) (h8 : zI M 8 = nI nd) (hr : r < 400) : (fX10_isRoot (nI r) S = some (nI 1, S) ∧ rt nd M pl r) ∨ (fX10_isRoot (nI r) S = some (nI 0, S) ∧ ¬ rt nd M pl r) := by
  have hpl := hS.2.2.2.1
  unfold fX10_isRoot
  rw [frm.2.1 8 (by decide), h8]
  by_cases e : nd ≤ r
  · rw [if_pos (qle e)]
    rcases m_isRoot12 hS frm hr pl 0 zFU (by omega) (by rw [zFU_s]; omega) (fun k hk => absurd hk (Nat.not_lt_zero _)) with ⟨a, b⟩ | ⟨a, b⟩
    · exact Or.inl ⟨a, Or.inr b⟩
    · refine Or.inr ⟨a, fun z => ?_⟩
      rcases z with z | z
      · omega
      · exact b z
  · rw [if_neg (nl (by omega))]
    exact Or.inl ⟨rfl, Or.inl (by omega)⟩
/-- what follows when the root is found -/
def wayE (x2 x5 : Int32) (S : zSt) : Option (Int32 × zSt) := zld 400 x5 (zA S 37) (fun v20 => if x2 < v20 then (if 0 ≤ x2 then fX10_way_315L zFU (x2, x5, nI 0, S) else zld 400 x5 (zA S 37) (fun v21 => some (v21, S))) else some ((-1 : Int32), S))
theorem m_way228 {nd : Nat} {M S : zSt} {pl sk q : Nat} {bs : Nat → Nat} {fr : Nat → Nat} {x2 : Int32} (hS : MS M pl sk bs) (frm : FR [35, 36, 37] [28] M S) (hnd : nd ≤ 20) (h8 : zI M 8 = nI nd) (h37 : ∀ j, j < 400 → zA S 37 j = fz (fr j) ∧ fr j ≤ 401) (hq : q < 400) (hqr : rt nd M pl q) (hq1 : 1 ≤ fr q) (hmin : ∀ r, r < 400 → rt nd M pl r → 1 ≤ fr r → fr q ≤ fr r ∧ (fr r = fr q → q ≤ r)) :
    ∀ (m i fu : Nat) (x5 : Int32), i + m = 400 → m < fu → (x5 = -1 ∧ ∀ r, r < i → rt nd M pl r → fr r = 0) ∨ (∃ a, a < i ∧ x5 = nI a ∧ rt nd M pl a ∧ 1 ≤ fr a ∧ ∀ r, r < i → rt nd M pl r → 1 ≤ fr r → fr a ≤ fr r ∧ (fr r = fr a → a ≤ r)) → fX10_way_228L fu (x2, x5, nI i, S) = wayE x2 (nI q) S := by
  intro m
  induction m with
  | zero =>
    intro i fu x5 hi hf hx
    obtain ⟨fu, rfl⟩ : ∃ n', fu = n' + 1 := ⟨fu - 1, by omega⟩
    rw [show fX10_way_228L (fu + 1) (x2, x5, nI i, S) = fX10_way_228 (fX10_way_228L fu) x2 x5 (nI i) S from rfl]
    unfold fX10_way_228
    rw [if_pos (qle (by omega))]
    have e : x5 = nI q := by
      rcases hx with ⟨-, z⟩ | ⟨a, a1, a2, a3, a4, a5⟩
      · have := z q (by omega) hqr; omega
      · have h1 := a5 q (by omega) hqr hq1
        have h2 := hmin a (by omega) a3 a4
        have e1 : fr a = fr q := by omega
        have := h1.2 e1.symm
        have := h2.2 e1
        rw [a2]
        congr 1
        omega
    rw [e]
    rfl
  | succ m ih =>
    intro i fu x5 hi hf hx
    obtain ⟨fu, rfl⟩ : ∃ n', fu = n' + 1 := ⟨fu - 1, by omega⟩
    rw [show fX10_way_228L (fu + 1) (x2, x5, nI i, S) = fX10_way_228 (fX10_way_228L fu) x2 x5 (nI i) S from rfl]
    unfold fX10_way_228
    have hi4 : i < 400 := by omega
    obtain ⟨e37, b37⟩ := h37 i hi4
    rw [if_neg (nl (by omega))]
    have keepX : (¬ rt nd M pl i ∨ fr i = 0) → fX10_way_228L fu (x2, x5, nI i + nI 1, S) = wayE x2 (nI q) S := fun hz => by
      rw [nadd]
      refine ih (i + 1) fu x5 (by omega) (by omega) ?_
      rcases hx with ⟨z, w⟩ | ⟨a, a1, a2, a3, a4, a5⟩
      · refine Or.inl ⟨z, fun r hr hrt => ?_⟩
        by_cases e : r = i
        · rcases hz with y | y
          · rw [e] at hrt; exact absurd hrt y
          · rw [e]; exact y
        · exact w r (by omega) hrt
      · refine Or.inr ⟨a, by omega, a2, a3, a4, fun r hr hrt h1 => ?_⟩
        by_cases e : r = i
        · rcases hz with y | y
          · rw [e] at hrt; exact absurd hrt y
          · rw [e] at h1; omega
        · exact a5 r (by omega) hrt h1
    rcases m_isRoot hS frm hnd h8 hi4 with ⟨r1, r2⟩ | ⟨r1, r2⟩
    · rw [r1, zbd_r, if_neg (by decide), zld_n hi4 (by omega), e37]
      by_cases hz : fr i = 0
      · rw [hz, fz_0, if_pos (by decide)]
        exact keepX (Or.inr hz)
      · rw [fz_p hz, if_neg (show ¬ nI (fr i) ≤ 0 from nl (b := 0) (by omega))]
        have takeX : (∀ r, r < i → rt nd M pl r → 1 ≤ fr r → fr i < fr r) → fX10_way_228L fu (x2, nI i, nI i + nI 1, S) = wayE x2 (nI q) S := fun hz2 => by
          rw [nadd]
          refine ih (i + 1) fu (nI i) (by omega) (by omega) (Or.inr ⟨i, by omega, rfl, r2, by omega, fun r hr hrt h1 => ?_⟩)
          by_cases e : r = i
          · rw [e]; exact ⟨Nat.le_refl _, fun _ => Nat.le_refl _⟩
          · have := hz2 r (by omega) hrt h1
            exact ⟨by omega, fun y => by omega⟩
        rcases hx with ⟨z, w⟩ | ⟨a, a1, a2, a3, a4, a5⟩
        · rw [z, if_pos (by decide)]
          exact takeX (fun r hr hrt h1 => by have := w r hr hrt; omega)
        · obtain ⟨e37a, b37a⟩ := h37 a (by omega)
          rw [a2, if_neg (nneg (by omega)), zld_n hi4 (by omega), zld_n (by omega) (by omega), e37, e37a, fz_p hz, fz_p (show fr a ≠ 0 by omega)]
          by_cases y : fr a ≤ fr i
          · rw [if_pos (qle y), ← a2, nadd]
            refine ih (i + 1) fu x5 (by omega) (by omega) (Or.inr ⟨a, by omega, a2, a3, a4, fun r hr hrt h1 => ?_⟩)
            by_cases e : r = i
            · rw [e]; exact ⟨y, fun _ => by omega⟩
            · exact a5 r (by omega) hrt h1
          · rw [if_neg (nl (by omega))]
            exact takeX (fun r hr hrt h1 => by have := (a5 r hr hrt h1).1; omega)
    · rw [r1, zbd_r, if_pos nI_0]
      exact keepX (Or.inl r2)
/-- the reference's way, node by node: the same as the class's -/
theorem m_way315 {nd : Nat} {M S : zSt} {pl sk : Nat} {bs : Nat → Nat} {X0 X : zSt} {f len par : Nat → Nat} {c c0 p k : Nat} {fr : Nat → Nat} (hW : Wg nd M) (hS : MS M pl sk bs) (hnd : nd ≤ 20) (hd : ∀ d, d < nd → zA M 24 d ≠ nI 7) (h : XQ nd M pl X0 X f len par c c0) (hD : Dn M f par c c0 c) (hp : p < c) (hF : FF M (f p) fr) (frm : FR [35, 36, 37] [28] M S) (h37 : ∀ j, j < 400 → zA S 37 j = fz (fr j) ∧ fr j ≤ 401) (hk : k < len (f p)) :
    ∀ (m i fu : Nat), i + m = k → m < fu → fX10_way_315L fu (nI k, nI (f (Ps par p (len (f p) - 1 - i))), nI i, S) = some (nI (f (Ps par p (len (f p) - 1 - k))), S) := by
  have hc4 := h.c400
  have hl := h.2.2.2.1 p hp
  obtain ⟨wA, wB, wC⟩ := way_far hW hS hnd hd h hD hp hF
  intro m
  induction m with
  | zero =>
    intro i fu hi hf
    obtain ⟨fu, rfl⟩ : ∃ n', fu = n' + 1 := ⟨fu - 1, by omega⟩
    rw [show fX10_way_315L (fu + 1) (nI k, nI (f (Ps par p (len (f p) - 1 - i))), nI i, S) = fX10_way_315 (fX10_way_315L fu) (nI k) (nI (f (Ps par p (len (f p) - 1 - i)))) (nI i) S from rfl]
    unfold fX10_way_315
    rw [if_pos (qle (by omega))]
    have : i = k := by omega
    rw [this]
  | succ m ih =>
    intro i fu hi hf
    obtain ⟨fu, rfl⟩ : ∃ n', fu = n' + 1 := ⟨fu - 1, by omega⟩
    rw [show fX10_way_315L (fu + 1) (nI k, nI (f (Ps par p (len (f p) - 1 - i))), nI i, S) = fX10_way_315 (fX10_way_315L fu) (nI k) (nI (f (Ps par p (len (f p) - 1 - i)))) (nI i) S from rfl]
    unfold fX10_way_315
    rw [if_neg (nl (by omega))]
    -- t + 1 = L - 1 - i
    obtain ⟨t, ht⟩ : ∃ t, len (f p) - 1 - i = t + 1 := ⟨len (f p) - 1 - i - 1, by omega⟩
    have ht' : len (f p) - 1 - (i + 1) = t := by omega
    obtain ⟨p1, p2, p3⟩ := way_pos h hp (t + 1) (by omega)
    obtain ⟨q1, q2, q3⟩ := way_pos h hp t (by omega)
    obtain ⟨a1, a2, a3, a4⟩ := h.2.2.2.2.2.2.2.2.2.2.1 _ (q3 (by omega)) q1
    have hu := Kp_live hW hS hnd hd (h.kp _ p1)
    have fu1 := wB (t + 1) (by omega)
    have fc1 := wB t (by omega)
    have IH := ih (i + 1) fu (by omega) (by omega)
    rw [ht'] at IH
    rw [ht]
    have a2' : ed M (f (Ps par p (t + 1))) (f (Ps par p t)) := a2
    generalize hU : f (Ps par p (t + 1)) = u at a2' fu1 hu ⊢
    -- no lesser child is as near
    have least : ∀ v, ed M u v → fr v = t + 1 → f (Ps par p t) ≤ v := by
      intro v hv hfv
      rcases Nat.lt_or_ge v (f (Ps par p t)) with z | z
      · exfalso
        rw [← hU] at hv
        obtain ⟨j, j1, j2, j3⟩ := hD _ v p1 hv
        refine wC t j (by omega) j1 ?_ (by rw [j2]; exact hfv)
        have hc0 := q3 (by omega)
        rcases Nat.lt_or_ge j (Ps par p t) with w | w
        · exact w
        · exfalso
          have := j3 (by omega)
          have this : par j ≤ par (Ps par p t) := this
          by_cases e : Ps par p t = j
          · rw [e, j2] at z; omega
          · rcases h.2.2.2.2.2.2.2.2.2.2.2.1 (Ps par p t) j hc0 (by omega) j1 with w2 | ⟨w2, w3⟩
            · omega
            · rw [j2] at w3; omega
      · exact z
    have s24 : zA S 24 = zA M 24 := frm.1 24 (by decide)
    have s25 : zA S 25 = zA M 25 := frm.1 25 (by decide)
    have s26 : zA S 26 = zA M 26 := frm.1 26 (by decide)
    have hq : two M u ∨ zA M 24 u = nI 6 := by
      rcases a2' with ⟨z, -⟩ | ⟨z, -⟩
      · exact Or.inl z
      · exact Or.inr z
    have hlf : lvn M (zA M 25 u) := by
      rcases hq with (z | z) | z
      · exact (hW.p1 hu.1 z).1
      · exact (hW.p4 hu.1 z).1
      · exact hW.p6 hu.1 z
    have lf := hlf.lt
    have e37u : zA S 37 u = nI (t + 2) := by rw [(h37 u hu.1).1, fu1, fz_p (by omega)]
    -- the choice between a and b
    have choose : ∀ a b : Nat, a < 400 → b < 400 → ed M u a → ed M u b → (f (Ps par p t) = a ∨ f (Ps par p t) = b) → fX10_way_356 (fX10_way_315L fu) (nI k) (nI u) (nI i) (nI a) (nI b) S = fX10_way_315L fu (nI k, nI (f (Ps par p t)), nI (i + 1), S) := by
      intro a b ha hb ea eb hab
      have ra := h37 a ha
      have rb := h37 b hb
      unfold fX10_way_356 fX10_way_382
      rw [zld_n ha (by omega), zld_n hu.1 (by omega), e37u, nsub (by omega), show t + 2 - 1 = t + 1 from rfl, ra.1]
      have ta : fz (fr a) = nI (t + 1) ↔ fr a = t + 1 := fz_eq (by omega) (by omega) (by omega)
      have tb : fz (fr b) = nI (t + 1) ↔ fr b = t + 1 := fz_eq (by omega) (by omega) (by omega)
      have inner : ∀ y0 : Int32, zld 400 (nI b) (zA S 37) (fun v34 => zld 400 (nI u) (zA S 37) (fun v35 => if v34 = (v35 - (nI 1)) then fX10_way_408 (fX10_way_315L fu) (nI k) (nI i) (nI a) (nI b) y0 (nI 1) S else fX10_way_408 (fX10_way_315L fu) (nI k) (nI i) (nI a) (nI b) y0 (nI 0) S)) = fX10_way_408 (fX10_way_315L fu) (nI k) (nI i) (nI a) (nI b) y0 (if fr b = t + 1 then nI 1 else nI 0) S := by
        intro y0
        rw [zld_n hb (by omega), zld_n hu.1 (by omega), e37u, nsub (by omega), show t + 2 - 1 = t + 1 from rfl, rb.1]
        by_cases z : fr b = t + 1
        · rw [if_pos (tb.mpr z), if_pos z]
        · rw [if_neg (fun w => z (tb.mp w)), if_neg z]
      rw [inner, inner]
      unfold fX10_way_408 fX10_way_437
      simp only [nadd]
      by_cases za : fr a = t + 1
      · rw [if_pos (ta.mpr za), if_neg (by decide)]
        have la := least a ea za
        by_cases zb : fr b = t + 1
        · have lb := least b eb zb
          rw [if_pos zb, if_neg (by decide)]
          by_cases w : b ≤ a
          · rw [if_pos (qle w)]
            have : b = f (Ps par p t) := by omega
            rw [this]
          · rw [if_neg (nl (by omega))]
            have : a = f (Ps par p t) := by omega
            rw [this]
        · rw [if_neg zb, if_pos nI_0, if_neg (by decide)]
          have : a = f (Ps par p t) := by
            rcases hab with w | w
            · exact w.symm
            · rw [← w] at zb; exact absurd fc1 zb
          rw [this]
      · rw [if_neg (fun w => za (ta.mp w)), if_pos nI_0, if_pos nI_0]
        have : b = f (Ps par p t) := by
          rcases hab with w | w
          · rw [← w] at za; exact absurd fc1 za
          · exact w.symm
        rw [this]
    have ef : zA M 25 u = nI (fs M u) := lf.2.1
    have hf4 : fs M u < 400 := lf.1
    rw [zld_n hu.1 (by omega), zld_n hu.1 (by omega), s24, m_fields, zbd_r, s25, ef]
    by_cases tw : two M u
    · have hls : lvn M (zA M 26 u) := by
        rcases tw with z | z
        · exact (hW.p1 hu.1 z).2
        · exact (hW.p4 hu.1 z).2
      have es : zA M 26 u = nI (sn M u) := hls.lt.2.1
      have hs4 : sn M u < 400 := hls.lt.1
      rw [if_pos tw, if_neg (by decide), zld_n hu.1 (by omega), s26, es, choose (fs M u) (sn M u) hf4 hs4 (Or.inl ⟨tw, Or.inl rfl⟩) (Or.inl ⟨tw, Or.inr rfl⟩) ?_, IH]
      rcases a2' with ⟨-, z⟩ | ⟨-, z⟩
      · exact z
      · exact Or.inl z
    · have e6 : zA M 24 u = nI 6 := hq.resolve_left tw
      have e1 : (if zA M 24 u = nI 6 then nI 1 else nI 0) ≤ nI 1 := by split <;> decide
      rw [if_neg tw, if_pos e1, choose (fs M u) (fs M u) hf4 hf4 (Or.inr ⟨e6, rfl⟩) (Or.inr ⟨e6, rfl⟩) ?_, IH]
      rcases a2' with ⟨z, -⟩ | ⟨-, z⟩
      · exact absurd z tw
      · exact Or.inl z
