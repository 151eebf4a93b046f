/-- a whole row is another -/
def sA (S : zSt) (k : Nat) (g : Nat → Int32) : zSt := (S.1, S.2.1, fun j => if j = k then g else S.2.2.1 j, S.2.2.2)
theorem wA_sA (S : zSt) (k i : Nat) (g : Nat → Int32) (v : Int32) : wA (sA S k g) k i v = sA S k (upd g i v) := by
  unfold wA sA
  refine Prod.ext rfl (Prod.ext rfl (Prod.ext ?_ rfl))
  funext j
  show (if j = k then upd (if k = k then g else S.2.2.1 k) i v else if j = k then g else S.2.2.1 j) = if j = k then upd g i v else S.2.2.1 j
  rw [if_pos rfl]
  split <;> rfl
theorem sA_id (S : zSt) (k : Nat) : sA S k (zA S k) = S := by
  unfold sA zA
  refine Prod.ext rfl (Prod.ext rfl (Prod.ext ?_ rfl))
  funext j
  show (if j = k then S.2.2.1 k else S.2.2.1 j) = S.2.2.1 j
  split
  · rename_i h; rw [h]
  · rfl
def frX (X X' : zSt) : Prop := (∀ k, k ∉ [25, 26, 27, 28, 29, 30, 31, 32, 33, 34, 35] → zA X' k = zA X k) ∧ (∀ k, k ∉ [14, 15, 16, 17, 18, 19, 20, 26] → zI X' k = zI X k) ∧ (∀ k, zL X' k = zL X k) ∧ ∀ k, zB X' k = zB X k
def frM (M M' : zSt) : Prop := (∀ k, k ∉ [24, 25, 26, 27, 28, 29, 30, 31, 33, 34] → zA M' k = zA M k) ∧ (∀ k, k ∉ [15, 16, 17, 18, 19] → zI M' k = zI M k) ∧ (∀ k, zL M' k = zL M k) ∧ ∀ k, zB M' k = zB M k
theorem x_give {X : zSt} {p : Nat} {v : Int32} (h : p < 8) : fX3_give (nI p) v X = some ((), wA X 33 p v) := by
  unfold fX3_give
  rw [if_neg (nneg (by omega)), if_neg (nl (by omega)), zck_n h (by omega), ncl (by omega)]
/-- what the class does behind the PARAMETERS -/
def mkX (d pd : Nat) (S : zSt) : Option (Unit × zSt) := fX2_makeFunction_11 (fun _ => none) (nI d) (nI pd) (nI (pd + 1)) S
theorem give_loop {nd : Nat} {X M : zSt} {l pl sk pd d : Nat} {bs : Nat → Nat} (H : RK nd X M l pl sk bs) (hpd : pd ≤ 8) (hd : d < 20) (hh : pd < pl - bs (sk - 1)) :
    ∀ (c k f : Nat) (g : Nat → Int32), k + c = pd + 1 → 1 ≤ k → c < f → ∃ g', fX2_makeFunction_11L f (nI d, nI pd, nI k, sA X 33 g) = mkX d pd (sA X 33 g') ∧ (∀ p, p + 1 < k → g' p = g p) ∧ ∀ p, k ≤ p + 1 → p < pd → g' p = zA M 26 (en M (pl - 1 - (p + 1))) := by
  obtain ⟨g1, g2, g3, g4, g5, g6, g7, g8⟩ := H
  have hR := g1.1
  have hskl := g3.skle
  have hpl := g3.2.2.2.1
  have hxs := g3.xs g4
  intro c
  induction c with
  | zero =>
    intro k f g hk h1 hf
    obtain ⟨f, rfl⟩ : ∃ n', f = n' + 1 := ⟨f - 1, by omega⟩
    obtain rfl : k = pd + 1 := by omega
    refine ⟨g, ?_, fun _ _ => rfl, fun p hp1 hp2 => by omega⟩
    show fX2_makeFunction_11 (fX2_makeFunction_11L f) (nI d) (nI pd) (nI (pd + 1)) (sA X 33 g) = fX2_makeFunction_11 (fun _ => none) (nI d) (nI pd) (nI (pd + 1)) (sA X 33 g)
    unfold fX2_makeFunction_11
    rw [if_pos (pt (by omega)), if_pos (pt (by omega))]
  | succ c ih =>
    intro k f g hk h1 hf
    obtain ⟨f, rfl⟩ : ∃ n', f = n' + 1 := ⟨f - 1, by omega⟩
    have hke := g3.ent (i := pl - 1 - k) (by omega)
    have hkr := hR.live hke.1 hke.2.2
    obtain ⟨g', q1, q2, q3⟩ := ih (k + 1) f (upd g (k - 1) (zA M 26 (en M (pl - 1 - k)))) (by omega) (by omega) (by omega)
    refine ⟨g', ?_, fun p hp => ?_, fun p hp1 hp2 => ?_⟩
    · show fX2_makeFunction_11 (fX2_makeFunction_11L f) (nI d) (nI pd) (nI k) (sA X 33 g) = _
      unfold fX2_makeFunction_11
      rw [if_neg (nt (by omega)), x_secondBelow (X := sA X 33 g) (n := en M (pl - 1 - k)) hxs (by omega) (by show zA X 29 _ = _; rw [g4.2.2.1 _ (by omega), hke.2.1]) hke.1, zbd_r, nsub (by omega), x_give (by omega), zbd_r, wA_sA, nadd]
      have : zA (sA X 33 g) 27 (en M (pl - 1 - k)) = zA M 26 (en M (pl - 1 - k)) := hkr.2.2.1
      rw [this]
      exact q1
    · rw [q2 p (by omega), updN _ _ (by omega)]
    · by_cases q : k = p + 1
      · subst q
        rw [q2 p (by omega)]
        exact updS _ _ _
      · exact q3 p (by omega) hp2
/-- the EXPR is MADE, from its first deed to its last -/
theorem make_loop {nd d pd ns pl : Nat} {X0 M0 : zSt} {l0 b e : Nat} {hg rm : Nat → Nat} {enc : Nat → List Nat} {lev : Nat → Nat} (hd : d < 20) (hnd : nd ≤ 20) (hpd : pd ≤ 8) (hC : COK nd pd ns X0 M0 b e hg rm enc lev) (hG : Gv pd pl X0 M0) (hdef : ∀ j, j < nd → lvn M0 (nI j)) (hnd0 : 0 < nd) (h7 : zA M0 7 d = nI e) :
    ∀ (c i l fx fm : Nat) (X M : zSt), i + c = e → b ≤ i → l + rm i ≤ 400 → c < fx → c + 401 < fm → MK nd d X0 M0 l0 X M (hg i) l (Aq ns M0 enc lev i) →
      ∃ X' M', MK nd d X0 M0 l0 X' M' 1 (l + rm i) (Aq ns M0 enc lev e) ∧ fX3_make_31L fx (nI e, nI i, X) = some (zA M' 33 0, wI X' 26 (nI 0)) ∧ ∀ ve, fX10_build_27L fm (nI d, nI (hg i), ve, nI i, M) = fX10_build_27L (fm - c) (nI d, nI 1, ve, nI e, M') := by
  intro c
  induction c with
  | zero =>
    intro i l fx fm X M hi h1 hl hfx hfm H
    obtain rfl : i = e := by omega
    obtain ⟨c1, c2, c3, c4, c5, c6, c7, c8, c9, c10, c11⟩ := hC
    obtain ⟨fx, rfl⟩ : ∃ n', fx = n' + 1 := ⟨fx - 1, by omega⟩
    rw [c4] at H
    refine ⟨X, M, by rw [c5, Nat.add_zero]; exact H, ?_, fun ve => by rw [c4]; rfl⟩
    show fX3_make_31 (fX3_make_31L fx) (nI i) (nI i) X = _
    unfold fX3_make_31
    rw [if_pos (qle (by omega)), x_take H.2.2.2.1 (by omega) (by omega), zbd_r, (H.2.2.2.2.1 0 (by omega)).1]
  | succ c ih =>
    intro i l fx fm X M hi h1 hl hfx hfm H
    obtain ⟨fx, rfl⟩ : ∃ n', fx = n' + 1 := ⟨fx - 1, by omega⟩
    obtain ⟨fm, rfl⟩ : ∃ n', fm = n' + 1 := ⟨fm - 1, by omega⟩
    have he8 := hC.2.2.2.2.2.2.2.1
    obtain ⟨X1, M1, q1, q2, q3, q4⟩ := make_step hd hnd hpd hC hG hdef hnd0 h1 (by omega) hl (by omega) H (fm := fm)
    obtain ⟨X', M', r1, r2, r3⟩ := ih (i + 1) (l + rm i - rm (i + 1)) fx fm X1 M1 (by omega) (by omega) (by omega) (by omega) (by omega) q1
    refine ⟨X', M', ?_, ?_, fun ve => ?_⟩
    · have : l + rm i - rm (i + 1) + rm (i + 1) = l + rm i := by omega
      rw [this] at r1; exact r1
    · show fX3_make_31 (fX3_make_31L fx) (nI e) (nI i) X = _
      unfold fX3_make_31
      rw [if_neg (nl (by omega))]
      obtain ⟨v, hv1, hv2⟩ : ∃ v, fX4_aboutAt (nI i) X = some (v, X) ∧ fX3_doDeed (nI i) v X = some ((), X1) := by
        rw [x_aboutAt (by omega), zbd_r] at q3
        exact ⟨_, x_aboutAt (by omega), q3⟩
      rw [hv1, zbd_r, hv2, zbd_r, nadd]
      exact r2
    · rw [q4 ve h7, r3 ve]
      have : fm + 1 - (c + 1) = fm - c := by omega
      rw [this]
