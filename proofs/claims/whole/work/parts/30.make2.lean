/-- one deed of the class and one of the reference -/
def Cop (nd pd ns : Nat) (X M : zSt) (hg rm : Nat → Nat) (enc : Nat → List Nat) (lev : Nat → Nat) (i : Nat) : Prop :=
  (zA X 17 i = nI 0 ∧ zA M 9 i = nI 1 ∧ zA X 18 i = zA M 10 i ∧ hg (i + 1) = hg i + 1 ∧ rm i = rm (i + 1) + 1 ∧ ∀ l, l ∈ enc (i + 1) → l ∈ enc i)
  ∨ (zA X 17 i = nI 1 ∧ zA X 18 i = nI 8 ∧ zA M 9 i = nI 2 ∧ hg (i + 1) = hg i + 1 ∧ rm i = rm (i + 1) + 1 ∧ ∀ l, l ∈ enc (i + 1) → l ∈ enc i)
  ∨ (∃ p, p < 13 ∧ p ≠ 8 ∧ zA X 17 i = nI 1 ∧ zA X 18 i = nI p ∧ zA M 9 i = nI 3 ∧ zA M 10 i = nI p ∧ hg (i + 1) = hg i + 1 ∧ rm i = rm (i + 1) + 1 ∧ ∀ l, l ∈ enc (i + 1) → l ∈ enc i)
  ∨ (∃ j, j < nd ∧ zA X 17 i = nI 2 ∧ zA X 18 i = nI j ∧ zA M 9 i = nI 5 ∧ zA M 10 i = nI j ∧ hg (i + 1) = hg i + 1 ∧ rm i = rm (i + 1) ∧ ∀ l, l ∈ enc (i + 1) → l ∈ enc i)
  ∨ (∃ p, p < pd ∧ zA X 17 i = nI 3 ∧ zA X 18 i = nI p ∧ zA M 9 i = nI 6 ∧ zA M 10 i = nI (p + 1) ∧ hg (i + 1) = hg i + 1 ∧ rm i = rm (i + 1) ∧ ∀ l, l ∈ enc (i + 1) → l ∈ enc i)
  ∨ (∃ l s, l ∈ enc i ∧ s < ns ∧ zA M 22 s = nI l ∧ zA X 17 i = nI 4 ∧ zA X 18 i = nI (6 * lev l + rk M l s) ∧ zA M 9 i = nI 7 ∧ zA M 10 i = nI s ∧ hg (i + 1) = hg i + 1 ∧ rm i = rm (i + 1) ∧ ∀ l, l ∈ enc (i + 1) → l ∈ enc i)
  ∨ (∃ n, 2 ≤ n ∧ n ≤ 10 ∧ n ≤ hg i ∧ zA X 17 i = nI 5 ∧ zA X 18 i = nI n ∧ zA M 9 i = nI 8 ∧ zA M 10 i = nI n ∧ hg (i + 1) = hg i - n + 1 ∧ rm i = rm (i + 1) + (n - 1) ∧ ∀ l, l ∈ enc (i + 1) → l ∈ enc i)
  ∨ (∃ l, l < 1000 ∧ zA X 17 i = nI 6 ∧ zA X 18 i = nI (rk M l ns) ∧ zA X 19 i = nI (6 * lev l) ∧ zA M 9 i = nI 9 ∧ zA M 10 i = nI l ∧ hg (i + 1) = hg i ∧ rm i = rm (i + 1) + rk M l ns ∧ lev l < 12 ∧ rk M l ns ≤ 6 ∧ (∀ l', l' ∈ enc i → l' ≠ l ∧ lev l' ≠ lev l) ∧ ∀ l', l' ∈ enc (i + 1) → l' = l ∨ l' ∈ enc i)
  ∨ (∃ l s, l ∈ enc i ∧ s < ns ∧ zA M 22 s = nI l ∧ 1 ≤ hg i ∧ zA X 17 i = nI 7 ∧ zA X 18 i = nI (6 * lev l + rk M l s) ∧ zA M 9 i = nI 10 ∧ zA M 10 i = nI s ∧ hg (i + 1) = hg i - 1 ∧ rm i = rm (i + 1) ∧ ∀ l, l ∈ enc (i + 1) → l ∈ enc i)
/-- the code of a DEFINITION in both -/
def COK (nd pd ns : Nat) (X M : zSt) (b e : Nat) (hg rm : Nat → Nat) (enc : Nat → List Nat) (lev : Nat → Nat) : Prop :=
  zI M 11 = nI ns ∧ ns ≤ 300 ∧ hg b = 0 ∧ hg e = 1 ∧ rm e = 0 ∧ (∀ l, l ∉ enc b) ∧ b ≤ e ∧ e ≤ 800 ∧ (∀ i, b ≤ i → i ≤ e → hg i ≤ 120) ∧ (∀ i l, l ∈ enc i → l < 1000 ∧ lev l < 12 ∧ rk M l ns ≤ 6) ∧ ∀ i, b ≤ i → i < e → Cop nd pd ns X M hg rm enc lev i
def Aq (ns : Nat) (M : zSt) (enc : Nat → List Nat) (lev : Nat → Nat) (i : Nat) : Nat → Nat → Prop := fun x s => s < ns ∧ ∃ l, l ∈ enc i ∧ zA M 22 s = nI l ∧ x = 6 * lev l + rk M l s
theorem x_deedAt {X : zSt} {i : Nat} (h : i < 800) : fX4_deedAt (nI i) X = some (zA X 17 i, X) := by
  unfold fX4_deedAt fX4_isDeed
  rw [if_neg (nneg (by omega)), if_neg (nl (by omega)), zbd_r, if_neg (by decide), zld_n h (by omega)]
theorem x_aboutAt {X : zSt} {i : Nat} (h : i < 800) : fX4_aboutAt (nI i) X = some (zA X 18 i, X) := by
  unfold fX4_aboutAt fX4_isDeed
  rw [if_neg (nneg (by omega)), if_neg (nl (by omega)), zbd_r, if_neg (by decide), zld_n h (by omega)]
theorem x_firstSlotAt {X : zSt} {i : Nat} (h : i < 800) : fX4_firstSlotAt (nI i) X = some (zA X 19 i, X) := by
  unfold fX4_firstSlotAt fX4_isDeed
  rw [if_neg (nneg (by omega)), if_neg (nl (by omega)), zbd_r, if_neg (by decide), zld_n h (by omega)]
theorem x_take {X : zSt} {h : Nat} (h4 : zI X 26 = nI h) (h1 : 1 ≤ h) (h2 : h ≤ 130) : fX3_takeWaiting X = some (zA X 35 (h - 1), wI X 26 (nI (h - 1))) := by
  unfold fX3_takeWaiting
  rw [h4, if_neg (nt (by omega)), if_pos (qle (by omega)), nsub (by omega), zld_n (by omega) (by omega)]
/-- what a PARAMETER is: the reference reads it when it is used, the class ahead -/
def Gv (pd pl : Nat) (X0 M0 : zSt) : Prop := pl ≤ 600 ∧ pd < pl ∧ zI M0 18 = nI pl ∧ ∀ p, p < pd → lvn M0 (zA M0 30 (pl - 1 - (p + 1))) ∧ zA X0 33 p = zA M0 26 (en M0 (pl - 1 - (p + 1))) ∧ lvn M0 (zA M0 26 (en M0 (pl - 1 - (p + 1))))
theorem lvn_old {M0 M : zSt} (h : oldM M0 M) {v : Int32} (hv : lvn M0 v) : lvn M v := by
  obtain ⟨k, h1, h2, h3⟩ := hv
  exact ⟨k, h1, h2, by rw [(h k h1 h3).1]; exact h3⟩
theorem apply_all {nd d : Nat} {X0 M0 X M : zSt} {l0 h l n fm : Nat} {A : Nat → Nat → Prop} {x4 : Int32} (hd : d < 20) (hn : n ≤ h) (hn2 : 2 ≤ n) (hh : h ≤ 120) (hl : l + (n - 1) ≤ 400) (H : MK nd d X0 M0 l0 X M h l A) :
    ∃ X' M', MK nd d X0 M0 l0 X' M' (h - n + 1) (l + (n - 1)) A ∧ fX3_applyWaiting (nI n) X = some ((), X') ∧ ∀ x3 : Int32, zld 600 (nI h - nI n) (zA M 33) (fun v23 => fX10_build_236L (fX10_build_27L fm) zFU (nI d, nI h - nI n, x3, x4, nI n, v23, nI 1, M)) = fX10_build_27L fm (nI d, nI (h - n + 1), x3, x4 + nI 1, M') := by
  have hw := H.2.2.2.2.1 (h - n) (by omega)
  obtain ⟨v', X', M', r1, r2, r3, r4⟩ := apply_loopQ (x4 := x4) (fm0 := fm) hd hn (by omega) (n - 1) 1 l zFU zFU (zA M 33 (h - n)) X M (by omega) (by omega) (by omega) (by rw [zFU_s]; omega) (by rw [zFU_s]; omega) H hw.2
  obtain ⟨w1, w2⟩ := MK_wait (MK_low r1 (h' := h - n) (by omega)) (by omega) r2
  refine ⟨_, _, w2, ?_, fun x3 => ?_⟩
  · unfold fX3_applyWaiting
    rw [H.2.2.2.1, nsub hn, if_neg (nneg (by omega)), if_pos (pt (by omega)), zld_n (by omega) (by omega), hw.1, nadd, r3]
    unfold fX3_applyWaiting_75
    rw [w1, zbd_r]
  · rw [nsub hn, zld_n (by omega) (by omega), r4]
theorem let_all {nd d : Nat} {X0 M0 X M : zSt} {l0 h l ns lt f0 many : Nat} {A : Nat → Nat → Prop} {fm : Nat} {x4 : Int32} (hd : d < 20) (hns : ns ≤ 300) (hI : zI M0 11 = nI ns) (hlt : lt < 1000) (hmany : many = rk M0 lt ns) (hf0 : f0 + many ≤ 72) (hz : lvn M0 (nI 0))
    (hA : ∀ x s, A x s → zA M0 22 s ≠ nI lt ∧ (x < f0 ∨ f0 + many ≤ x)) (hl : l + many ≤ 400) (H : MK nd d X0 M0 l0 X M h l A) :
    ∃ X' M', MK nd d X0 M0 l0 X' M' h (l + many) (fun x s' => (s' < ns ∧ zA M0 22 s' = nI lt ∧ x = f0 + rk M0 lt s') ∨ A x s') ∧ fX3_addPointers (nI f0) (nI many) X = some ((), X') ∧ ∀ x3 : Int32, fX10_build_285L (fX10_build_27L fm) zFU (nI d, nI h, x3, x4, nI lt, nI 0, M) = fX10_build_27L fm (nI d, nI h, x3, x4 + nI 1, M') := by
  have e0 : rk M0 lt 0 = 0 := rfl
  obtain ⟨X', M', r1, r2, r3⟩ := let_loopQ (fm0 := fm) (x4 := x4) hd hns hI hlt hmany hf0 hz hA ns 0 l zFU zFU X M (by omega) (by rw [e0]; omega) (by rw [zFU_s]; omega) (by rw [zFU_s]; omega) (MK_sub H (fun x s hx => hx.elim (fun z => absurd z.1 (Nat.not_lt_zero _)) id))
  rw [e0, Nat.sub_zero] at r1
  exact ⟨X', M', r1, r2, r3⟩
theorem make_step {nd d pd ns pl : Nat} {X0 M0 X M : zSt} {l0 l b e i fm : Nat} {hg rm : Nat → Nat} {enc : Nat → List Nat} {lev : Nat → Nat} (hd : d < 20) (hnd : nd ≤ 20) (hpd : pd ≤ 8) (hC : COK nd pd ns X0 M0 b e hg rm enc lev) (hG : Gv pd pl X0 M0) (hdef : ∀ j, j < nd → lvn M0 (nI j)) (hnd0 : 0 < nd)
    (hi1 : b ≤ i) (hi2 : i < e) (hl : l + rm i ≤ 400) (hfm : 400 < fm) (H : MK nd d X0 M0 l0 X M (hg i) l (Aq ns M0 enc lev i)) :
    ∃ X' M', MK nd d X0 M0 l0 X' M' (hg (i + 1)) (l + rm i - rm (i + 1)) (Aq ns M0 enc lev (i + 1)) ∧ rm (i + 1) ≤ rm i ∧ zbd (fX4_aboutAt (nI i) X) (fun r9 S10 => fX3_doDeed (nI i) r9 S10) = some ((), X')
      ∧ ∀ ve, zA M0 7 d = nI e → fX10_build_27L (fm + 1) (nI d, nI (hg i), ve, nI i, M) = fX10_build_27L fm (nI d, nI (hg (i + 1)), ve, nI (i + 1), M') := by
  obtain ⟨c1, c2, c3, c4, c5, c6, c7, c8, c9, c10, c11⟩ := hC
  have hop := c11 i hi1 hi2
  have hhi := c9 i hi1 (by omega)
  have hhi' := c9 (i + 1) (by omega) (by omega)
  have sX := H.2.2.2.2.2.2.2.1
  have sM := H.2.2.2.2.2.2.2.2.1
  have old := H.2.2.2.2.2.2.1
  have aX17 : zA X 17 = zA X0 17 := sX.1 17 (by decide)
  have aX18 : zA X 18 = zA X0 18 := sX.1 18 (by decide)
  have aX19 : zA X 19 = zA X0 19 := sX.1 19 (by decide)
  have aM9 : zA M 9 = zA M0 9 := sM.1 9 (by decide)
  have aM10 : zA M 10 = zA M0 10 := sM.1 10 (by decide)
  have aM7 : zA M 7 = zA M0 7 := sM.1 7 (by decide)
  have hm : ∀ ve : Int32, zA M0 7 d = nI e → fX10_build_27L (fm + 1) (nI d, nI (hg i), ve, nI i, M) = (if zA M0 9 i = (nI 1) then
      zbd (fX10_node (nI 0) (zA M0 10 i) (-3 : Int32) (nI d) M) (fun r12 S13 => zck 600 (nI (hg i)) (fX10_build_27L fm (nI d, (nI (hg i) + (nI 1)), ve, (nI i + (nI 1)), wA S13 33 ((nI (hg i)).toNatClampNeg) r12)))
    else if zA M0 9 i = (nI 2) then
      zbd (fX10_node (nI 5) (nI 0) (-3 : Int32) (nI d) M) (fun r14 S15 => zck 600 (nI (hg i)) (fX10_build_27L fm (nI d, (nI (hg i) + (nI 1)), ve, (nI i + (nI 1)), wA S15 33 ((nI (hg i)).toNatClampNeg) r14)))
    else if zA M0 9 i = (nI 3) then
      zbd (fX10_node (nI 3) (zA M0 10 i) (-3 : Int32) (nI d) M) (fun r16 S17 => zck 600 (nI (hg i)) (fX10_build_27L fm (nI d, (nI (hg i) + (nI 1)), ve, (nI i + (nI 1)), wA S17 33 ((nI (hg i)).toNatClampNeg) r16)))
    else if zA M0 9 i = (nI 5) then
      zck 600 (nI (hg i)) (fX10_build_27L fm (nI d, (nI (hg i) + (nI 1)), ve, (nI i + (nI 1)), wA M 33 ((nI (hg i)).toNatClampNeg) (zA M0 10 i)))
    else if zA M0 9 i = (nI 6) then
      zbd (fX10_thing (zA M0 10 i) M) (fun r20 S21 => zck 600 (nI (hg i)) (fX10_build_27L fm (nI d, (nI (hg i) + (nI 1)), ve, (nI i + (nI 1)), wA S21 33 ((nI (hg i)).toNatClampNeg) r20)))
    else if zA M0 9 i = (nI 7) then
      zld 300 (zA M0 10 i) (zA M 34) (fun v22 => zck 600 (nI (hg i)) (fX10_build_27L fm (nI d, (nI (hg i) + (nI 1)), ve, (nI i + (nI 1)), wA M 33 ((nI (hg i)).toNatClampNeg) v22)))
    else if zA M0 9 i = (nI 8) then
      zld 600 (nI (hg i) - zA M0 10 i) (zA M 33) (fun v23 => fX10_build_236L (fX10_build_27L fm) zFU (nI d, (nI (hg i) - zA M0 10 i), ve, nI i, zA M0 10 i, v23, (nI 1), M))
    else if zA M0 9 i = (nI 9) then
      fX10_build_285L (fX10_build_27L fm) zFU (nI d, nI (hg i), ve, nI i, zA M0 10 i, (nI 0), M)
    else
    zld 300 (zA M0 10 i) (zA M 34) (fun v24 => zld 600 (nI (hg i) + (-1 : Int32)) (zA M 33) (fun v25 => zck 400 v24 (fX10_build_27L fm (nI d, (nI (hg i) + (-1 : Int32)), ve, (nI i + (nI 1)), wA M 25 (v24.toNatClampNeg) v25))))) := by
    intro ve h7
    show fX10_build_27 (fX10_build_27L fm) (nI d) (nI (hg i)) ve (nI i) M = _
    unfold fX10_build_27
    rw [aM7, zld_n (by omega) (by omega), h7, if_neg (nl (by omega)), aM10, zld_n (by omega) (by omega), aM9, zld_n (by omega) (by omega)]
  have hxm : ∀ v : Int32, zA X0 18 i = v → zbd (fX4_aboutAt (nI i) X) (fun r9 S10 => fX3_doDeed (nI i) r9 S10) = fX3_doDeed (nI i) v X := by
    intro v hv
    rw [x_aboutAt (by omega), zbd_r, aX18, hv]
  have encS : (∀ l, l ∈ enc (i + 1) → l ∈ enc i) → ∀ x s, Aq ns M0 enc lev (i + 1) x s → Aq ns M0 enc lev i x s := by
    intro hs x s hx
    obtain ⟨a, lt, b', c'⟩ := hx
    exact ⟨a, lt, hs lt b', c'⟩
  -- a node that is made and waits
  have mkw : ∀ (k : Nat) (a b' : Int32), nok nd M k a b' → l < 400 → hg (i + 1) = hg i + 1 → rm i = rm (i + 1) + 1 → (∀ l, l ∈ enc (i + 1) → l ∈ enc i) →
      ∃ q X' M', MK nd d X0 M0 l0 X' M' (hg (i + 1)) (l + rm i - rm (i + 1)) (Aq ns M0 enc lev (i + 1)) ∧ (fX0_add (nI k) a b' X = some (nI q, nX X q (nI k) a b') ∧ fX3_letWait (nI q) (nX X q (nI k) a b') = some ((), X')) ∧ fX10_node (nI k) a b' (nI d) M = some (nI q, nMd M q (nI k) a b' d) ∧ M' = wA (nMd M q (nI k) a b' d) 33 (hg i) (nI q) := by
    intro k a b' hk hl4 hh hr hs
    obtain ⟨q, q1, q2, q2', q3, q4, q5, q6⟩ := MK_add H hd hl4 hk
    obtain ⟨w1, w2⟩ := MK_wait q5 (by omega) q6
    refine ⟨q, _, _, ?_, ⟨q3, w1⟩, q4, rfl⟩
    have e : l + rm i - rm (i + 1) = l + 1 := by omega
    rw [hh, e]
    exact MK_sub w2 (encS hs)
  rcases hop with ⟨o1, o2, o3, o4, o5, o6⟩ | ⟨o1, o2, o3, o4, o5, o6⟩ | ⟨p, p1, p2, o1, o2, o3, o3', o4, o5, o6⟩ | ⟨j, j1, o1, o2, o3, o3', o4, o5, o6⟩ | ⟨p, p1, o1, o2, o3, o3', o4, o5, o6⟩ | ⟨lt, s, s1, s2, s3, o1, o2, o3, o3', o4, o5, o6⟩ | ⟨n, n1, n2, n3, o1, o2, o3, o3', o4, o5, o6⟩ | ⟨lt, lt1, o1, o2, o2', o3, o3', o4, o5, o7, o8, o9, o6⟩ | ⟨lt, s, s1, s2, s3, s4, o1, o2, o3, o3', o4, o5, o6⟩
  · obtain ⟨q, X', M', r1, ⟨r2, r3⟩, r4, r5⟩ := mkw 0 (zA M0 10 i) (-3) (Or.inl rfl) (by omega) o4 o5 o6
    refine ⟨X', M', r1, by omega, ?_, fun ve h7 => ?_⟩
    · rw [hxm _ o3]
      unfold fX3_doDeed
      rw [x_deedAt (by omega), zbd_r, aX17, o1, if_pos rfl, r2, zbd_r, r3, zbd_r]
    · rw [hm ve h7, o2, if_pos rfl, r4, zbd_r, zck_n (by omega) (by omega), ncl (by omega), nadd, nadd, r5, o4]
  · obtain ⟨q, X', M', r1, ⟨r2, r3⟩, r4, r5⟩ := mkw 5 (nI 0) (-3) (Or.inr (Or.inr (Or.inr (Or.inl rfl)))) (by omega) o4 o5 o6
    refine ⟨X', M', r1, by omega, ?_, fun ve h7 => ?_⟩
    · rw [hxm _ o2]
      unfold fX3_doDeed fX3_doDeed_106
      rw [x_deedAt (by omega), zbd_r, aX17, o1, if_neg (by decide), if_pos rfl, if_pos rfl, r2, zbd_r, r3, zbd_r]
    · rw [hm ve h7, o3, if_neg (by decide), if_pos rfl, r4, zbd_r, zck_n (by omega) (by omega), ncl (by omega), nadd, nadd, r5, o4]
  · obtain ⟨q, X', M', r1, ⟨r2, r3⟩, r4, r5⟩ := mkw 3 (nI p) (-3) (Or.inr (Or.inr (Or.inl ⟨rfl, p, p1, p2, rfl⟩))) (by omega) o4 o5 o6
    refine ⟨X', M', r1, by omega, ?_, fun ve h7 => ?_⟩
    · rw [hxm _ o2]
      unfold fX3_doDeed fX3_doDeed_106
      rw [x_deedAt (by omega), zbd_r, aX17, o1, if_neg (by decide), if_pos rfl, if_neg (nq p2), r2, zbd_r, r3, zbd_r]
    · rw [hm ve h7, o3, o3', if_neg (by decide), if_neg (by decide), if_pos rfl, r4, zbd_r, zck_n (by omega) (by omega), ncl (by omega), nadd, nadd, r5, o4]
  · obtain ⟨w1, w2⟩ := MK_wait H (by omega) (lvn_old old (hdef j j1))
    have e : l + rm i - rm (i + 1) = l := by omega
    refine ⟨_, _, by rw [o4, e]; exact MK_sub w2 (encS o6), by omega, ?_, fun ve h7 => ?_⟩
    · rw [hxm _ o2]
      unfold fX3_doDeed
      rw [x_deedAt (by omega), zbd_r, aX17, o1, if_neg (by decide), if_neg (by decide), if_pos rfl, w1, zbd_r]
    · rw [hm ve h7, o3, o3', if_neg (by decide), if_neg (by decide), if_neg (by decide), if_pos rfl, zck_n (by omega) (by omega), ncl (by omega), nadd, nadd, o4]
  · obtain ⟨g0, g0', g1, g2⟩ := hG
    obtain ⟨g3, g4, g5⟩ := g2 p p1
    have gl := g3.lt
    have g30 : zA M 30 = zA M0 30 := sM.1 30 (by decide)
    have g18 : zI M 18 = nI pl := by rw [sM.2.1 18 (by decide)]; exact g1
    have g33 : zA X 33 p = zA M0 26 (en M0 (pl - 1 - (p + 1))) := by rw [H.2.2.2.2.2.2.2.2.2.2.2.2.1]; exact g4
    obtain ⟨w1, w2⟩ := MK_wait H (by omega) (lvn_old old g5)
    have e : l + rm i - rm (i + 1) = l := by omega
    refine ⟨_, _, by rw [o4, e]; exact MK_sub w2 (encS o6), by omega, ?_, fun ve h7 => ?_⟩
    · rw [hxm _ o2]
      unfold fX3_doDeed fX3_doDeed_144
      rw [x_deedAt (by omega), zbd_r, aX17, o1, if_neg (by decide), if_neg (by decide), if_neg (by decide), if_pos rfl, if_neg (nneg (by omega)), if_neg (nl (by omega)), zld_n (by omega) (by omega), g33, w1, zbd_r]
    · have et : fX10_thing (nI (p + 1)) M = some (zA M0 26 (en M0 (pl - 1 - (p + 1))), M) := by
        unfold fX10_thing
        rw [g18, nsub (by omega), nsub (by omega), zld_n (by omega) (by omega), g30, gl.2.1, zld_n gl.1 (by omega), (old _ gl.1 gl.2.2).2.2.1]
      rw [hm ve h7, o3, o3', if_neg (by decide), if_neg (by decide), if_neg (by decide), if_neg (by decide), if_pos rfl, et, zbd_r, zck_n (by omega) (by omega), ncl (by omega), nadd, nadd, o4]
  · obtain ⟨t1, t2⟩ := c10 i lt s1
    have hr := rk_lt M0 lt s2 s3
    obtain ⟨g1, q, q1, q2, q3, q4, q5⟩ := H.2.2.2.2.2.1 _ s ⟨s2, lt, s1, s3, rfl⟩
    obtain ⟨w1, w2⟩ := MK_wait H (v := zA M 34 s) (by omega) ⟨q, q1, q2, by rw [q3]; decide⟩
    have e : l + rm i - rm (i + 1) = l := by omega
    refine ⟨_, _, by rw [o4, e]; exact MK_sub w2 (encS o6), by omega, ?_, fun ve h7 => ?_⟩
    · rw [hxm _ o2]
      unfold fX3_doDeed fX3_doDeed_174
      rw [x_deedAt (by omega), zbd_r, aX17, o1, if_neg (by decide), if_neg (by decide), if_neg (by decide), if_neg (by decide), if_pos rfl, if_neg (nneg (by omega)), if_neg (nl (by omega)), zld_n (by omega) (by omega), g1, w1, zbd_r]
    · rw [hm ve h7, o3, o3', if_neg (by decide), if_neg (by decide), if_neg (by decide), if_neg (by decide), if_neg (by decide), if_pos rfl, zld_n (by omega) (by omega), zck_n (by omega) (by omega), ncl (by omega), nadd, nadd, o4]
  · have e : l + rm i - rm (i + 1) = l + (n - 1) := by omega
    have hk : ∃ X' M', MK nd d X0 M0 l0 X' M' (hg i - n + 1) (l + (n - 1)) (Aq ns M0 enc lev i) ∧ fX3_applyWaiting (nI n) X = some ((), X') ∧ ∀ ve, zld 600 (nI (hg i) - nI n) (zA M 33) (fun v23 => fX10_build_236L (fX10_build_27L fm) zFU (nI d, nI (hg i) - nI n, ve, nI i, nI n, v23, nI 1, M)) = fX10_build_27L fm (nI d, nI (hg i - n + 1), ve, nI i + nI 1, M') := apply_all hd n3 n1 hhi (by omega) H
    obtain ⟨X', M', r1, r2, r3⟩ := hk
    refine ⟨X', M', by rw [o4, e]; exact MK_sub r1 (encS o6), by omega, ?_, fun ve h7 => ?_⟩
    · rw [hxm _ o2]
      unfold fX3_doDeed
      rw [x_deedAt (by omega), zbd_r, aX17, o1, if_neg (by decide), if_neg (by decide), if_neg (by decide), if_neg (by decide), if_neg (by decide), if_pos rfl, r2, zbd_r]
    · rw [hm ve h7, o3, o3', if_neg (by decide), if_neg (by decide), if_neg (by decide), if_neg (by decide), if_neg (by decide), if_neg (by decide), if_pos rfl, r3, nadd, o4]
  · have hAl : ∀ x s, Aq ns M0 enc lev i x s → zA M0 22 s ≠ nI lt ∧ (x < 6 * lev lt ∨ 6 * lev lt + rk M0 lt ns ≤ x) := by
      intro x s hx
      obtain ⟨a, l', b', c', e'⟩ := hx
      obtain ⟨u1, u2⟩ := o9 l' b'
      obtain ⟨u3, u4, u5⟩ := c10 i l' b'
      have := rk_lt M0 l' a c'
      refine ⟨fun z => u1 ?_, by omega⟩
      rw [c'] at z
      exact (neq (by omega) (by omega)).mp z
    obtain ⟨X', M', r1, r2, r3⟩ := let_all (fm := fm) (x4 := nI i) hd c2 c1 lt1 rfl (by omega) (hdef 0 hnd0) hAl (by omega) H
    have e : l + rm i - rm (i + 1) = l + rk M0 lt ns := by omega
    refine ⟨X', M', ?_, by omega, ?_, fun ve h7 => ?_⟩
    · rw [o4, e]
      refine MK_sub r1 ?_
      intro x s hx
      obtain ⟨a, l', b', c', e'⟩ := hx
      rcases o6 l' b' with z | z
      · subst z; exact Or.inl ⟨a, c', e'⟩
      · exact Or.inr ⟨a, l', z, c', e'⟩
    · rw [hxm _ o2]
      unfold fX3_doDeed
      rw [x_deedAt (by omega), zbd_r, aX17, o1, if_neg (by decide), if_neg (by decide), if_neg (by decide), if_neg (by decide), if_neg (by decide), if_neg (by decide), if_pos rfl, x_firstSlotAt (by omega), zbd_r, aX19, o2', r2, zbd_r]
    · rw [hm ve h7, o3, o3', if_neg (by decide), if_neg (by decide), if_neg (by decide), if_neg (by decide), if_neg (by decide), if_neg (by decide), if_neg (by decide), if_pos rfl, r3, nadd, o4]
  · obtain ⟨t1, t2⟩ := c10 i lt s1
    have hr := rk_lt M0 lt s2 s3
    obtain ⟨g1, q, q1, q2, q3, q4, q5⟩ := H.2.2.2.2.2.1 _ s ⟨s2, lt, s1, s3, rfl⟩
    have hw := H.2.2.2.2.1 (hg i - 1) (by omega)
    have r1 := MK_first (MK_low H (h' := hg i - 1) (by omega)) q1 q3 q4 q5 hw.2
    have e : l + rm i - rm (i + 1) = l := by omega
    refine ⟨_, _, by rw [o4, e]; exact MK_sub r1 (encS o6), by omega, ?_, fun ve h7 => ?_⟩
    · rw [hxm _ o2]
      unfold fX3_doDeed fX3_bind
      rw [x_deedAt (by omega), zbd_r, aX17, o1, if_neg (by decide), if_neg (by decide), if_neg (by decide), if_neg (by decide), if_neg (by decide), if_neg (by decide), if_neg (by decide), if_pos rfl, x_take H.2.2.2.1 s4 (by omega), zbd_r, if_neg (nneg (by omega)), if_neg (nl (by omega)), zld_n (by omega) (by omega), show zA (wI X 26 (nI (hg i - 1))) 34 = zA X 34 from rfl, g1, q2, x_become q1, zbd_r, hw.1]
      rfl
    · have e1 : nI (hg i) + (-1 : Int32) = nI (hg i - 1) := sb_m1 (by omega)
      rw [hm ve h7, o3, o3', if_neg (by decide), if_neg (by decide), if_neg (by decide), if_neg (by decide), if_neg (by decide), if_neg (by decide), if_neg (by decide), if_neg (by decide), zld_n (by omega) (by omega), e1, zld_n (by omega) (by omega), q2, zck_n q1 (by omega), ncl (by omega), nadd, o4]
