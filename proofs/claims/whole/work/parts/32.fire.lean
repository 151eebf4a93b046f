theorem pit_frame' {nd : Nat} {M M' : zSt} (hW : Wg nd M) (h : ∀ n, n < 400 → zA M 24 n = nI 6 → zA M' 24 n = nI 6 ∧ zA M' 25 n = zA M 25 n) : ∀ (c a : Nat), a < 400 → zA M 24 a ≠ nI 7 → (∀ x, x < c → zA M 24 (pit M x a) = nI 6) → pit M' c a = pit M c a ∧ ∀ x, x < c → zA M' 24 (pit M' x a) = nI 6 := by
  intro c
  induction c with
  | zero => intro a _ _ _; exact ⟨rfl, fun x hx => absurd hx (Nat.not_lt_zero _)⟩
  | succ c ih =>
    intro a ha hl h6
    have h0 := h a ha (h6 0 (by omega))
    have hl0 := (hW.p6 ha (h6 0 (by omega))).lt
    have e : (zA M' 25 a).toNatClampNeg = (zA M 25 a).toNatClampNeg := by rw [h0.2]
    obtain ⟨i1, i2⟩ := ih (fs M a) hl0.1 hl0.2.2 (fun x hx => h6 (x + 1) (by omega))
    constructor
    · show pit M' c (zA M' 25 a).toNatClampNeg = pit M c (zA M 25 a).toNatClampNeg
      rw [e]; exact i1
    · intro x hx
      cases x with
      | zero => exact h0.1
      | succ x =>
        show zA M' 24 (pit M' x (zA M' 25 a).toNatClampNeg) = nI 6
        rw [e]; exact i2 x (by omega)
theorem chn_frame' {nd : Nat} {M M' : zSt} (hW : Wg nd M) (h : ∀ n, n < 400 → zA M 24 n = nI 6 → zA M' 24 n = nI 6 ∧ zA M' 25 n = zA M 25 n) {a b : Nat} (ha : a < 400) (hl : zA M 24 a ≠ nI 7) (hc : chn M a b) : chn M' a b := by
  obtain ⟨c, h1, h2⟩ := hc
  obtain ⟨i1, i2⟩ := pit_frame' hW h c a ha hl h1
  exact ⟨c, i2, by rw [i1]; exact h2⟩
/-- on the stacks there is no POINTER but perhaps the top at hand -/
theorem nonptr {M : zSt} {pl sk : Nat} {bs : Nat → Nat} (h : MS M pl sk bs) (hS : Sp M pl sk bs) (hD : Dp M pl sk bs) : ∀ x, x < pl → (x = pl - 1 ∨ zA M 24 (en M x) = nI 1 ∨ ∃ j, j + 1 < sk ∧ x = bs (j + 1) - 1 ∧ zA M 24 (en M x) = nI 3) := by
  intro x hx
  obtain ⟨j, h1, h2, h3⟩ := h.stk hx
  by_cases q : x + 1 < hi pl sk bs j
  · exact Or.inr (Or.inl (hS j h1 x h2 q).1)
  · unfold hi at h3 q
    by_cases q2 : j + 1 < sk
    · rw [if_pos q2] at h3 q
      obtain ⟨p, k, a1, a2⟩ := hD j q2
      have e : x = bs (j + 1) - 1 := by omega
      exact Or.inr (Or.inr ⟨j, q2, e, by rw [e]; exact a1⟩)
    · rw [if_neg q2] at h3 q
      exact Or.inl (by omega)
theorem root_unique {nd : Nat} {X M : zSt} {pl sk n : Nat} {bs : Nat → Nat} (hW : Wg nd M) (h : MS M pl sk bs) (hS : Sp M pl sk bs) (hD : Dp M pl sk bs) (hn : n < pl - bs (sk - 1))
    (ht : (zA M 24 (en M (pl - 1)) = nI 2) ∨ (zA M 24 (en M (pl - 1)) = nI 3 ∧ ∃ p, zA M 25 (en M (pl - 1)) = nI p ∧ p < 13 ∧ n = wnt p ∧ ∀ k, 1 ≤ k → k ≤ mny p → ∃ rr, fol M (tn M pl k) = some rr ∧ vl M rr = true)) :
    ∀ i, i < pl → i ≠ pl - 1 - n → en M i ≠ en M (pl - 1 - n) := by
  have hsk := h.2.2.1
  have hskl := h.skle
  have hpl := h.2.2.2.1
  have hbl := h.2.2.2.2.2.2.2.1
  have hcur : hi pl sk bs (sk - 1) = pl := by unfold hi; rw [if_neg (by omega)]
  have htop : zA M 24 (en M (pl - 1)) = nI 2 ∨ zA M 24 (en M (pl - 1)) = nI 3 := ht.elim Or.inl (fun z => Or.inr z.1)
  have np : ∀ x, x < pl → zA M 24 (en M x) ≠ nI 6 := by
    intro x hx
    rcases nonptr h hS hD x hx with q | q | ⟨j, -, -, q⟩
    · rw [q]; rcases htop with z | z <;> rw [z] <;> decide
    · rw [q]; decide
    · rw [q]; decide
  intro i hi0 hir e
  obtain ⟨j, j1, j2, j3⟩ := h.stk hi0
  have hlej := (h.hile j1).2
  by_cases n0 : n = 0
  · subst n0
    have e2 : zA M 24 (en M (pl - 1)) = nI 2 := by
      rcases ht with z | ⟨-, p, -, -, z, -⟩
      · exact z
      · have := wnt_pos p; omega
    rw [Nat.sub_zero] at e hir
    rcases nonptr h hS hD i hi0 with q | q | ⟨j, -, -, q⟩
    · exact hir q
    · rw [e, e2] at q; exact absurd q (by decide)
    · rw [e, e2] at q; exact absurd q (by decide)
  · -- the root is an APPLY
    have hr1 : zA M 24 (en M (pl - 1 - n)) = nI 1 := (hS (sk - 1) (by omega) (pl - 1 - n) (by omega) (by rw [hcur]; omega)).1
    have hm : i + 1 < hi pl sk bs j := by
      rcases Nat.lt_or_ge (i + 1) (hi pl sk bs j) with z | z
      · exact z
      · exfalso
        unfold hi at j3 z
        by_cases q2 : j + 1 < sk
        · rw [if_pos q2] at j3 z
          obtain ⟨p, k, a1, -⟩ := hD j q2
          have : i = bs (j + 1) - 1 := by omega
          rw [← this, e, hr1] at a1
          exact absurd a1 (by decide)
        · rw [if_neg q2] at j3 z
          have : i = pl - 1 := by omega
          rw [this] at e
          rw [e, hr1] at htop
          rcases htop with z | z <;> exact absurd z (by decide)
    have ld := lead hS j1 (show sk - 1 < sk by omega) j2 (show bs (sk - 1) ≤ pl - 1 - n by omega) e np hlej (by rw [hcur]; omega)
    rw [hcur] at ld
    -- the distances to the tops are equal
    rcases Nat.lt_trichotomy (hi pl sk bs j - 1 - i) n with q | q | q
    · have e1 := ld (hi pl sk bs j - 1 - i) (by omega) (by omega)
      have e2 : i + (hi pl sk bs j - 1 - i) = hi pl sk bs j - 1 := by omega
      rw [e2] at e1
      have a := (hS (sk - 1) (by omega) (pl - 1 - n + (hi pl sk bs j - 1 - i)) (by omega) (by rw [hcur]; omega)).1
      rw [← e1] at a
      unfold hi at a
      by_cases q2 : j + 1 < sk
      · rw [if_pos q2] at a
        obtain ⟨p, k, a1, -⟩ := hD j q2
        rw [a] at a1
        exact absurd a1 (by decide)
      · rw [if_neg q2] at a
        rw [a] at htop
        rcases htop with z | z <;> exact absurd z (by decide)
    · -- same distance
      have e1 := ld n (by omega) (by omega)
      have e2 : pl - 1 - n + n = pl - 1 := by omega
      rw [e2] at e1
      by_cases q2 : j + 1 < sk
      · have hij : hi pl sk bs j = bs (j + 1) := by unfold hi; rw [if_pos q2]
        rw [hij] at q j3 hm ld
        obtain ⟨p', k, a1, a2, a3, a4, a5, a6, a7, a8⟩ := hD j q2
        have e3 : i + n = bs (j + 1) - 1 := by omega
        rw [e3] at e1
        rcases ht with z | ⟨z1, p, z2, z3, z4, z5⟩
        · rw [e1, z] at a1
          exact absurd a1 (by decide)
        · rw [e1, z2] at a2
          obtain rfl : p = p' := (neq (by omega) (by omega)).mp a2
          obtain ⟨rr, f1, f2⟩ := z5 k a6 a7
          have hml := mny_le p a3 a4
          have e4 := ld (n - k) (by omega) (by omega)
          have e5 : i + (n - k) = bs (j + 1) - 1 - k := by omega
          have e6 : pl - 1 - n + (n - k) = pl - 1 - k := by omega
          rw [e5, e6] at e4
          rw [e4] at a8
          -- the thing leads to the lowest of the next stack, which is no value
          have hb1 : bs (j + 1) < pl := h.bslt q2
          obtain ⟨g1, g2⟩ := chn_fol f1
          have e7 := chn_det g1 g2 a8 (np _ hb1)
          have hv : vl M (en M (bs (j + 1))) = false := by
            by_cases q3 : j + 1 + 1 < sk
            · obtain ⟨p2, k2, b1, b2, b3, b4, b5, -⟩ := hD (j + 1) q3
              have hh : hi pl sk bs (j + 1) = bs (j + 1 + 1) := by unfold hi; rw [if_pos q3]
              exact vl_spine (X := X) hW h hS q2 (p := p2) (by rw [hh]; exact b1) (by rw [hh]; exact b2) b3 9 0 (bs (j + 1)) (Nat.le_refl _) (h.hile q2).1 (by rw [hh]; omega) (by omega)
            · have hj1 : j + 1 = sk - 1 := by omega
              have hh : hi pl sk bs (j + 1) = pl := by unfold hi; rw [if_neg q3]
              exact vl_spine (X := X) hW h hS q2 (p := p) (by rw [hh]; exact z1) (by rw [hh]; exact z2) z3 9 0 (bs (j + 1)) (Nat.le_refl _) (h.hile q2).1 (by rw [hh, hj1]; omega) (by omega)
          rw [e7, hv] at f2
          exact absurd f2 (by decide)
      · have hij : hi pl sk bs j = pl := by unfold hi; rw [if_neg q2]
        rw [hij] at q
        exact hir (by omega)
    · have e1 := ld n (by omega) (by omega)
      have e2 : pl - 1 - n + n = pl - 1 := by omega
      rw [e2] at e1
      have a := (hS j j1 (i + n) (by omega) (by omega)).1
      rw [e1] at a
      rw [a] at htop
      rcases htop with z | z <;> exact absurd z (by decide)
/-- a redex is done: its root becomes another thing, the STACK is cut down to it -/
theorem fire {nd : Nat} {M M' : zSt} {pl sk r w : Nat} {bs : Nat → Nat} (hW : Wg nd M) (h : MS M pl sk bs) (hS : Sp M pl sk bs) (hD : Dp M pl sk bs) (hr : r < pl) (hbr : bs (sk - 1) ≤ r)
    (ho : ∀ n, n < 400 → zA M 24 n ≠ nI 7 → n ≠ en M r → zA M' 24 n = zA M 24 n ∧ zA M' 25 n = zA M 25 n ∧ zA M' 26 n = zA M 26 n)
    (he : ∀ i, i < r → en M' i = en M i) (hw : en M' r = w) (hc : w = en M r ∨ (zA M' 24 (en M r) = nI 6 ∧ fs M' (en M r) = w)) (h6 : zA M 24 (en M r) ≠ nI 6) (hu : ∀ i, i < r → en M i ≠ en M r) :
    Sp M' (r + 1) sk bs ∧ Dp M' (r + 1) sk bs := by
  have hsk := h.2.2.1
  have frm : ∀ n, n < 400 → zA M 24 n = nI 6 → zA M' 24 n = nI 6 ∧ zA M' 25 n = zA M 25 n := by
    intro n hn q
    have := ho n hn (by rw [q]; decide) (fun z => h6 (by rw [← z]; exact q))
    exact ⟨by rw [this.1]; exact q, this.2.1⟩
  have toRoot : ∀ a, chn M' a (en M r) → chn M' a w := by
    intro a ha
    rcases hc with z | ⟨z1, z2⟩
    · rw [z]; exact ha
    · rw [← z2]; exact chn_ext ha z1
  have bsr : ∀ j, j < sk → bs j ≤ r := by
    intro j hj
    have := h.bsmono (sk - 1 - j) j (by omega)
    have e : j + (sk - 1 - j) = sk - 1 := by omega
    rw [e] at this
    omega
  constructor
  · intro j hj i h1 h2
    have hi2 : i + 1 ≤ r ∧ i + 1 < hi pl sk bs j := by
      unfold hi at h2 ⊢
      by_cases q : j + 1 < sk
      · rw [if_pos q] at h2 ⊢
        have := bsr (j + 1) q
        exact ⟨by omega, h2⟩
      · rw [if_neg q] at h2 ⊢
        exact ⟨by omega, by omega⟩
    obtain ⟨a, b⟩ := hS j hj i h1 hi2.2
    have hei := h.ent (i := i) (by omega)
    have o := ho _ hei.1 hei.2.2 (hu i (by omega))
    have hf := (hW.p1 hei.1 a).1.lt
    have b' := chn_frame' hW frm hf.1 hf.2.2 b
    rw [he i (by omega)]
    refine ⟨by rw [o.1]; exact a, ?_⟩
    have ef : fs M' (en M i) = fs M (en M i) := by show (zA M' 25 _).toNatClampNeg = _; rw [o.2.1]
    rw [ef]
    by_cases q : i + 1 < r
    · rw [he (i + 1) q]; exact b'
    · have e : i + 1 = r := by omega
      rw [e] at b' ⊢
      rw [hw]; exact toRoot _ b'
  · intro j hj
    obtain ⟨p, k, a1, a2, a3, a4, a5, a6, a7, a8⟩ := hD j hj
    have hb := bsr (j + 1) hj
    have hml := mny_le p a3 a4
    have hlt := h.2.2.2.2.2.2.1 j hj
    have ht := h.ent (i := bs (j + 1) - 1) (by omega)
    have o := ho _ ht.1 ht.2.2 (hu _ (by omega))
    have hk := h.ent (i := bs (j + 1) - 1 - k) (by omega)
    have ok := ho _ hk.1 hk.2.2 (hu _ (by omega))
    have hA := (hS j (by omega) (bs (j + 1) - 1 - k) (by omega) (by unfold hi; rw [if_pos hj]; omega)).1
    have hs := (hW.p1 hk.1 hA).2.lt
    have b' := chn_frame' hW frm hs.1 hs.2.2 a8
    refine ⟨p, k, ?_, ?_, a3, a4, a5, a6, a7, ?_⟩
    · rw [he _ (by omega), o.1]; exact a1
    · rw [he _ (by omega), o.2.1]; exact a2
    · rw [he (bs (j + 1) - 1 - k) (by omega)]
      have ef : sn M' (en M (bs (j + 1) - 1 - k)) = sn M (en M (bs (j + 1) - 1 - k)) := by show (zA M' 26 _).toNatClampNeg = _; rw [ok.2.2]
      rw [ef]
      by_cases q : bs (j + 1) < r
      · rw [he _ q]; exact b'
      · have e : bs (j + 1) = r := by omega
        rw [e] at b' ⊢
        rw [hw]; exact toRoot _ b'
