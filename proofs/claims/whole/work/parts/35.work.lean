abbrev Xdn (X : zSt) (pl n ρ K : Nat) (A B : Int32) : zSt := wI (wA (wI (wA (wA (wA X 25 ρ (nI K)) 26 ρ A) 27 ρ B) 19 (nI (pl - (n + 1)))) 29 (pl - (n + 1)) (nI ρ)) 19 (nI (pl - (n + 1) + 1))
abbrev Mdn (M : zSt) (pl n ρ K : Nat) (A B : Int32) : zSt := wA (wI (wA (wA (wA M 24 ρ (nI K)) 25 ρ A) 26 ρ B) 18 (nI (pl - n))) 30 (pl - n - 1) (nI ρ)
abbrev dok (M : zSt) (K : Nat) (A B : Int32) : Prop := K = 0 ∨ (K = 4 ∧ lvn M A ∧ lvn M B) ∨ (K = 6 ∧ lvn M A)
theorem x_bec {X : zSt} {p ρ pl dp b K : Nat} {A B : Int32} (hp : p < 13) (hp8 : p ≠ 8) (h : XS X pl dp b) (hw : wnt p < pl - b) (hρ : ρ < 400) : zbd (fX0_become (nI ρ) (nI K) A B X) (fun _ S8 => fX2_workOut_225 (nI p) (nI ρ) S8) = some ((), Xdn X pl (wnt p) ρ K A B) := by
  rw [x_become hρ, zbd_r, x_225 (X := wA (wA (wA X 25 ρ (nI K)) 26 ρ A) 27 ρ B) hp hp8 h hw]
theorem m_bec {M : zSt} {ρ pl n K : Nat} {A B : Int32} (h : zI M 18 = nI pl) (hn : n < pl) (hpl : pl ≤ 600) (hρ : ρ < 400) : zbd (fX10_become (nI ρ) (nI K) A B M) (fun _ S8 => fX10_compute_415 (nI n) (nI ρ) S8) = some ((), Mdn M pl n ρ K A B) := by
  rw [m_become hρ, zbd_r, m_415 (M := wA (wA (wA M 24 ρ (nI K)) 25 ρ A) 26 ρ B) h hn hpl]
theorem work_sim {nd : Nat} {X M : zSt} {l pl sk p : Nat} {bs : Nat → Nat} (H : RK nd X M l pl sk bs) (k3 : zA M 24 (en M (pl - 1)) = nI 3) (hp : p < 13) (hp8 : p ≠ 8) (hw : wnt p < pl - bs (sk - 1))
    (h1 : 1 ≤ mny p → ∃ r, fol M (tn M pl 1) = some r ∧ vl M r = true ∧ srt p (zA M 24 r) = true ∧ zI X 24 = nI r ∧ ((p = 9 ∨ p = 10) → zA M 24 r ≠ nI 5)) (h2 : 2 ≤ mny p → ∃ r, fol M (tn M pl 2) = some r ∧ vl M r = true ∧ srt p (zA M 24 r) = true ∧ zI X 25 = nI r ∧ (p = 3 → zA M 25 r ≠ 0)) :
    ∃ K A B, dok M K A B ∧ fX2_workOut (nI p) (nI (en M (pl - 1 - wnt p))) X = some ((), Xdn X pl (wnt p) (en M (pl - 1 - wnt p)) K A B) ∧ fX10_compute (nI p) M = some ((), Mdn M pl (wnt p) (en M (pl - 1 - wnt p)) K A B) := by
  obtain ⟨g1, g2, g3, g4, g5, g6, g7, g8⟩ := H
  have hR := g1.1
  have hskl := g3.skle
  have hsk := g3.2.2.1
  have hbl := g3.2.2.2.2.2.2.2.1
  have hpl := g3.2.2.2.1
  have hcur : hi pl sk bs (sk - 1) = pl := by unfold hi; rw [if_neg (by omega)]
  have hxs := g3.xs g4
  have hwp := wnt_pos p
  have hρ := g3.ent (i := pl - 1 - wnt p) (by omega)
  -- things
  have T : ∀ k, 1 ≤ k → k ≤ wnt p → lvn M (zA M 26 (en M (pl - 1 - k))) ∧ fX2_secondBelow (nI k) X = some (zA M 26 (en M (pl - 1 - k)), X) ∧ fX10_thing (nI k) M = some (zA M 26 (en M (pl - 1 - k)), M) := by
    intro k q1 q2
    have hk := g3.ent (i := pl - 1 - k) (by omega)
    have hA := (g5 (sk - 1) (by omega) (pl - 1 - k) (by omega) (by rw [hcur]; omega)).1
    refine ⟨(g2.p1 hk.1 hA).2, ?_, m_thing g3 (by omega)⟩
    rw [x_secondBelow hxs (by omega) (by rw [g4.2.2.1 _ (by omega), hk.2.1]) hk.1, (hR.live hk.1 hk.2.2).2.2.1]
  have F : ∀ k r, 1 ≤ k → k ≤ wnt p → fol M (tn M pl k) = some r → r < 400 ∧ zA M 24 r ≠ nI 7 ∧ fX10_followed (zA M 26 (en M (pl - 1 - k))) M = some (nI r, M) := by
    intro k r q1 q2 hf
    have ht := (T k q1 q2).1.lt
    have hr := fol_live g2 ht.1 ht.2.2 hf
    refine ⟨hr.1, hr.2.1, ?_⟩
    rw [ht.2.1, m_followed g2 ht.1 ht.2.2]
    rw [hf]
    rfl
  have low : zld 600 (zI M 18 - nI 1 - nI (wnt p)) (zA M 30) = fun k : Int32 → Option (Unit × zSt) => k (nI (en M (pl - 1 - wnt p))) := by
    funext k
    rw [g3.1, nsub (by omega), nsub (by omega), zld_n (by omega) (by omega), hρ.2.1]
  have XB : ∀ (K : Nat) (A B : Int32), zbd (fX0_become (nI (en M (pl - 1 - wnt p))) (nI K) A B X) (fun _ S8 => fX2_workOut_225 (nI p) (nI (en M (pl - 1 - wnt p))) S8) = some ((), Xdn X pl (wnt p) (en M (pl - 1 - wnt p)) K A B) := fun K A B => x_bec hp hp8 hxs hw hρ.1
  have MB : ∀ (K : Nat) (A B : Int32), zbd (fX10_become (nI (en M (pl - 1 - wnt p))) (nI K) A B M) (fun _ S8 => fX10_compute_415 (nI (wnt p)) (nI (en M (pl - 1 - wnt p))) S8) = some ((), Mdn M pl (wnt p) (en M (pl - 1 - wnt p)) K A B) := fun K A B => m_bec g3.1 (by omega) hpl hρ.1
  generalize en M (pl - 1 - wnt p) = ρ at *
  by_cases h7 : p = 7
  · subst h7
    obtain ⟨t1, t2, t3⟩ := T 1 (by omega) (by decide)
    obtain ⟨u1, u2, u3⟩ := T 2 (by omega) (by decide)
    have a1 := t1.lt
    have b1 := u1.lt
    obtain ⟨v, hv⟩ := x_firstT X (zI X 24)
    refine ⟨4, zA M 26 (en M (pl - 1 - 1)), zA M 26 (en M (pl - 1 - 2)), Or.inr (Or.inl ⟨rfl, t1, u1⟩), ?_, ?_⟩
    · unfold fX2_workOut
      rw [hv, zbd_r, if_neg (by decide), if_pos rfl, t2, zbd_r, u2, zbd_r]
      exact XB 4 _ _
    · unfold fX10_compute
      rw [m_wants (by omega), zbd_r, if_pos rfl, t3, zbd_r]
      unfold fX10_compute_28
      rw [if_neg (by decide), if_pos rfl]
      unfold fX10_compute_45
      rw [u3, zbd_r]
      unfold fX10_compute_66
      rw [if_pos (by decide)]
      unfold fX10_compute_82
      rw [low]
      dsimp only
      rw [a1.2.1, zld_n a1.1 (by omega), if_neg (by decide), b1.2.1, zld_n b1.1 (by omega), ← a1.2.1, ← b1.2.1]
      unfold fX10_compute_123
      rw [if_neg (by decide), if_neg (by decide), if_neg (by decide), if_neg (by decide), if_neg (by decide), if_neg (by decide), if_neg (by decide), if_pos rfl]
      exact MB 4 _ _
  · have hm1 : 1 ≤ mny p := by unfold mny; rw [if_neg h7]; split <;> omega
    obtain ⟨r1, f1, f2, f3, f4, f5⟩ := h1 hm1
    obtain ⟨q1, q2, q3⟩ := F 1 r1 (by omega) (by omega) f1
    obtain ⟨t1, t2, t3⟩ := T 1 (by omega) (by omega)
    have hr1 := hR.live q1 q2
    have ex : fX0_firstOf (zI X 24) X = some (zA M 25 r1, X) := by rw [f4, x_first q1, hr1.2.1]
    have em : fX10_compute (nI p) M = fX10_compute_28 (nI p) (nI (wnt p)) (nI r1) M := by
      unfold fX10_compute
      rw [m_wants hp, zbd_r, if_neg (nq h7), t3, zbd_r, q3, zbd_r]
    rw [em]
    have c82 : ∀ (a b : Int32) (y : Int32), wnt p ≤ 1 → fX10_compute_82 (nI p) (nI (wnt p)) (nI r1) b y M = fX10_compute_123 (nI p) (nI (wnt p)) (nI r1) b y (nI ρ) (zA M 25 r1) (nI 0) M := by
      intro a b y hw1
      unfold fX10_compute_82
      rw [low]
      dsimp only
      rw [zld_n q1 (by omega), if_pos (qle hw1)]
    have c82' : ∀ (b : Nat) (y : Int32), b < 400 → 1 < wnt p → fX10_compute_82 (nI p) (nI (wnt p)) (nI r1) (nI b) y M = fX10_compute_123 (nI p) (nI (wnt p)) (nI r1) (nI b) y (nI ρ) (zA M 25 r1) (zA M 25 b) M := by
      intro b y hb hw1
      unfold fX10_compute_82
      rw [low]
      dsimp only
      rw [zld_n q1 (by omega), if_neg (nl hw1), zld_n hb (by omega)]
    by_cases h6 : p < 6
    · obtain ⟨r2, e1, e2, e3, e4, e5⟩ := h2 (by unfold mny; rw [if_pos h6]; omega)
      have hw2 : wnt p = 2 := by unfold wnt; rw [if_neg (by omega), if_pos (by omega)]
      obtain ⟨s1, s2, s3⟩ := F 2 r2 (by omega) (by omega) e1
      obtain ⟨u1, u2, u3⟩ := T 2 (by omega) (by omega)
      have hr2 := hR.live s1 s2
      have ey : fX0_firstOf (zI X 25) X = some (zA M 25 r2, X) := by rw [e4, x_first s1, hr2.2.1]
      have mc : fX10_compute_28 (nI p) (nI (wnt p)) (nI r1) M = fX10_compute_123 (nI p) (nI (wnt p)) (nI r1) (nI r2) (nI 0) (nI ρ) (zA M 25 r1) (zA M 25 r2) M := by
        unfold fX10_compute_28
        rw [if_neg (nl (by omega)), if_neg (nq h7), if_pos (qle (by omega)), u3, zbd_r, s3, zbd_r]
        unfold fX10_compute_66
        rw [if_pos (qle (by omega)), c82' r2 _ s1 (by omega)]
      rw [mc]
      have xc : ∀ v : Int32, fX2_calculate (nI p) (zA M 25 r1) (zA M 25 r2) X = some (v, X) → fX2_workOut (nI p) (nI ρ) X = some ((), Xdn X pl (wnt p) ρ 0 v (-3)) := by
        intro v hv
        unfold fX2_workOut
        rw [ex, zbd_r, if_neg (nq (by omega)), if_neg (nq (by omega)), if_neg (nq (by omega)), if_neg (nq (by omega)), if_neg (nq (by omega)), if_neg (nq (by omega)), ey, zbd_r, hv, zbd_r]
        exact XB 0 _ _
      by_cases p0 : p = 0
      · subst p0
        refine ⟨0, _, _, Or.inl rfl, xc (zA M 25 r1 + zA M 25 r2) ?_, ?_⟩
        · unfold fX2_calculate; rw [if_pos rfl]
        · unfold fX10_compute_123; rw [if_pos rfl]; exact MB 0 _ _
      · by_cases p1 : p = 1
        · subst p1
          refine ⟨0, _, _, Or.inl rfl, xc (zA M 25 r1 - zA M 25 r2) ?_, ?_⟩
          · unfold fX2_calculate; rw [if_neg (by decide), if_pos rfl]
          · unfold fX10_compute_123; rw [if_neg (by decide), if_pos rfl]; exact MB 0 _ _
        · by_cases p2 : p = 2
          · subst p2
            refine ⟨0, _, _, Or.inl rfl, xc (zA M 25 r1 * zA M 25 r2) ?_, ?_⟩
            · unfold fX2_calculate; rw [if_neg (by decide), if_neg (by decide), if_pos rfl]
            · unfold fX10_compute_123; rw [if_neg (by decide), if_neg (by decide), if_pos rfl]; exact MB 0 _ _
          · by_cases p3 : p = 3
            · subst p3
              have hz := e5 rfl
              refine ⟨0, _, _, Or.inl rfl, xc (zA M 25 r1 / zA M 25 r2) ?_, ?_⟩
              · unfold fX2_calculate zdv; rw [if_neg (by decide), if_neg (by decide), if_neg (by decide), if_pos rfl, if_neg hz, if_neg hz]
              · unfold fX10_compute_123 zdv; rw [if_neg (by decide), if_neg (by decide), if_neg (by decide), if_pos rfl, if_neg hz]; exact MB 0 _ _
            · by_cases p4 : p = 4
              · subst p4
                by_cases q : zA M 25 r2 ≤ zA M 25 r1
                · refine ⟨0, _, _, Or.inl rfl, xc (nI 0) ?_, ?_⟩
                  · unfold fX2_calculate; rw [if_neg (by decide), if_neg (by decide), if_neg (by decide), if_neg (by decide), if_pos rfl, if_pos q]
                  · unfold fX10_compute_123 fX10_compute_272; rw [if_neg (by decide), if_neg (by decide), if_neg (by decide), if_neg (by decide), if_pos rfl, if_pos q]; exact MB 0 _ _
                · refine ⟨0, _, _, Or.inl rfl, xc (nI 1) ?_, ?_⟩
                  · unfold fX2_calculate; rw [if_neg (by decide), if_neg (by decide), if_neg (by decide), if_neg (by decide), if_pos rfl, if_neg q]
                  · unfold fX10_compute_123 fX10_compute_272; rw [if_neg (by decide), if_neg (by decide), if_neg (by decide), if_neg (by decide), if_pos rfl, if_neg q]; exact MB 0 _ _
              · obtain rfl : p = 5 := by omega
                by_cases q : zA M 25 r1 = zA M 25 r2
                · refine ⟨0, _, _, Or.inl rfl, xc (nI 1) ?_, ?_⟩
                  · unfold fX2_calculate; rw [if_neg (by decide), if_neg (by decide), if_neg (by decide), if_neg (by decide), if_neg (by decide), if_pos rfl, if_pos q]
                  · unfold fX10_compute_123 fX10_compute_296; rw [if_neg (by decide), if_neg (by decide), if_neg (by decide), if_neg (by decide), if_neg (by decide), if_pos rfl, if_pos q]; exact MB 0 _ _
                · refine ⟨0, _, _, Or.inl rfl, xc (nI 0) ?_, ?_⟩
                  · unfold fX2_calculate; rw [if_neg (by decide), if_neg (by decide), if_neg (by decide), if_neg (by decide), if_neg (by decide), if_pos rfl, if_neg q]
                  · unfold fX10_compute_123 fX10_compute_296; rw [if_neg (by decide), if_neg (by decide), if_neg (by decide), if_neg (by decide), if_neg (by decide), if_pos rfl, if_neg q]; exact MB 0 _ _
    · by_cases p6 : p = 6
      · subst p6
        obtain ⟨u1, u2, u3⟩ := T 2 (by omega) (by decide)
        obtain ⟨v1, v2, v3⟩ := T 3 (by omega) (by decide)
        have b1 := u1.lt
        have mc : fX10_compute_28 (nI 6) (nI (wnt 6)) (nI r1) M = fX10_compute_123 (nI 6) (nI (wnt 6)) (nI r1) (zA M 26 (en M (pl - 1 - 2))) (zA M 26 (en M (pl - 1 - 3))) (nI ρ) (zA M 25 r1) (zA M 25 (zA M 26 (en M (pl - 1 - 2))).toNatClampNeg) M := by
          unfold fX10_compute_28
          rw [if_neg (by decide), if_neg (by decide), if_neg (by decide)]
          unfold fX10_compute_45
          rw [u3, zbd_r]
          unfold fX10_compute_66
          rw [if_neg (by decide), v3, zbd_r]
          have := c82' (zA M 26 (en M (pl - 1 - 2))).toNatClampNeg (zA M 26 (en M (pl - 1 - 3))) b1.1 (by decide)
          rw [← b1.2.1] at this
          exact this
        rw [mc]
        by_cases q : zA M 25 r1 = 0
        · refine ⟨6, zA M 26 (en M (pl - 1 - 3)), -3, Or.inr (Or.inr ⟨rfl, v1⟩), ?_, ?_⟩
          · unfold fX2_workOut fX2_workOut_73
            rw [ex, zbd_r, if_pos rfl, if_pos q, v2, zbd_r]
            exact XB 6 _ _
          · unfold fX10_compute_123 fX10_compute_321
            rw [if_neg (by decide), if_neg (by decide), if_neg (by decide), if_neg (by decide), if_neg (by decide), if_neg (by decide), if_pos rfl, if_pos q]
            exact MB 6 _ _
        · refine ⟨6, zA M 26 (en M (pl - 1 - 2)), -3, Or.inr (Or.inr ⟨rfl, u1⟩), ?_, ?_⟩
          · unfold fX2_workOut fX2_workOut_73
            rw [ex, zbd_r, if_pos rfl, if_neg q, u2, zbd_r]
            exact XB 6 _ _
          · unfold fX10_compute_123 fX10_compute_321
            rw [if_neg (by decide), if_neg (by decide), if_neg (by decide), if_neg (by decide), if_neg (by decide), if_neg (by decide), if_pos rfl, if_neg q]
            exact MB 6 _ _
      · by_cases p12 : p = 12
        · subst p12
          obtain ⟨u1, u2, u3⟩ := T 2 (by omega) (by decide)
          have b1 := u1.lt
          have mc : fX10_compute_28 (nI 12) (nI (wnt 12)) (nI r1) M = fX10_compute_123 (nI 12) (nI (wnt 12)) (nI r1) (zA M 26 (en M (pl - 1 - 2))) (nI 0) (nI ρ) (zA M 25 r1) (zA M 25 (zA M 26 (en M (pl - 1 - 2))).toNatClampNeg) M := by
            unfold fX10_compute_28
            rw [if_neg (by decide), if_neg (by decide), if_neg (by decide)]
            unfold fX10_compute_45
            rw [u3, zbd_r]
            unfold fX10_compute_66
            rw [if_pos (by decide)]
            have := c82' (zA M 26 (en M (pl - 1 - 2))).toNatClampNeg (nI 0) b1.1 (by decide)
            rw [← b1.2.1] at this
            exact this
          rw [mc]
          refine ⟨6, zA M 26 (en M (pl - 1 - 2)), -3, Or.inr (Or.inr ⟨rfl, u1⟩), ?_, ?_⟩
          · unfold fX2_workOut
            rw [ex, zbd_r, if_neg (by decide), if_neg (by decide), if_neg (by decide), if_neg (by decide), if_neg (by decide), if_pos rfl, u2, zbd_r]
            exact XB 6 _ _
          · unfold fX10_compute_123
            rw [if_neg (by decide), if_neg (by decide), if_neg (by decide), if_neg (by decide), if_neg (by decide), if_neg (by decide), if_neg (by decide), if_neg (by decide), if_neg (by decide), if_neg (by decide), if_neg (by decide)]
            exact MB 6 _ _
        · have hw1 : wnt p = 1 := by unfold wnt; rw [if_neg p6, if_neg (by omega), if_neg (by omega)]
          have mc : fX10_compute_28 (nI p) (nI (wnt p)) (nI r1) M = fX10_compute_123 (nI p) (nI (wnt p)) (nI r1) (nI 0) (nI 0) (nI ρ) (zA M 25 r1) (nI 0) M := by
            unfold fX10_compute_28
            rw [if_pos (qle (by omega))]
            unfold fX10_compute_66
            rw [if_pos (qle (by omega)), c82 (nI 0) _ _ (by omega)]
          rw [mc]
          have hsrt : zA M 24 r1 = nI 4 ∨ zA M 24 r1 = nI 5 := by
            unfold srt at f3
            rw [if_neg (by omega), decide_eq_false p12, Bool.false_or] at f3
            by_cases a : zA M 24 r1 = nI 4
            · exact Or.inl a
            · rw [decide_eq_false a, Bool.false_or] at f3
              exact Or.inr (of_decide_eq_true f3)
          by_cases p9 : p = 9
          · subst p9
            have k4 := hsrt.resolve_right (f5 (Or.inl rfl))
            have pr := g2.p4 q1 k4
            refine ⟨6, zA M 25 r1, -3, Or.inr (Or.inr ⟨rfl, pr.1⟩), ?_, ?_⟩
            · unfold fX2_workOut
              rw [ex, zbd_r, if_neg (by decide), if_neg (by decide), if_pos rfl]
              exact XB 6 _ _
            · unfold fX10_compute_123
              rw [if_neg (by decide), if_neg (by decide), if_neg (by decide), if_neg (by decide), if_neg (by decide), if_neg (by decide), if_neg (by decide), if_neg (by decide), if_pos rfl]
              exact MB 6 _ _
          · by_cases p10 : p = 10
            · subst p10
              have k4 := hsrt.resolve_right (f5 (Or.inr rfl))
              have pr := g2.p4 q1 k4
              refine ⟨6, zA M 26 r1, -3, Or.inr (Or.inr ⟨rfl, pr.2⟩), ?_, ?_⟩
              · unfold fX2_workOut
                rw [ex, zbd_r, if_neg (by decide), if_neg (by decide), if_neg (by decide), if_pos rfl, f4, x_second q1, zbd_r, hr1.2.2.1]
                exact XB 6 _ _
              · unfold fX10_compute_123
                rw [if_neg (by decide), if_neg (by decide), if_neg (by decide), if_neg (by decide), if_neg (by decide), if_neg (by decide), if_neg (by decide), if_neg (by decide), if_neg (by decide), if_pos rfl, zld_n q1 (by omega)]
                exact MB 6 _ _
            · obtain rfl : p = 11 := by omega
              by_cases q : zA M 24 r1 = nI 5
              · refine ⟨0, nI 1, -3, Or.inl rfl, ?_, ?_⟩
                · unfold fX2_workOut fX2_isNil fX2_workOut_190
                  rw [ex, zbd_r, if_neg (by decide), if_neg (by decide), if_neg (by decide), if_neg (by decide), if_pos rfl, f4, x_kind q1, zbd_r, hr1.1, if_pos q, zbd_r, if_neg (by decide)]
                  exact XB 0 _ _
                · unfold fX10_compute_123 fX10_compute_395
                  rw [if_neg (by decide), if_neg (by decide), if_neg (by decide), if_neg (by decide), if_neg (by decide), if_neg (by decide), if_neg (by decide), if_neg (by decide), if_neg (by decide), if_neg (by decide), if_pos rfl, zld_n q1 (by omega), if_pos q]
                  exact MB 0 _ _
              · refine ⟨0, nI 0, -3, Or.inl rfl, ?_, ?_⟩
                · unfold fX2_workOut fX2_isNil fX2_workOut_190
                  rw [ex, zbd_r, if_neg (by decide), if_neg (by decide), if_neg (by decide), if_neg (by decide), if_pos rfl, f4, x_kind q1, zbd_r, hr1.1, if_neg q, zbd_r, if_pos nI_0]
                  exact XB 0 _ _
                · unfold fX10_compute_123 fX10_compute_395
                  rw [if_neg (by decide), if_neg (by decide), if_neg (by decide), if_neg (by decide), if_neg (by decide), if_neg (by decide), if_neg (by decide), if_neg (by decide), if_neg (by decide), if_neg (by decide), if_pos rfl, zld_n q1 (by omega), if_neg q]
                  exact MB 0 _ _
