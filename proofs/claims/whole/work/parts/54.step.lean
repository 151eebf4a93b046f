/-! step(n) -/
theorem stop_sim {nd : Nat} {X M : zSt} {l pl sk : Nat} {bs : Nat → Nat} (hP : PRG nd X M) (H : RK nd X M l pl sk bs) (hs : zI X 4 = zI M 23) (hd : zI X 4 = -1 ∨ ∃ d, d < nd ∧ zI X 4 = nI d) (k32 : Int32 × Int32 × Int32 × zSt → Option (Int32 × zSt)) (x1 x2 : Int32) :
    ∃ (b : Bool) (X1 M1 : zSt), fX2_wouldMake (zI X 4) X = some (bI b, X1) ∧ (if (zI M 23) < 0 then fX10_step_75 k32 x1 x2 M else zbd (fX10_look M) (fun r3 S4 => if r3 = (nI 2) then zbd (fX10_topNode S4) (fun r5 S6 => zld 400 r5 (zA S6 25) (fun v7 => if v7 = (zI S6 23) then fX10_step_76 k32 x1 x2 (nI 1) S6 else fX10_step_75 k32 x1 x2 S6)) else fX10_step_75 k32 x1 x2 S4)) = fX10_step_76 k32 x1 x2 (bI b) M1 ∧ FR [] [22, 23, 24, 25] X X1 ∧ FR [] [26, 27] M M1 := by
  obtain ⟨c, e, n, nM, f, s, l1, l2, l3, l4⟩ := RK_look hP H
  have g1 := H.1
  have g2 := H.2.1
  have g3 := H.2.2.1
  have g4 := H.2.2.2.1
  have hnd := hP.2.1.1
  have hskl := g3.skle
  have hsk := g3.2.2.1
  have hpl := g3.2.2.2.1
  have hb := g3.2.2.2.2.2.2.2.1
  have he := g3.ent (i := pl - 1) (by omega)
  have hr := g1.1.live he.1 he.2.2
  unfold fX2_wouldMake fX10_step_75
  rw [x_fromTop (k := 0) (g3.xs g4) (by omega), zbd_r, g4.2.2.1 _ (by omega), Nat.sub_zero, he.2.1, x_kind he.1, zbd_r, hr.1, ← hs]
  have c2 : c = 2 → zA M 24 (en M (pl - 1)) = nI 2 := fun z => by
    rcases l4 with ⟨y, -⟩ | ⟨y, -⟩ | ⟨-, -, d, q, y, -⟩ | ⟨y, -⟩ | ⟨y, -⟩ | ⟨y, -⟩ | ⟨y, -⟩ | y
    all_goals first | exact y | omega
  by_cases k2 : zA M 24 (en M (pl - 1)) = nI 2
  · obtain ⟨d', d1, d2⟩ := g2.p2 he.1 k2
    rw [if_pos k2, x_first he.1, zbd_r, hr.2.1, d2]
    rcases hd with hd | ⟨d, hd1, hd2⟩
    · rw [hd, if_neg (nne (by omega) (by decide)), if_pos (by decide)]
      exact ⟨false, X, M, rfl, rfl, FR_refl _, FR_refl _⟩
    · rw [hd2, if_neg (nneg (by omega)), l2, zbd_r]
      by_cases ec : c = 2
      · rw [ec, if_pos rfl]
        have ht : fX10_topNode (mL M nM e) = some (nI (en M (pl - 1)), mL M nM e) := by
          unfold fX10_topNode
          rw [show zI (mL M nM e) 18 = nI pl from g3.1, nsub (by omega), zld_n (by omega) (by omega), show zA (mL M nM e) 30 = zA M 30 from rfl, he.2.1]
        rw [ht, zbd_r, zld_n he.1 (by omega), show zA (mL M nM e) 25 = zA M 25 from rfl, d2, show zI (mL M nM e) 23 = zI M 23 from rfl, ← hs, hd2]
        by_cases ed' : d' = d
        · rw [ed', if_pos rfl, if_pos rfl, l1, zbd_r, ec, if_pos rfl]
          exact ⟨true, _, _, rfl, rfl, fr_xL _ _ _ _ _, fr_mL _ _ _⟩
        · rw [if_neg (nq ed'), if_neg (nq ed')]
          exact ⟨false, X, _, rfl, rfl, FR_refl _, fr_mL _ _ _⟩
      · rw [if_neg (nq ec)]
        by_cases ed' : d' = d
        · rw [ed', if_pos rfl, l1, zbd_r, if_neg (nq ec)]
          exact ⟨false, _, _, rfl, rfl, fr_xL _ _ _ _ _, fr_mL _ _ _⟩
        · rw [if_neg (nq ed')]
          exact ⟨false, X, _, rfl, rfl, FR_refl _, fr_mL _ _ _⟩
  · rw [if_neg k2]
    rcases hd with hd | ⟨d, hd1, hd2⟩
    · rw [hd, if_pos (by decide)]
      exact ⟨false, X, M, rfl, rfl, FR_refl _, FR_refl _⟩
    · rw [hd2, if_neg (nneg (by omega)), l2, zbd_r, if_neg (nq (fun z => k2 (c2 z)))]
      exact ⟨false, X, _, rfl, rfl, FR_refl _, fr_mL _ _ _⟩
theorem m_step_end {f : Nat} {x1 x2 x3 : Int32} {S : zSt} (h : x3 = 0) : fX10_step_32L (f + 1) (x1, x2, x3, S) = some (x2, S) := by
  rw [show fX10_step_32L (f + 1) (x1, x2, x3, S) = fX10_step_32 (fX10_step_32L f) x1 x2 x3 S from rfl]
  unfold fX10_step_32
  rw [if_pos h]
theorem m_step_99 {f n : Nat} {x1 : Int32} {S : zSt} : fX10_step_99 (fX10_step_32L (f + 1)) x1 (nI n) S = some (nI n, S) := by
  unfold fX10_step_99 fX10_step_100
  rw [if_pos nI_0, m_step_end nI_0, nadd]
  rfl
/-- one turn of both loops: first whether a stop comes -/
theorem step_head {nc nd : Nat} {X M : zSt} {l pl sk : Nat} {bs : Nat → Nat} (hP : PRG nd X M) (H : RK nd X M l pl sk bs) (hs : zI X 4 = zI M 23) (hd : zI X 4 = -1 ∨ ∃ d, d < nd ∧ zI X 4 = nI d) {n done fm : Nat} {x3 : Int32} (hx3 : ¬ x3 = 0) (hdn : done ≤ 2000) :
    ∃ (b : Bool) (X1 M1 : zSt), (done = 0 → b = false ∧ X1 = X) ∧ (0 < done → fX2_wouldMake (zI X 4) X = some (bI b, X1)) ∧ fX10_step_32L (fm + 1) (nI n, nI done, x3, M) = fX10_step_76 (fX10_step_32L fm) (nI n) (nI done) (bI b) M1 ∧ FR [] [22, 23, 24, 25] X X1 ∧ FR [] [26, 27] M M1 := by
  rw [show fX10_step_32L (fm + 1) (nI n, nI done, x3, M) = fX10_step_32 (fX10_step_32L fm) (nI n) (nI done) x3 M from rfl]
  unfold fX10_step_32
  rw [if_neg hx3]
  by_cases z : done = 0
  · refine ⟨false, X, M, fun _ => ⟨rfl, rfl⟩, fun q => by omega, ?_, FR_refl _, FR_refl _⟩
    rw [if_pos (show nI done ≤ 0 from qle (b := 0) (by omega))]
    rfl
  · obtain ⟨b, X1, M1, r1, r2, r3, r4⟩ := stop_sim hP H hs hd (fX10_step_32L fm) (nI n) (nI done)
    refine ⟨b, X1, M1, fun q => absurd q z, fun _ => r1, ?_, r3, r4⟩
    rw [if_neg (show ¬ nI done ≤ 0 from nl (b := 0) (by omega))]
    exact r2
theorem step_loop {nd n ns : Nat} {a : Nat → Nat} (hn : n ≤ 2000) : ∀ (m done fx fm st : Nat) (X M : zSt) (x3 : Int32), done + m = n → m + 1 < fx → m + 2 < fm → ¬ x3 = 0 → PS nd X M st ns a → zI X 2 = zI M 21 → zI X 3 = zI M 22 → zI X 4 = zI M 23 → (zI X 4 = -1 ∨ ∃ d, d < nd ∧ zI X 4 = nI d) →
    ∃ r st' X' M', fX9_step_26L fx (nI n, nI done, X) = some (r, X') ∧ fX10_step_32L fm (nI n, nI done, x3, M) = some (r, M') ∧ PS nd X' M' st' ns a ∧ zI X' 2 = zI M' 21 ∧ zI X' 3 = zI M' 22 ∧ FR [25, 26, 27, 28, 29, 30, 31, 32, 33, 34, 35] [2, 3, 14, 15, 16, 17, 18, 19, 20, 21, 22, 23, 24, 25, 26] X X' ∧ FR [24, 25, 26, 27, 28, 29, 30, 31, 33, 34] [15, 16, 17, 18, 19, 20, 21, 22, 26, 27] M M' := by
  intro m
  induction m with
  | zero => ?_
  | succ m ih => ?_
  all_goals
    intro done fx fm st X M x3 hdm hfx hfm hx3 hPS h2 h3 h4 hd
    obtain ⟨fx, rfl⟩ : ∃ n', fx = n' + 1 := ⟨fx - 1, by omega⟩
    obtain ⟨fm, rfl⟩ : ∃ n', fm = n' + 1 + 1 := ⟨fm - 2, by omega⟩
    have hP := hPS.1
    obtain ⟨l, pl, sk, bs, H⟩ := id hPS.2.1
    obtain ⟨b, X1, M1, b0, b1, b2, b3, b4⟩ := step_head (nc := 0) (n := n) (done := done) (fm := fm + 1) hP H h4 hd hx3 (by omega)
    rw [b2, show fX9_step_26L (fx + 1) (nI n, nI done, X) = fX9_step_26 (fX9_step_26L fx) (nI n) (nI done) X from rfl]
    unfold fX9_step_26
    have fX1 : FR [25, 26, 27, 28, 29, 30, 31, 32, 33, 34, 35] [2, 3, 14, 15, 16, 17, 18, 19, 20, 21, 22, 23, 24, 25, 26] X X1 := FR_mono b3 (by decide) (by decide)
    have fM1 : FR [24, 25, 26, 27, 28, 29, 30, 31, 33, 34] [15, 16, 17, 18, 19, 20, 21, 22, 26, 27] M M1 := FR_mono b4 (by decide) (by decide)
    have hPS1 : PS nd X1 M1 st ns a := PS_FR b3 b4 (by decide) (by decide) (by decide) (by decide) hPS
  · -- no more to be done
    rw [if_pos (qle (by omega))]
    refine ⟨nI done, st, X, M1, rfl, ?_, PS_FR (FR_refl (la := []) (li := []) X) b4 (by decide) (by decide) (by decide) (by decide) hPS, by rw [b4.2.1 21 (by decide)]; exact h2, by rw [b4.2.1 22 (by decide)]; exact h3, FR_refl _, fM1⟩
    unfold fX10_step_76
    cases b with
    | false => rw [show bI false = nI 0 from rfl, if_pos nI_0, if_pos (qle (by omega)), m_step_99]
    | true => rw [show bI true = nI 1 from rfl, if_neg (show ¬ nI 1 = 0 by decide), m_step_99]
  · rw [if_neg (nl (by omega))]
    cases b with
    | true =>
      have hd0 : 0 < done := by
        rcases Nat.eq_zero_or_pos done with z | z
        · exact absurd (b0 z).1 (by decide)
        · exact z
      rw [if_neg (show ¬ nI done ≤ 0 from nl (b := 0) (by omega)), b1 hd0, zbd_r, show bI true = nI 1 from rfl, if_neg (show ¬ nI 1 = 0 by decide)]
      refine ⟨nI done, st, X1, M1, rfl, ?_, hPS1, by rw [b3.2.1 2 (by decide), b4.2.1 21 (by decide)]; exact h2, by rw [b3.2.1 3 (by decide), b4.2.1 22 (by decide)]; exact h3, fX1, fM1⟩
      unfold fX10_step_76
      rw [if_neg (show ¬ nI 1 = 0 by decide), m_step_99]
    | false =>
      have hx : (if nI done ≤ 0 then fX9_step_52 (fX9_step_26L fx) (nI n) (nI done) X else zbd (fX2_wouldMake (zI X 4) X) (fun r1 S2 => if r1 = 0 then fX9_step_52 (fX9_step_26L fx) (nI n) (nI done) S2 else some (nI done, S2))) = fX9_step_52 (fX9_step_26L fx) (nI n) (nI done) X1 := by
        rcases Nat.eq_zero_or_pos done with z | z
        · rw [if_pos (show nI done ≤ 0 from qle (b := 0) (by omega)), (b0 z).2]
        · rw [if_neg (show ¬ nI done ≤ 0 from nl (b := 0) (by omega)), b1 z, zbd_r, show bI false = nI 0 from rfl, if_pos nI_0]
      rw [hx]
      obtain ⟨o, X2, M2, st', o1, o2, o3, o4, o5, o6, o7, o8⟩ := PS_att hPS1
      unfold fX9_step_52 fX10_step_76 fX2_errorFound
      rw [o2, zbd_r, zbd_r, show bI false = nI 0 from rfl, if_pos nI_0, if_neg (nl (by omega)), o3, zbd_r]
      have frX3 : FR [] [2, 3] X2 (wI (wI X2 2 (nI o)) 3 (zI X2 22)) := FR_trans (FR_I _ _ (by decide)) (FR_I _ _ (by decide))
      have hPS3 : PS nd (wI (wI X2 2 (nI o)) 3 (zI X2 22)) M2 st' ns a := PS_FR frX3 (FR_refl (la := []) (li := []) M2) (by decide) (by decide) (by decide) (by decide) o4
      have fX2 : FR [25, 26, 27, 28, 29, 30, 31, 32, 33, 34, 35] [2, 3, 14, 15, 16, 17, 18, 19, 20, 21, 22, 23, 24, 25, 26] X1 X2 := FR_mono (la := [25, 26, 27, 28, 29, 30, 31, 32, 33, 34, 35]) (li := [14, 15, 16, 17, 18, 19, 20, 21, 22, 23, 24, 25, 26]) o5 (by decide) (by decide)
      have fX3 : FR [25, 26, 27, 28, 29, 30, 31, 32, 33, 34, 35] [2, 3, 14, 15, 16, 17, 18, 19, 20, 21, 22, 23, 24, 25, 26] X (wI (wI X2 2 (nI o)) 3 (zI X2 22)) := FR_trans fX1 (FR_trans fX2 (FR_mono frX3 (by decide) (by decide)))
      have fM3 : FR [24, 25, 26, 27, 28, 29, 30, 31, 33, 34] [15, 16, 17, 18, 19, 20, 21, 22, 26, 27] M M2 := FR_trans fM1 o6
      have e2 : zI (wI (wI X2 2 (nI o)) 3 (zI X2 22)) 2 = zI M2 21 := by rw [o7]; rfl
      have e3 : zI (wI (wI X2 2 (nI o)) 3 (zI X2 22)) 3 = zI M2 22 := by rw [o8]; rfl
      by_cases ho : o = 0
      · rw [if_pos (show zI (wI X2 2 (nI o)) 2 = 0 by rw [ho]; rfl), if_pos ho, if_neg (show ¬ nI 1 = 0 by decide)]
        unfold fX10_step_100
        rw [if_neg (show ¬ nI 1 = 0 by decide), nadd]
        have e4 : zI (wI (wI X2 2 (nI o)) 3 (zI X2 22)) 4 = zI X 4 := fX3.2.1 4 (by decide)
        have e5 : zI M2 23 = zI M 23 := fM3.2.1 23 (by decide)
        obtain ⟨r, st2, X', M', y1, y2, y3, y4, y5, y6, y7⟩ := ih (done + 1) fx (fm + 1) st' (wI (wI X2 2 (nI o)) 3 (zI X2 22)) M2 (nI 1) (by omega) (by omega) (by omega) (by decide) hPS3 e2 e3 (by rw [e4, e5]; exact h4) (by rw [e4]; exact hd)
        exact ⟨r, st2, X', M', y1, y2, y3, y4, y5, FR_trans fX3 y6, FR_trans fM3 y7⟩
      · rw [if_neg (show ¬ zI (wI X2 2 (nI o)) 2 = 0 from nq (b := 0) ho), if_neg ho, if_pos nI_0, m_step_99]
        exact ⟨nI done, st', _, M2, rfl, rfl, hPS3, e2, e3, fX3, fM3⟩
theorem c_step {nc : Nat} {X M : zSt} (h : LV nc X M) (v : Int32) : CAL nc (fX9_step v X) (fX10_step v M) := by
  unfold fX9_step fX10_step
  rcases h.2.2.2.2 with ⟨a, b⟩ | hp
  · rw [if_pos (show zI X 0 = 0 from a), if_pos (show zI M 24 = 0 from b)]
    exact ⟨_, _, _, rfl, rfl, LV_0 h⟩
  · obtain ⟨h1, h2, -⟩ := hp.k
    rw [if_neg h1, if_neg h2, m_in, zbd_r]
    by_cases v1 : v < nI 1
    · have hin : ¬ (nI 1 ≤ v ∧ v ≤ nI 2000) := fun z => (ilt _ _).mp v1 z.1
      rw [if_pos v1, if_neg hin, if_pos nI_0]
      exact ⟨_, _, _, rfl, rfl, LV_0 h⟩
    · rw [if_neg v1]
      have v1' : nI 1 ≤ v := Decidable.byContradiction (fun z => v1 ((ilt _ _).mpr z))
      by_cases v2 : v ≤ nI 2000
      · have hin : nI 1 ≤ v ∧ v ≤ nI 2000 := ⟨v1', v2⟩
        rw [if_pos v2, if_pos hin, if_neg (show ¬ nI 1 = 0 by decide)]
        obtain ⟨n, n1, n2⟩ : ∃ n, n < 2001 ∧ v = nI n := by
          rcases i3 v 2001 (by omega) with q | ⟨q0, q⟩ | q
          · exfalso
            rw [Int32.le_iff_toInt_le, nI_toInt (by omega)] at v1'
            rw [Int32.lt_iff_toInt_lt] at q
            have e2 : (0 : Int32).toInt = 0 := by decide
            omega
          · exfalso
            rw [Int32.le_iff_toInt_le, nI_toInt (by omega)] at v2
            rw [Int32.le_iff_toInt_le, nI_toInt (by omega)] at q
            omega
          · exact q
        obtain ⟨p1, p2, nd, st, ns, a, p3, p4, p5, p6, p7, p8⟩ := hp
        have p3' := PS_FR (FR_refl (la := []) (li := []) X) (fr0 M) (by decide) (by decide) (by decide) (by decide) p3
        obtain ⟨r, st', X', M', y1, y2, y3, y4, y5, y6, y7⟩ := step_loop (n := n) (by omega) n 0 zFU zFU st X (wI M 0 (nI 0)) (nI 1) (by omega) (by rw [zFU_s]; omega) (by rw [zFU_s]; omega) (by decide) p3' p5 p6 p7 p8
        rw [n2, y1, y2]
        have frM : FR [24, 25, 26, 27, 28, 29, 30, 31, 33, 34] [0, 15, 16, 17, 18, 19, 20, 21, 22, 26, 27] M M' := FR_trans (FR_mono (fr0 M) (by decide) (by decide)) (FR_mono y7 (by decide) (by decide))
        obtain ⟨q1, q2, q3, q4, q5⟩ := h
        refine ⟨_, _, _, rfl, rfl, TP_FR y6 frM (by decide) (by decide) (by decide) (by decide) q1, WT_FR y6 frM q2, ?_, ?_, Or.inr ⟨by rw [y6.2.1 0 (by decide)]; exact p1, by rw [frM.2.1 24 (by decide)]; exact p2, nd, st', ns, a, y3, by omega, y4, y5, ?_, ?_⟩⟩
        · rw [y6.2.1 1 (by decide), frM.2.1 6 (by decide)]; exact q3
        · have hsw := y3.2.2.2.2.2.2.1
          have hle := y3.2.2.2.2.2.2.2.1
          refine ⟨st', y3.2.2.2.2.2.1, y3.2.2.2.1, fun s hs => ?_⟩
          by_cases z : swp a ns s
          · obtain ⟨i, i1, i2⟩ := id z
            have := hle i i1
            exact Or.inr ⟨(hsw.2.2 s hs).1 z, by omega⟩
          · exact Or.inl ((hsw.2.2 s hs).2 z)
        · rw [y6.2.1 4 (by decide), frM.2.1 23 (by decide)]; exact p7
        · rw [y6.2.1 4 (by decide)]; exact p8
      · have hin : ¬ (nI 1 ≤ v ∧ v ≤ nI 2000) := fun z => v2 z.2
        rw [if_neg v2, if_neg hin, if_pos nI_0]
        exact ⟨_, _, _, rfl, rfl, LV_0 h⟩
