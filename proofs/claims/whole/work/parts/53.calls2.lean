theorem c_stopAt {nc : Nat} {X M : zSt} (h : LV nc X M) (v : Int32) : CAL nc (fX9_stopAt v X) (fX10_stopAt v M) := by
  unfold fX9_stopAt fX10_stopAt
  rcases h.2.2.2.2 with ⟨a, b⟩ | hp
  · rw [if_pos (show zI X 0 = 0 from a), if_pos (show zI M 24 = 0 from b)]
    exact ⟨_, _, _, rfl, rfl, LV_0 h⟩
  · obtain ⟨h1, h2, -⟩ := hp.k
    obtain ⟨p1, p2, nd, st, ns, a, p3, p4, p5, p6, p7, p8⟩ := hp
    have hP := p3.1
    have hnd := hP.2.1.1
    have hnd0 := hP.1
    rw [if_neg h1, if_neg h2, show zI M 8 = nI nd from hP.2.2.2.1, nsub (by omega), m_in, zbd_r]
    unfold fX4_size
    rw [zbd_r, show zI X 6 = nI nd from hP.2.2.1]
    by_cases h0 : v < -1
    · have hin : ¬ ((-1 : Int32) ≤ v ∧ v ≤ nI (nd - 1)) := fun z => (ilt _ _).mp h0 z.1
      rw [if_pos h0, if_neg hin, if_pos nI_0]
      exact ⟨_, _, _, rfl, rfl, LV_0 h⟩
    · have h0' : (-1 : Int32) ≤ v := Decidable.byContradiction (fun z => h0 ((ilt _ _).mpr z))
      rw [if_neg h0]
      by_cases hv : v < nI nd
      · have hle : v ≤ nI (nd - 1) := by
          rw [Int32.lt_iff_toInt_lt, nI_toInt (by omega)] at hv
          rw [Int32.le_iff_toInt_le, nI_toInt (by omega)]
          omega
        have hin : (-1 : Int32) ≤ v ∧ v ≤ nI (nd - 1) := ⟨h0', hle⟩
        rw [if_pos hv, if_pos hin, if_neg (show ¬ nI 1 = 0 by decide)]
        obtain ⟨q1, q2, q3, q4, q5⟩ := h
        have frX : FR [] [4] X (wI X 4 v) := FR_I _ _ (by decide)
        have frM : FR [] [0, 23] M (wI (wI M 0 (nI 0)) 23 v) := FR_trans (FR_I _ _ (by decide)) (FR_I _ _ (by decide))
        refine ⟨_, _, _, rfl, by rw [p7]; rfl, TP_FR frX frM (by decide) (by decide) (by decide) (by decide) q1, WT_FR frX frM q2, q3, QS_FR frX (by decide) (by decide) q4, Or.inr ⟨p1, p2, nd, st, ns, a, PS_FR frX frM (by decide) (by decide) (by decide) (by decide) p3, by omega, p5, p6, rfl, ?_⟩⟩
        show v = -1 ∨ ∃ d, d < nd ∧ v = nI d
        rcases i3 v nd (by omega) with q | ⟨q0, q⟩ | q
        · left
          apply Int32.toInt_inj.mp
          rw [Int32.lt_iff_toInt_lt] at q
          rw [Int32.le_iff_toInt_le] at h0'
          have e1 : (-1 : Int32).toInt = -1 := by decide
          have e2 : (0 : Int32).toInt = 0 := by decide
          omega
        · exact absurd q ((ilt _ _).mp hv)
        · exact Or.inr q
      · have hin : ¬ ((-1 : Int32) ≤ v ∧ v ≤ nI (nd - 1)) := fun z => hv (by
          have hz := z.2
          rw [Int32.le_iff_toInt_le, nI_toInt (by omega)] at hz
          rw [Int32.lt_iff_toInt_lt, nI_toInt (by omega)]
          omega)
        rw [if_neg hv, if_neg hin, if_pos nI_0]
        exact ⟨_, _, _, rfl, rfl, LV_0 h⟩
theorem c_top {nc : Nat} {X M : zSt} (h : LV nc X M) (v : Int32) : CAL nc (fX9_top v X) (fX10_top v M) := by
  unfold fX9_top fX10_top
  rcases h.2.2.2.2 with ⟨a, b⟩ | hp
  · rw [if_pos (show zI X 0 = 0 from a), if_pos (show zI M 24 = 0 from b)]
    exact ⟨_, _, _, rfl, rfl, LV_0 h⟩
  · obtain ⟨h1, h2, nd, l, pl, sk, bs, h3, h4, -⟩ := hp.k
    have g3 := h4.2.2.1
    have g4 := h4.2.2.2.1
    have hskl := g3.skle
    have hsk := g3.2.2.1
    have hpl := g3.2.2.2.1
    have hb := g3.2.2.2.2.2.2.2.1
    have hxs := g3.xs g4
    rw [if_neg h1, if_neg h2, m_size g3, zbd_r, nsub (by omega), m_in, zbd_r]
    have out : (v < 0 ∨ nI (pl - bs (sk - 1)) ≤ v) → CAL nc (zbd (fX6_fromTop v X) (fun r1 S2 => if r1 = (-1 : Int32) then some ((-1 : Int32), S2) else some (r1, S2))) (if (if nI 0 ≤ v ∧ v ≤ nI (pl - bs (sk - 1) - 1) then nI 1 else nI 0) = 0 then some ((-1 : Int32), wI M 0 (nI 0)) else zld 600 ((zI (wI M 0 (nI 0)) 18 - nI 1) - v) (zA (wI M 0 (nI 0)) 30) (fun v5 => some (v5, wI M 0 (nI 0)))) := fun hz => by
      have hin : ¬ (nI 0 ≤ v ∧ v ≤ nI (pl - bs (sk - 1) - 1)) := fun z => by
        rcases hz with q | q
        · exact (ilt _ _).mp q z.1
        · have hz2 := z.2
          rw [Int32.le_iff_toInt_le, nI_toInt (by omega)] at hz2
          rw [Int32.le_iff_toInt_le, nI_toInt (by omega)] at q
          omega
      rw [x_fromTop_out hxs hz, zbd_r, if_pos rfl, if_neg hin, if_pos nI_0]
      exact ⟨_, _, _, rfl, rfl, LV_0 h⟩
    rcases i3 v (pl - bs (sk - 1)) (by omega) with q | ⟨-, q⟩ | ⟨k, q1, q2⟩
    · exact out (Or.inl q)
    · exact out (Or.inr q)
    · have hin : nI 0 ≤ v ∧ v ≤ nI (pl - bs (sk - 1) - 1) := by rw [q2]; exact ⟨qle (by omega), qle (by omega)⟩
      have he := g3.ent (i := pl - 1 - k) (by omega)
      rw [if_pos hin, if_neg (show ¬ nI 1 = 0 by decide), q2, x_fromTop hxs q1, zbd_r, g4.2.2.1 _ (by omega), he.2.1, if_neg (nne (by omega) (by decide)), g3.1, nsub (by omega), nsub (by omega), zld_n (by omega) (by omega), he.2.1]
      exact ⟨_, _, _, rfl, rfl, LV_0 h⟩
theorem c_why {nc : Nat} {X M : zSt} (h : LV nc X M) (v : Int32) : CAL nc (fX9_why v X) (fX10_why v M) := by
  unfold fX9_why fX10_why
  rcases h.2.2.2.2 with ⟨a, b⟩ | hp
  · rw [if_pos (show zI X 0 = 0 from a), if_pos (show zI M 24 = 0 from b)]
    exact ⟨_, _, _, rfl, rfl, LV_0 h⟩
  · obtain ⟨h1, h2, nd, l, pl, sk, bs, h3, h4, -⟩ := hp.k
    have g3 := h4.2.2.1
    have g4 := h4.2.2.2.1
    have hskl := g3.skle
    have hsk := g3.2.2.1
    have hpl := g3.2.2.2.1
    rw [if_neg h1, if_neg h2, m_in, zbd_r, show zI M 19 = nI sk from g3.2.1]
    unfold fX6_topOfDumped
    rw [g4.2.1]
    have e2 : (nI sk - nI 2).toInt = (sk : Int) - 2 := pk_sub_toInt (by omega) (by omega)
    have e0 : (nI 0).toInt = 0 := by decide
    have e00 : (0 : Int32).toInt = 0 := by decide
    rcases i3 v (sk - 1) (by omega) with q | ⟨q0, q⟩ | ⟨k, q1, q2⟩
    · have hin : ¬ (nI 0 ≤ v ∧ v ≤ nI sk - nI 2) := fun z => (ilt _ _).mp q z.1
      rw [if_pos q, zbd_r, if_pos rfl, if_neg hin, if_pos nI_0]
      exact ⟨_, _, _, rfl, rfl, LV_0 h⟩
    · have hin : ¬ (nI 0 ≤ v ∧ v ≤ nI sk - nI 2) := fun z => by
        have hz := z.2
        rw [Int32.le_iff_toInt_le] at hz q
        rw [nI_toInt (by omega)] at q
        omega
      rw [if_neg q0, if_pos q, zbd_r, if_pos rfl, if_neg hin, if_pos nI_0]
      exact ⟨_, _, _, rfl, rfl, LV_0 h⟩
    · have hin : nI 0 ≤ v ∧ v ≤ nI sk - nI 2 := by
        rw [q2]
        refine ⟨qle (by omega), ?_⟩
        rw [Int32.le_iff_toInt_le, e2, nI_toInt (by omega)]
        omega
      have hbs := g3.2.2.2.2.2.1 (sk - 1 - k) (by omega)
      have hb1 := g3.bsge (sk - 1 - k) (by omega)
      have hb2 := g3.bslt (i := sk - 1 - k) (by omega)
      have he := g3.ent (i := bs (sk - 1 - k) - 1) (by omega)
      have hx30 : zA X 30 (sk - 1 - k) = nI (bs (sk - 1 - k)) := by rw [g4.2.2.2 _ (by omega)]; exact hbs
      rw [if_pos hin, if_neg (show ¬ nI 1 = 0 by decide), q2, if_neg (nneg (by omega)), if_neg (nl (by omega)), nsub (by omega), x_beginOf (by omega), zbd_r, hx30, nsub (by omega), x_at g4.1 (by omega) hpl, zbd_r, zbd_r, g4.2.2.1 _ (by omega), he.2.1, if_neg (nne (by omega) (by decide))]
      rw [show zI (wI M 0 (nI 0)) 19 = nI sk from g3.2.1, nsub (by omega), nsub (by omega), zld_n (by omega) (by omega), hbs, nsub (by omega), zld_n (by omega) (by omega), he.2.1]
      exact ⟨_, _, _, rfl, rfl, LV_0 h⟩
theorem c_profile {nc : Nat} {X M : zSt} (h : LV nc X M) (v w : Int32) : CAL nc (fX9_profile v w X) (fX10_profile v w M) := by
  unfold fX9_profile fX10_profile
  rcases h.2.2.2.2 with ⟨a, b⟩ | hp
  · rw [if_pos (show zI X 0 = 0 from a), if_pos (show zI M 24 = 0 from b)]
    exact ⟨_, _, _, rfl, rfl, LV_0 h⟩
  · obtain ⟨h1, h2, nd, l, pl, sk, bs, h3, h4, -⟩ := hp.k
    have hnd := h3.2.1.1
    have hnd0 := h3.1
    have g8 := h4.2.2.2.2.2.2.2
    rw [if_neg h1, if_neg h2, m_in, zbd_r, show zI M 8 = nI nd from h3.2.2.2.1, nsub (by omega)]
    unfold fX4_size
    rw [zbd_r, show zI X 6 = nI nd from h3.2.2.1]
    rcases i3 v nd (by omega) with q | ⟨q0, q⟩ | ⟨d, q1, q2⟩
    · have hin : ¬ (nI 0 ≤ v ∧ v ≤ nI (nd - 1)) := fun z => (ilt _ _).mp q z.1
      rw [if_pos q, if_neg hin, if_pos nI_0]
      exact ⟨_, _, _, rfl, rfl, LV_0 h⟩
    · have hin : ¬ (nI 0 ≤ v ∧ v ≤ nI (nd - 1)) := fun z => by
        have hz := z.2
        rw [Int32.le_iff_toInt_le, nI_toInt (by omega)] at hz
        rw [Int32.le_iff_toInt_le, nI_toInt (by omega)] at q
        omega
      rw [if_neg q0, if_pos q, if_neg hin, if_pos nI_0]
      exact ⟨_, _, _, rfl, rfl, LV_0 h⟩
    · have hin : nI 0 ≤ v ∧ v ≤ nI (nd - 1) := by rw [q2]; exact ⟨qle (by omega), qle (by omega)⟩
      obtain ⟨g81, g82⟩ := g8 d (by omega)
      rw [if_pos hin, if_neg (show ¬ nI 1 = 0 by decide), q2, if_neg (nneg (by omega)), if_neg (nl (by omega)), m_in, zbd_r]
      by_cases w0 : w < 0
      · have hin2 : ¬ (nI 0 ≤ w ∧ w ≤ nI 1) := fun z => (ilt _ _).mp w0 z.1
        rw [if_pos w0, if_neg hin2, if_pos nI_0]
        exact ⟨_, _, _, rfl, rfl, LV_0 h⟩
      · rw [if_neg w0]
        have w0' : nI 0 ≤ w := Decidable.byContradiction (fun z => w0 ((ilt _ _).mpr z))
        by_cases w1 : w ≤ nI 1
        · have hin2 : nI 0 ≤ w ∧ w ≤ nI 1 := ⟨w0', w1⟩
          rw [if_pos w1, if_pos hin2, if_neg (show ¬ nI 1 = 0 by decide)]
          by_cases wz : w = 0
          · rw [if_pos wz, if_pos wz, zld_n (by omega) (by omega)]
            unfold fX2_timesMade
            rw [if_neg (nneg (by omega)), if_neg (nl (by omega)), zld_n (by omega) (by omega), zbd_r]
            exact ⟨_, _, _, rfl, by rw [g81], LV_0 h⟩
          · rw [if_neg wz, if_neg wz, zld_n (by omega) (by omega)]
            unfold fX2_nodesMadeBy
            rw [if_neg (nneg (by omega)), if_neg (nl (by omega)), zld_n (by omega) (by omega), zbd_r]
            exact ⟨_, _, _, rfl, by rw [g82], LV_0 h⟩
        · have hin2 : ¬ (nI 0 ≤ w ∧ w ≤ nI 1) := fun z => w1 z.2
          rw [if_neg w1, if_neg hin2, if_pos nI_0]
          exact ⟨_, _, _, rfl, rfl, LV_0 h⟩
theorem c_rest {nc : Nat} {X M : zSt} (h : LV nc X M) : CAL nc (fX9_rest X) (fX10_rest M) := by
  unfold fX9_rest fX10_rest
  rcases h.2.2.2.2 with ⟨a, b⟩ | hp
  · rw [if_pos (show zI X 0 = 0 from a), if_pos (show zI M 24 = 0 from b)]
    exact ⟨_, _, _, rfl, rfl, LV_0 h⟩
  · obtain ⟨h1, h2, nd, l, pl, sk, bs, h3, h4, -⟩ := hp.k
    obtain ⟨-, -, -, -, -, -, -, -, h5, -⟩ := hp
    have g1 := h4.1
    have g3 := h4.2.2.1
    have g4 := h4.2.2.2.1
    have hskl := g3.skle
    have hsk := g3.2.2.1
    have hpl := g3.2.2.2.1
    have hb := g3.2.2.2.2.2.2.2.1
    rw [if_neg h1, if_neg h2, h5]
    by_cases z : zI M 21 = nI 1
    · have he := g3.ent (i := pl - 1) (by omega)
      have hr := g1.1.live he.1 he.2.2
      rw [if_pos z, if_pos z, x_fromTop (k := 0) (g3.xs g4) (by omega), zbd_r, m_topNode g3, zbd_r, g4.2.2.1 _ (by omega), Nat.sub_zero, he.2.1, x_kind he.1, zbd_r, zld_n he.1 (by omega), hr.1]
      by_cases k0 : zA (wI M 0 (nI 0)) 24 (en (wI M 0 (nI 0)) (pl - 1)) = nI 0
      · rw [if_pos k0, if_pos (show _ = (0 : Int32) from k0)]
        exact ⟨_, _, _, rfl, rfl, LV_0 h⟩
      rw [if_neg k0, if_neg (show ¬ _ = (0 : Int32) from k0)]
      by_cases k4 : zA (wI M 0 (nI 0)) 24 (en (wI M 0 (nI 0)) (pl - 1)) = nI 4
      · rw [if_pos k4, if_pos k4]
        exact ⟨_, _, _, rfl, rfl, LV_0 h⟩
      rw [if_neg k4, if_neg k4]
      by_cases k5 : zA (wI M 0 (nI 0)) 24 (en (wI M 0 (nI 0)) (pl - 1)) = nI 5
      · rw [if_pos k5, if_pos k5]
        exact ⟨_, _, _, rfl, rfl, LV_0 h⟩
      rw [if_neg k5, if_neg k5]
      exact ⟨_, _, _, rfl, rfl, LV_0 h⟩
    · rw [if_neg z, if_neg z]
      exact ⟨_, _, _, rfl, rfl, LV_0 h⟩
theorem c_cut {nc : Nat} {X M : zSt} (h : LV nc X M) (v : Int32) : CAL nc (fX9_cut v X) (fX10_cut v M) := by
  unfold fX9_cut fX10_cut
  obtain ⟨tl, t1, t2, t3, t4⟩ := h.1
  rw [m_in, zbd_r, t3]
  unfold fX7_size fX7_keepFirst
  rw [zbd_r, t2]
  by_cases h0 : v < 0
  · have hin : ¬ (nI 0 ≤ v ∧ v ≤ nI tl) := fun z => (ilt _ _).mp h0 z.1
    rw [if_pos h0, if_neg hin, if_pos nI_0]
    exact ⟨_, _, _, rfl, rfl, LV_0 h⟩
  · rw [if_neg h0]
    have h0' : nI 0 ≤ v := Decidable.byContradiction (fun z => h0 ((ilt _ _).mpr z))
    by_cases h1 : v ≤ nI tl
    · have hin : nI 0 ≤ v ∧ v ≤ nI tl := ⟨h0', h1⟩
      obtain ⟨n, n1, n2⟩ : ∃ n, n < tl + 1 ∧ v = nI n := by
        rcases i3 v (tl + 1) (by omega) with q | ⟨q0, q⟩ | q
        · exact absurd q h0
        · exfalso
          rw [Int32.le_iff_toInt_le, nI_toInt (by omega)] at h1
          rw [Int32.le_iff_toInt_le, nI_toInt (by omega)] at q
          omega
        · exact q
      have frX : FR [] [5] X (wI X 5 v) := FR_I _ _ (by decide)
      have frM : FR [] [0, 1] M (wI (wI M 0 (nI 0)) 1 v) := FR_trans (FR_I _ _ (by decide)) (FR_I _ _ (by decide))
      rw [if_pos h1, zbd_r, if_pos hin, if_neg (show ¬ nI 1 = 0 by decide), show zI (wI M 0 (nI 0)) 1 = nI tl from t3]
      obtain ⟨q1, q2, q3, q4, q5⟩ := h
      refine ⟨_, _, _, rfl, rfl, ⟨n, by omega, n2, n2, fun i hi => t4 i (by omega)⟩, WT_FR frX frM q2, q3, QS_FR frX (by decide) (by decide) q4, ?_⟩
      rcases q5 with q5 | q5
      · exact Or.inl q5
      · exact Or.inr (PV_FR frX frM (by decide) (by decide) (by decide) (by decide) q5)
    · have hin : ¬ (nI 0 ≤ v ∧ v ≤ nI tl) := fun z => h1 z.2
      rw [if_neg h1, if_neg hin, if_pos nI_0]
      exact ⟨_, _, _, rfl, rfl, LV_0 h⟩
