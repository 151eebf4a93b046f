theorem begin_N3 {nd : Nat} {X M M2 : zSt} (hP : PRG nd X M) (h : fX10_begin M = some ((), M2)) : N3 M2 := by
  obtain ⟨M', v1, v2⟩ : ∃ M', fX10_begin M = some ((), M') ∧ bM M' nd := by
    obtain ⟨c1, c2, c3, c4, c5, ⟨m, m1, m2, m3, m4⟩, c7⟩ := hP
    obtain ⟨M1, d1, d2, d3⟩ := m_begin2 400 0 zFU M (by omega) (by rw [zFU_s]; omega) (fun n hn => absurd hn (Nat.not_lt_zero _))
    obtain ⟨M1', d4, d5, d6⟩ := m_begin40 20 0 zFU M1 (by omega) (by rw [zFU_s]; omega) (fun d hd => absurd hd (Nat.not_lt_zero _))
    have d3' : bM M1' 0 := by
      unfold bM at d3 ⊢
      rw [d5.1 24 (by decide), d5.1 25 (by decide), d5.1 26 (by decide), d5.1 27 (by decide), d5.2.1 15 (by decide), d5.2.1 16 (by decide), d5.2.1 17 (by decide)]
      exact d3
    have e3 : zB M1' 3 = zB M 3 := (d5.2.2.2 3).trans (d2.2.2.2 3)
    obtain ⟨M', f1, f2, f3, f4⟩ := m_begin70 c2.1 m1 nd 0 zFU M1' (by omega) (by have := c2.1; rw [zFU_s]; omega) (by rw [d5.2.1 8 (by decide), d2.2.1 8 (by decide)]; exact c4) (by rw [e3]; exact m2) (by rw [e3]; exact m4) d3'
    rw [if_neg (Nat.not_lt_zero _)] at f1
    exact ⟨M', by unfold fX10_begin; rw [d1, d4]; exact f1, f3⟩
  rw [h] at v1
  have eM' := (Prod.mk.inj (Option.some.inj v1)).2
  subst eM'
  intro n hn
  rcases Nat.lt_or_ge n nd with z | z
  · exact Or.inr (Or.inr (Or.inr (v2.2.1 n z).2.2.1))
  · exact Or.inl (v2.1 n hn z)
theorem zbo1 {α : Type} {k : Option α} : zbo (nI 1) k = k := rfl
theorem zbo0 {α : Type} {k : Option α} : zbo (nI 0) k = k := rfl
theorem c_read {nc : Nat} {X M : zSt} (h : LV nc X M) : CAL nc (fX9_read X) (fX10_read M) := by
  obtain ⟨h1, h2, h3, ⟨st0, q1, q2, q3⟩, h5⟩ := h
  obtain ⟨X', M', k, r1, r2, ⟨tl, t1, t2⟩, rx, rm, r3⟩ := read_sim h1 h2 trivial
  unfold fX9_read fX7_keepFirst fX5_faultFound
  rw [r1, zbd_r, zbd_r, zbd_r, r2, show zI (wI X' 5 (nI 0)) 8 = zI X' 8 from rfl]
  have hw : ∀ X'' M'' : zSt, zB X'' 24 = zB X' 24 → zB M'' 2 = zB M' 2 → WT X'' M'' := fun X'' M'' e1 e2 => by
    unfold WT at h2 ⊢
    rw [e1, e2, rx.2.2 24 (by decide), rm.2.2 2 (by decide)]
    exact h2
  have e21 : zI X' 21 = nI st0 := by rw [rx.2.1 21 (by decide)]; exact q2
  have e10 : ∀ s, s ≤ 5000 → zA X' 10 s = nI 0 ∨ (zA X' 10 s = nI 1 ∧ s ≤ st0) := fun s hs => by rw [rx.1 10 (by decide)]; exact q3 s hs
  rcases r3 with ⟨f1, f2, f3⟩ | ⟨f1, f2, f3⟩
  · rw [if_neg (by rw [f1]; exact f2)]
    unfold fX10_read_144 fX10_read_162 fX9_read_40 fX5_faultPlace
    rw [if_neg f2, zbo0, if_pos zer0, zbo0, if_pos zer0, zbd_r]
    refine ⟨_, _, wI (wI (wI (wI M' 1 (nI 0)) 24 (nI 0)) 25 (nI 0)) 23 (-1), rfl, by rw [show zI (wI (wI (wI X' 5 (nI 0)) 1 (zI X' 8)) 0 (nI 0)) 9 = zI X' 9 from rfl, f3]; rfl, ⟨0, by omega, rfl, rfl, fun i hi => by omega⟩, hw _ _ rfl rfl, f1, ⟨st0, q1, e21, e10⟩, Or.inl ⟨rfl, rfl⟩⟩
  · rw [if_pos (show zI X' 8 = 0 from f1), f1]
    unfold fX10_read_144 fX10_read_162 fX9_read_40 fX9_forgetSweeps
    rw [if_pos (show zI M' 6 = 0 from f2), zbo1, if_neg one0, zbo1, if_neg one0]
    generalize hXa : wI (wI (wI X' 5 (nI 0)) 1 (nI 0)) 0 (nI 1) = Xa
    generalize hMa : wI (wI (wI (wI M' 1 (nI 0)) 24 (nI 1)) 25 (nI 0)) 23 (-1) = Ma
    have fXa : FR [] [0, 1, 5] X' Xa := by rw [← hXa]; exact FR_trans (FR_trans (FR_I _ _ (by decide)) (FR_I _ _ (by decide))) (FR_I _ _ (by decide))
    have fMa : FR [] [1, 23, 24, 25] M' Ma := by rw [← hMa]; exact FR_trans (FR_trans (FR_trans (FR_I _ _ (by decide)) (FR_I _ _ (by decide))) (FR_I _ _ (by decide))) (FR_I _ _ (by decide))
    obtain ⟨Xb, x1, x2, x3, x4, x5⟩ := forgetL q1 (st0 + 1) 0 zFU Xa (by omega) (by rw [zFU_s]; omega) (by rw [fXa.2.1 21 (by decide)]; exact e21)
    rw [x1, zbd_r]
    have fXb : FR [10] [0, 1, 5] X' Xb := FR_trans (FR_mono fXa (by decide) (by decide)) (FR_mono x2 (by decide) (by decide))
    have hPb : PRG k Xb Ma := PRG_t (tX_FR fXb (by decide) (by decide)) (tM_FR fMa (by decide) (by decide) (by decide)) f3
    obtain ⟨Xc, Mc, y1, y2, y3, y4, y5, y6, y7, y8, y9⟩ := begin_sim hPb
    rw [y1, zbd_r, y2, zbd_r]
    unfold fX9_goOn fX4_size
    rw [zbd_r, zbd_r]
    have b10 : ∀ s, s ≤ 5000 → zA Xb 10 s = nI 0 := fun s hs => by
      by_cases z : s ≤ st0
      · exact x4 s (Nat.zero_le _) z
      · rw [x5 s (by omega), fXa.1 10 (by decide)]
        rcases e10 s hs with w | w
        · exact w
        · omega
    have tXc : tX Xb Xc := tX_FR (la := [25, 26, 27, 28, 29, 30, 31, 32, 33, 34, 35]) (li := [14, 15, 16, 17, 18, 19, 20, 21, 22, 23, 24, 25, 26]) y4 (by decide) (by decide)
    have nsw : ∀ s, ¬ swp (fun _ => 0) 0 s := fun s w => by
      obtain ⟨i, i1, -⟩ := w
      omega
    have hPS : PS k Xc Mc 0 0 (fun _ => 0) := ⟨PRG_a y4 y5 hPb, ⟨_, _, _, _, y3⟩, begin_N3 hPb y2, y6, y7, by omega, ⟨by rw [y5.2.1 25 (by decide), ← hMa]; rfl, fun i hi => by omega, fun s hs => ⟨fun w => absurd w (nsw s), fun _ => by rw [y4.1 10 (by decide)]; exact b10 s hs⟩⟩, fun i hi => by omega, fun i j _ hj => by omega, fun w => absurd w (nsw 0), Xb, fun _ => Xc, tXc, ⟨⟨Xb, tX_refl _, y1⟩, fun s hs => by omega⟩, tXc, y6, Xc, Or.inr ⟨nsw 0, rfl⟩, ⟨_, _, _, _, y3⟩, tXc, y6⟩
    have fXd : FR [] [2, 3, 4] Xc (wI (wI (wI Xc 2 (nI 0)) 3 (nI 0)) 4 (-1)) := FR_trans (FR_trans (FR_I _ _ (by decide)) (FR_I _ _ (by decide))) (FR_I _ _ (by decide))
    have hPS2 := PS_FR fXd (FR_refl (la := []) (li := []) Mc) (by decide) (by decide) (by decide) (by decide) hPS
    have x0 : ∀ j, j ∈ [0, 1, 5] → zI Xc j = zI Xa j := fun j hj => by
      rw [y4.2.1 j (by simp only [List.mem_cons, List.not_mem_nil, or_false] at hj ⊢; omega), x2.2.1 j (by simp)]
    have m0 : ∀ j, j ∈ [1, 6, 23, 24] → zI Mc j = zI Ma j := fun j hj => y5.2.1 j (by simp only [List.mem_cons, List.not_mem_nil, or_false] at hj ⊢; omega)
    have s6 : zI Xc 6 = zI Mc 8 := by
      have hp := hPS.1
      rw [hp.2.2.1, hp.2.2.2.1]
    refine ⟨_, _, _, rfl, by rw [show zI (wI (wI (wI Xc 2 (nI 0)) 3 (nI 0)) 4 (-1)) 6 = zI Xc 6 from rfl, s6], ⟨0, by omega, ?_, ?_, fun i hi => by omega⟩, hw _ _ ?_ ?_, ?_, QS_PS hPS2, Or.inr ⟨?_, ?_, k, 0, 0, fun _ => 0, hPS2, by omega, ?_, ?_, ?_, Or.inl rfl⟩⟩
    · show zI Xc 5 = nI 0
      rw [x0 5 (by decide), ← hXa]; rfl
    · rw [m0 1 (by decide), ← hMa]; rfl
    · show zB Xc 24 = _
      rw [y4.2.2.2 24, x2.2.2.2 24, fXa.2.2.2 24]
    · rw [y5.2.2.2 2, fMa.2.2.2 2]
    · show zI Xc 1 = _
      rw [x0 1 (by decide), ← hXa, m0 6 (by decide), fMa.2.1 6 (by decide), f2]; rfl
    · show zI Xc 0 = _
      rw [x0 0 (by decide), ← hXa]; rfl
    · rw [m0 24 (by decide), ← hMa]; rfl
    · rw [y8]; rfl
    · rw [y9]; rfl
    · show (-1 : Int32) = _
      rw [m0 23 (by decide), ← hMa]; rfl
/-- share() -/
theorem c_share {nc : Nat} {X M : zSt} (h : LV nc X M) : ∃ (u r : Int32) (M' : zSt), zI X 14 = u ∧ fX10_share M = some (r, M') ∧
    ((zI X 0 = 0 ∧ zI M' 0 = nI 1 ∧ LV (nc + 1) X M') ∨ (zI X 0 = nI 1 ∧ ¬ u = 0 ∧ zI M' 0 = nI 0 ∧ ∃ (c : Int32) (X' : zSt), fX1_countKept X = some (c, X') ∧ r = nI 1000 * c / u ∧ LV (nc + 1) X' M')) := by
  unfold fX10_share
  rcases h.2.2.2.2 with ⟨a, b⟩ | hp
  · rw [if_pos (show zI M 24 = 0 from b)]
    refine ⟨_, _, _, rfl, rfl, Or.inl ⟨a, rfl, ?_⟩⟩
    exact LV_FR (FR_refl (la := []) (li := []) X) (FR_trans (fr0 M) (FR_I _ _ (by decide))) (by decide) (by decide) (by decide) (by decide) h
  · obtain ⟨h1, h2, nd, l, pl, sk, bs, h3, h4, -⟩ := hp.k
    have p1 := hp.1
    rw [if_neg h2]
    obtain ⟨X', M', c, k1, k2, k3, k4, k5, k6, k7, k8, -⟩ := keep_sim h3 h4
    have e14 : zI X 14 = nI l := h4.1.2.2.1
    have e15 : zI M' 15 = nI l := by rw [k8.2.1 15 (by decide)]; exact h4.1.2.2.2.1
    have hl : ¬ nI l = 0 := by
      intro z
      have hl4 : l ≤ 400 := by
        have := h4.1.2.2.2.2.1
        rw [this]
        exact cnt_le _ _
      exact nq (b := 0) (by omega) (by omega) (by omega) z
    refine ⟨nI l, nI 1000 * nI c / nI l, M', e14, ?_, Or.inr ⟨p1, hl, ?_, nI c, X', ?_, rfl, ?_⟩⟩
    · rw [k2, zbd_r, e15]
      unfold zdv
      rw [if_neg hl]
    · rw [k8.2.1 0 (by decide)]; rfl
    · unfold fX1_countKept
      rw [k1, zbd_r, k3]
    · exact LV_FR k7 (FR_trans (la := [35, 36]) (li := [0, 28]) (FR_mono (fr0 M) (by decide) (by decide)) (FR_mono k8 (by decide) (by decide))) (by decide) (by decide) (by decide) (by decide) h
