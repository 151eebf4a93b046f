/-- an EXPR is read alike, or is the same fault -/
theorem E_sim {b : Nat → Nat} {tl dd bg : Nat} : ∀ d, ES b tl dd bg d := by
  intro d
  induction d with
  | zero => intro o c G pl nd nl ns X M h1 h2; omega
  | succ d IH =>
    intro o c G pl nd nl ns X M ho hod hP hnd hnl hns h12 h13 h17 h18 h19 hh
    have hPl := PR_nl hP
    obtain ⟨p1, p2, p3, p4, p5, p6, p7, p8, p9, p10, p11, p12⟩ := id hP
    obtain ⟨x, m, k1, k2, k3, k4, k5, k6⟩ := TK_kp p1
    unfold KP at k3
    have e6 : zI M 6 = nI 0 := p1.2.2.2.2.2.2.1
    have e3 : zI X 12 = zI M 3 := by rw [p1.2.2.2.1, p1.2.2.2.2.1]
    have hzb : ∀ w : Option (Int32 × zSt), (∀ z, w = some z → z.1 = nI 0 ∨ z.1 = nI 1) → zbd w (fun r S => zbo r (some (r, S))) = w := fun w hw => by
      cases w with
      | none => rfl
      | some z =>
        show zbo z.1 (some (z.1, z.2)) = _
        unfold zbo
        rw [if_pos (show z.1 = 0 ∨ z.1 = 1 from hw z rfl)]
    show RES b tl dd bg 0 o c (hgt M bg nd + 1) G pl nd nl ns X M (fX5_readExpr (fX5_E d) (nI o) X) (fun n => eL n M)
    unfold fX5_readExpr fX8_kind
    rw [zbd_r, k1]
    by_cases hx : x = 4
    · have hm : m = 3 := by omega
      rw [if_pos (by rw [hx])]
      generalize hM1 : wA M 17 o (nI 1) = M1
      have fM1 : FQ [17] [] [] M M1 := by rw [← hM1]; exact FQ_A _ _ _ (by decide)
      have cv : ∀ n, eL (n + 1) M = eL n M1 := fun n => by
        rw [eL_atoms (by omega) e6 h12 h17]
        unfold fX10_atoms
        rw [zld_n (by omega) (by omega), h18, if_pos zer0, k2, if_pos (by rw [hm]), zck_n (by omega) (by omega), ncl (by omega), zbd_r, hM1]
      have b17 : zA M1 17 o = nI 1 := by rw [← hM1]; exact updS _ _ _
      have b12 : zI M1 12 = nI o := by rw [fM1.2.1 12 (by decide)]; exact h12
      have b6 : zI M1 6 = nI 0 := by rw [fM1.2.1 6 (by decide)]; exact e6
      have b18 : zA M1 18 o = nI 0 := by rw [fM1.1 18 (by decide)]; exact h18
      have b13 : zI M1 13 = nI o := by rw [fM1.2.1 13 (by decide)]; exact h13
      unfold fX5_readLet
      by_cases ho12 : o = 12
      · rw [if_neg (nt (by omega))]
        right
        refine ⟨wI (wI X 8 (nI 3)) 9 (zI X 12), wI (wI M1 6 (nI 3)) 7 (zI M 3), 2, rfl, fun n => ?_, by omega, FL_of (by decide) e3, FQ_trans (FQ_I _ _ (by decide)) (FQ_I _ _ (by decide)), FQ_trans (FQ_mono fM1 (by decide) (by decide) (by decide)) (FQ_trans (FQ_I _ _ (by decide)) (FQ_I _ _ (by decide)))⟩
        show eL (n + 1 + 1 + 1) M = _
        rw [cv, eL_let (by omega) b6 b12 b17]
        unfold fX10_let fX10_let_24
        rw [zld_n (by omega) (by omega), b18, if_pos zer0, b13, if_pos (qle (by omega)), m_room0 b6, zbd_r, if_pos zer0, zbd_r, fM1.2.1 3 (by decide)]
        exact eL_bad (show ¬ nI 3 = 0 by decide)
      · rw [if_pos (pt (by omega))]
        have fMa : FQ [17] [13] [] M (wI M1 13 (nI (o + 1))) := FQ_trans (FQ_mono fM1 (by decide) (by decide) (by decide)) (FQ_I _ _ (by decide))
        obtain ⟨pl2, X2, M2, r1, r2, r3, r4, r5, r6⟩ := adv p1 (by rw [k1]; exact nq (by omega)) (FQ_refl (la := []) (li := []) (lb := []) X) fMa (by decide) (by decide) (by decide) (by decide) (by decide) (by decide)
        have fM2 : FQ [17] [2, 3, 4, 5, 13] [] M M2 := FQ_trans (FQ_mono fMa (by decide) (by decide) (by decide)) (FQ_mono r6 (by decide) (by decide) (by decide))
        have x7 : zI X2 7 = nI nd := by rw [r5.2.1 7 (by decide)]; exact p2
        generalize hX3 : aD X2 nd (nI 6) (nI 0) 0 (nI 0) = X3
        generalize hMb : wI (wI (wA (wA (wA M2 20 o (nI nl)) 14 nl c) 15 nl (nI 0)) 14 (nI nl)) 10 (nI (nl + 1)) = Mb
        have fMb : FQ [14, 15, 20] [10, 14] [] M2 Mb := by rw [← hMb]; exact FQ_trans (FQ_trans (FQ_trans (FQ_trans (FQ_A _ _ _ (by decide)) (FQ_A _ _ _ (by decide))) (FQ_A _ _ _ (by decide))) (FQ_I _ _ (by decide))) (FQ_I _ _ (by decide))
        generalize hM3 : wA (mE Mb nd (nI 9) (nI nl)) 18 o (nI 1) = M3
        have fM3 : FQ [9, 10, 18] [9] [] Mb M3 := by rw [← hM3]; exact FQ_trans (FQ_mono (FQ_mE _ _ _ _) (by decide) (by decide) (by decide)) (FQ_A _ _ _ (by decide))
        have fM23 : FQ [9, 10, 14, 15, 18, 20] [9, 10, 14] [] M2 M3 := FQ_trans (FQ_mono fMb (by decide) (by decide) (by decide)) (FQ_mono fM3 (by decide) (by decide) (by decide))
        have fMM3 : FQ [9, 10, 14, 15, 17, 18, 20] [2, 3, 4, 5, 9, 10, 13, 14] [] M M3 := FQ_trans (FQ_mono fM2 (by decide) (by decide) (by decide)) (FQ_mono fM23 (by decide) (by decide) (by decide))
        have fX3 : FQ [17, 18, 19, 21] [7, 10, 11, 12, 13] [20] X X3 := by rw [← hX3]; exact FQ_trans (FQ_mono r5 (by decide) (by decide) (by decide)) (FQ_mono (FQ_aD _ _ _ _ _ _) (by decide) (by decide) (by decide))
        have n20 : zA M3 20 o = nI nl := by rw [fM3.1 20 (by decide), ← hMb]; exact updS _ _ _
        have n14 : ∀ k, zA M3 14 k = if k = nl then c else zA M 14 k := fun k => by
          rw [fM3.1 14 (by decide), ← fM2.1 14 (by decide), ← hMb]; rfl
        have n15 : ∀ k, zA M3 15 k = if k = nl then nI 0 else zA M 15 k := fun k => by
          rw [fM3.1 15 (by decide), ← fM2.1 15 (by decide), ← hMb]; rfl
        have n18 : zA M3 18 o = nI 1 := by rw [← hM3]; exact updS _ _ _
        have n17 : ∀ q, q ≠ o → zA M3 17 q = zA M 17 q := fun q hq => by
          rw [fM23.1 17 (by decide), r6.1 17 (by simp), ← hM1]; exact updN _ _ hq
        have n17o : zA M3 17 o = nI 1 := by rw [fM23.1 17 (by decide), r6.1 17 (by simp)]; exact b17
        have n9 : zA M3 9 nd = nI 9 ∧ zA M3 10 nd = nI nl ∧ ∀ i, i < nd → zA M3 9 i = zA M 9 i ∧ zA M3 10 i = zA M 10 i := by
          obtain ⟨y1, y2, y3⟩ := mE9 Mb nd (nI 9) (nI nl)
          rw [← fM2.1 9 (by decide), ← fM2.1 10 (by decide), ← fMb.1 9 (by decide), ← fMb.1 10 (by decide), ← hM3]
          exact ⟨y1, y2, y3⟩
        obtain ⟨y17, y18, -⟩ := aD17 X2 nd (nI 6) (nI 0) 0 (nI 0)
        rw [hX3] at y17 y18
        have hT3 : TK b tl pl2 X3 M3 := TK_cX (TK_c r4 fM23 (by rw [← hM3, ← hMb]; rfl) (by decide) (by decide) (by decide)) (la := [17, 18, 19, 21]) (li := [7]) (lb := [20]) (by rw [← hX3]; exact FQ_aD _ _ _ _ _ _) (by rw [← hX3]; rfl) (by decide) (by decide) (by decide)
        have hP3 : PR b tl dd bg X3 M3 pl2 (nd + 1) (nl + 1) ns (nI nl) := ⟨hT3, by rw [← hX3]; rfl, by rw [← hM3]; rfl, by rw [fM3.2.1 10 (by decide), ← hMb]; rfl, by rw [fMM3.2.1 11 (by decide)]; exact p5, by rw [fMM3.2.1 8 (by decide)]; exact p6, p7, by rw [fM3.2.1 14 (by decide), ← hMb]; rfl, by omega, by omega, by omega, fun s hs => by
          rw [fMM3.1 22 (by decide)]
          obtain ⟨l, w1, w2⟩ := p12 s hs
          exact ⟨l, by omega, w2⟩⟩
        have hg0 : hgt M3 bg nd = hgt M bg nd := hgt_c nd (fun j hj => n9.2.2 j hj)
        have hg1 : hgt M3 bg (nd + 1) = hgt M bg nd := by
          rw [hgt_s p11, n9.1, hg0]
          unfold hst
          rw [if_neg (by decide), if_pos rfl]
        have rk0 : rk M3 nl ns = 0 := rk_zero ns (fun s hs z => by
          rw [fMM3.1 22 (by decide)] at z
          obtain ⟨l, w1, w2⟩ := p12 s hs
          rw [w2] at z
          have := (neq (by omega) (by omega)).mp z
          omega)
        have xlt : ∀ k, k ∈ [17, 18, 19, 21] → ∀ i, i < nd → zA X3 k i = zA X k i := fun k hk i hi => by
          rw [← r5.1 k (by simp), ← hX3]
          simp only [List.mem_cons, List.not_mem_nil, or_false] at hk
          rcases hk with e | e | e | e <;> subst e <;> exact updN _ _ (by omega)
        have xb : ∀ i, i < nd → zB X3 20 i = zB X 20 i := fun i hi => by
          rw [← r5.2.2 20 (by simp), ← hX3]
          show vp_updL _ _ _ i = _
          rw [updL_ite, if_neg (by omega)]
          rfl
        have hI : LI b tl dd bg o nl nd ns 0 (hgt M bg nd) c G pl2 (nd + 1) (nl + 1) ns X3 M3 := ⟨hP3, ⟨by rw [fMM3.2.1 12 (by decide)]; exact h12, by rw [fM23.2.1 13 (by decide), r6.2.1 13 (by decide)]; rfl, n17o, n20, by rw [n14, if_pos rfl], by rw [n15, if_pos rfl]⟩, ⟨p11, y17, n9.1, n9.2.1⟩, ⟨Nat.le_refl _, Nat.le_refl _, fun l' q1 q2 => by omega, fun i q1 q2 => by omega, fun i q1 q2 => by
          by_cases z : i = nd
          · rw [z, hg0]; omega
          · have : i = nd + 1 := by omega
            rw [this, hg1]; omega⟩, rk0, fun s s1 s2 => by
          have := rk_lt M3 nl s1 s2
          omega, Nat.le_refl _, by rw [psum_0 X3 (nd + 1) (nd + 1) (Nat.le_refl _)]; omega, fun s q1 q2 => by omega, hg1⟩
        have eX3 : eX o X X3 := ⟨FQ_mono fX3 (by decide) (by decide) (by decide), fun j _ => by rw [fX3.2.2 23 (by decide)]⟩
        have eM3 : eM o M M3 := ⟨FQ_mono fMM3 (by decide) (by decide) (by decide), fun q hq => ⟨n17 q (by omega), by
          rw [← hM3]
          show upd (zA Mb 18) o (nI 1) q = _
          rw [updN _ _ (by omega), fMb.1 18 (by decide), fM2.1 18 (by decide)], by rw [fMM3.1 19 (by decide)], by
          rw [fM3.1 20 (by decide), ← hMb]
          show upd (zA M2 20) o (nI nl) q = _
          rw [updN _ _ (by omega), fM2.1 20 (by decide)], by rw [fMM3.1 21 (by decide)]⟩⟩
        have hL : LST (if 0 = 0 then 2 else 0) o G pl nd nl ns X M G pl2 (nd + 1) (nl + 1) ns X3 M3 := ⟨by omega, by omega, by rw [if_pos rfl]; omega, by omega, fun _ _ => rfl, ⟨fun i hi => ⟨⟨xlt 17 (by decide) i hi, xlt 18 (by decide) i hi, xlt 19 (by decide) i hi, xlt 21 (by decide) i hi, xb i hi⟩, (n9.2.2 i hi).1, (n9.2.2 i hi).2, by rw [fMM3.1 12 (by decide)], by rw [fMM3.1 13 (by decide)], by rw [fMM3.2.2 11 (by decide)]⟩, fun l hl => ⟨by rw [n14, if_neg (by omega)], by rw [n15, if_neg (by omega)]⟩, fun s hs => ⟨by rw [fMM3.1 22 (by decide)], by rw [fMM3.1 23 (by decide)], by rw [fMM3.2.2 16 (by decide)]⟩, by omega, Nat.le_refl _, fun s q1 q2 => by omega⟩, eX3, eM3⟩
        have main := let_loop IH (show o < 12 by omega) hod hh hnd hnl hns 6 0 zFU G pl2 (nd + 1) (nl + 1) ns X3 M3 (by omega) (by rw [zFU_s]; omega) hI hL
        have hcv : ∀ n, eL (n + 2) M = zbd (fX10_let_238 (nI o) (nI nl) M3) (fun _ S => eL n S) := fun n => by
          rw [show n + 2 = n + 1 + 1 by omega, cv, eL_let (by omega) b6 b12 b17]
          unfold fX10_let fX10_let_24
          rw [zld_n (by omega) (by omega), b18, if_pos zer0, b13, if_neg (nlN (by omega)), m_room1 b6, zbd_r, if_neg one0, b13, nadd, r3, zbd_r, zck_n (by omega) (by omega)]
          have g10 : zI M2 10 = nI nl := by rw [fM2.2.1 10 (by decide)]; exact p4
          have g14 : zI M2 14 = c := by rw [fM2.2.1 14 (by decide)]; exact p8
          have g9 : zI Mb 9 = nI nd := by rw [fMb.2.1 9 (by decide), fM2.2.1 9 (by decide)]; exact p3
          rw [g10, zck_n (by omega) (by omega), zck_n (by omega) (by omega), zld_n (by omega) (by omega), ncl (by omega), ncl (by omega), updS, g14, nadd, hMb, m_emit g9 (by omega), zbd_r, zck_n (by omega) (by omega), hM3]
          unfold fX10_let_116
          rw [zld_n (by omega) (by omega), n20, zld_n (by omega) (by omega), n18, if_neg (by decide)]
          unfold fX10_let_163
          rw [zld_n (by omega) (by omega), n18, if_neg (by decide), zld_n (by omega) (by omega), n15, if_pos rfl, if_pos (show nI 0 ≤ 0 by decide)]
        have hxx : zbd (zbd (fX8_advance X) fun x S2 => zbd (fX4_deedCount S2) fun r3 S4 => zbd (fX4_addDeed (nI 6) (nI 0) S4) fun x S6 => zbd (fX5_readBinding (fX5_E d) (nI o) (nI 0) S6) fun r7 S8 => fX5_readLet_64L (fX5_E d) zFU (nI o, nI o * nI 6, r3, nI 1, r7, S8)) (fun r5 S6 => zbo r5 (some (r5, S6))) = zbd (zbd (fX5_readBinding (fX5_E d) (nI o) (nI 0) X3) fun r S => fX5_readLet_64L (fX5_E d) zFU (nI o, nI (6 * o), nI nd, nI (0 + 1), r, S)) (fun r5 S6 => zbo r5 (some (r5, S6))) := by
          unfold fX4_deedCount
          rw [r2, zbd_r, zbd_r, x7, x_addDeed x7 (by omega), zbd_r, hX3, o6 ⟨o, by omega⟩]
        rw [hxx]
        rcases main with ⟨X', M', pl', nd', nl', ns', G', it, q1, q2, q3, q4⟩ | ⟨X', M', it, q1, q2, q3, q4, q5, q6⟩
        · left
          refine ⟨X', M', pl', nd', nl', ns', G', it + 2, ?_, fun n => ?_, by omega, q4⟩
          · rw [q1, hzb _ (fun z hz => by cases hz; exact Or.inr rfl)]
          · show eL (n + (it + 2)) M = _
            rw [show n + (it + 2) = n + it + 2 by omega, hcv]; exact q2 n
        · right
          refine ⟨X', M', it + 2, ?_, fun n => ?_, by omega, q4, FQ_trans (rX_e eX3) q5, FQ_trans (rM_e eM3) q6⟩
          · rw [q1, hzb _ (fun z hz => by cases hz; exact Or.inl rfl)]
          · show eL (n + 1 + (it + 2)) M = _
            rw [show n + 1 + (it + 2) = n + 1 + it + 2 by omega, hcv]; exact q2 n
    · have hm : m ≠ 3 := by omega
      rw [if_neg (nq hx)]
      unfold fX5_readAtoms
      have main := atoms_loop (d := d) (o := o) (h0 := hgt M bg nd) (c := c) IH ho hod hh 11 0 zFU 1 G pl nd nl ns X M (by omega) (by rw [zFU_s]; omega) (by omega) (by omega) (Or.inl rfl) hP hnd hnl hns h12 h13 h17 h19 (by omega)
      have hcv : ∀ n, eL (n + 1) M = zbd (fX10_atoms_55 (nI o) M) (fun _ S => eL n S) := fun n => by
        rw [eL_atoms (by omega) e6 h12 h17]
        unfold fX10_atoms fX10_atoms_25
        rw [zld_n (by omega) (by omega), h18, if_pos zer0, k2, if_neg (nq hm), zld_n (by omega) (by omega), h18, if_neg (by decide)]
      rcases main with ⟨X', M', pl', nd', nl', ns', G', it, q1, q2, q3, q4⟩ | ⟨X', M', it, q1, q2, q3, q4⟩
      · left
        refine ⟨X', M', pl', nd', nl', ns', G', it + 1, ?_, fun n => ?_, by omega, q4⟩
        · rw [hzb _ (fun z hz => by rw [q1] at hz; cases hz; exact Or.inr rfl), q1]
        · show eL (n + (it + 1)) M = _
          rw [show n + (it + 1) = n + it + 1 by omega, hcv]; exact q2 n
      · right
        refine ⟨X', M', it + 1, ?_, fun n => ?_, by omega, q4⟩
        · rw [hzb _ (fun z hz => by rw [q1] at hz; cases hz; exact Or.inl rfl), q1]
        · show eL (n + 1 + (it + 1)) M = _
          rw [show n + 1 + (it + 1) = n + 1 + it + 1 by omega, hcv]; exact q2 n
