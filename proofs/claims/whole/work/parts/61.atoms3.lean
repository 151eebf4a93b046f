theorem nlN {a b : Nat} (h : b < a) (ha : a ≤ 2000000 := by omega) : ¬ nI a ≤ nI b := nl h ha
def ES (b : Nat → Nat) (tl dd bg d : Nat) : Prop := ∀ (o : Nat) (c : Int32) (G : Nat → Nat × Nat × Nat) (pl nd nl ns : Nat) (X M : zSt), o ≤ 12 → 12 < o + d → PR b tl dd bg X M pl nd nl ns c → nd + 1 ≤ pl → 3 * nl ≤ pl → 3 * ns ≤ pl + o → zI M 12 = nI o → zI M 13 = nI o → zA M 17 o = nI 0 → zA M 18 o = nI 0 → zA M 19 o = nI 0 → hgt M bg nd ≤ 9 * o → RES b tl dd bg 0 o c (hgt M bg nd + 1) G pl nd nl ns X M (fX5_E d (nI o) X) (fun n => eL n M)
theorem m_182 {M : zSt} {o cnt m nd : Nat} (ho : o < 60) (h6 : zI M 6 = nI 0) (hm : zI M 2 = nI m) (hle : m ≤ 100) (h19 : zA M 19 o = nI cnt) (hc : cnt < 10) (h9 : zI M 9 = nI nd) (hnd : nd < 800) (h40 : m ≠ 40) :
    fX10_atoms_182 (nI o) (nI 1) M = zbd (fX10_token (if m = 1 then mE (wA M 19 o (nI (cnt + 1))) nd (nI 1) (zI M 5) else if m = 2 then wA (wA (wB (mE (wA M 19 o (nI (cnt + 1))) nd (nI 4) (nI 0)) 11 nd (zL M 0)) 12 nd (zI M 3)) 13 nd (zI M 14) else if m = 18 then mE (wA M 19 o (nI (cnt + 1))) nd (nI 2) (nI 0) else mE (wA M 19 o (nI (cnt + 1))) nd (nI 3) (nI m - nI 10))) (fun _ S => some ((), S)) := by
  unfold fX10_atoms_182 fX10_atoms_357
  rw [m_room1 h6, zbd_r, if_neg one0, zld_n ho (by omega), zck_n ho (by omega), hm, if_neg (nq h40), h19, nadd, ncl (by omega)]
  have h9' : zI (wA M 19 o (nI (cnt + 1))) 9 = nI nd := h9
  by_cases z1 : m = 1
  · rw [if_pos (by rw [z1]), if_pos z1, m_emit h9' hnd, zbd_r]
  rw [if_neg (nq z1), if_neg z1]
  by_cases z2 : m = 2
  · rw [if_pos (by rw [z2]), if_pos z2, m_emit h9' hnd, zbd_r, zck_n (by omega) (by omega), zck_n (by omega) (by omega), zck_n (by omega) (by omega), ncl (by omega)]
    rfl
  rw [if_neg (nq z2), if_neg z2]
  by_cases z3 : m = 18
  · rw [if_pos (by rw [z3]), if_pos z3, m_emit h9' hnd, zbd_r]
  rw [if_neg (nq z3), if_neg z3, m_emit h9' hnd, zbd_r]
theorem aD17 (X : zSt) (n : Nat) (d v : Int32) (nm : Int64) (p : Int32) : zA (aD X n d v nm p) 17 n = d ∧ zA (aD X n d v nm p) 18 n = v ∧ zA (aD X n d v nm p) 21 n = p ∧ zB (aD X n d v nm p) 20 n = nm := ⟨updS _ _ _, updS _ _ _, updS _ _ _, by show vp_updL _ _ _ n = _; rw [updL_ite, if_pos rfl]⟩
theorem mE9 (M : zSt) (n : Nat) (a v : Int32) : zA (mE M n a v) 9 n = a ∧ zA (mE M n a v) 10 n = v ∧ ∀ i, i < n → zA (mE M n a v) 9 i = zA M 9 i ∧ zA (mE M n a v) 10 i = zA M 10 i := ⟨updS _ _ _, updS _ _ _, fun i hi => ⟨updN _ _ (by omega), updN _ _ (by omega)⟩⟩
theorem atoms_loop {b : Nat → Nat} {tl dd bg d o h0 : Nat} {c : Int32} (IH : ES b tl dd bg d) (ho : o ≤ 12) (hod : 12 < o + (d + 1)) (hh0 : h0 ≤ 9 * o) : ∀ (mm cnt fx sl : Nat) (G : Nat → Nat × Nat × Nat) (pl nd nl ns : Nat) (X M : zSt), cnt + mm = 11 → mm < fx → 0 < mm → sl ≤ 1 → (cnt = 0 ∨ sl = 0) → PR b tl dd bg X M pl nd nl ns c → nd + 1 ≤ pl → 3 * nl ≤ pl → 3 * ns ≤ pl + o → zI M 12 = nI o → zI M 13 = nI o → zA M 17 o = nI 0 → zA M 19 o = nI cnt → hgt M bg nd = h0 + cnt →
    RES b tl dd bg sl o c (h0 + 1) G pl nd nl ns X M (fX5_readAtoms_2L (fX5_E d) fx (nI o, nI cnt, X)) (fun n => zbd (fX10_atoms_55 (nI o) M) (fun _ S => eL n S)) := by
  intro mm
  induction mm with
  | zero => intro cnt fx sl G pl nd nl ns X M _ _ h; omega
  | succ mm ih =>
    intro cnt fx sl G pl nd nl ns X M hmm hfx _ hsl hsl0 hP hnd hnl hns h12 h13 h17 h19 hh
    obtain ⟨fx, rfl⟩ : ∃ n', fx = n' + 1 := ⟨fx - 1, by omega⟩
    have hPl := PR_nl hP
    obtain ⟨p1, p2, p3, p4, p5, p6, p7, p8, p9, p10, p11, p12⟩ := id hP
    obtain ⟨x, m, k1, k2, k3, k4, k5, k6⟩ := TK_kp p1
    unfold KP at k3
    have e6 : zI M 6 = nI 0 := p1.2.2.2.2.2.2.1
    have e3 : zI X 12 = zI M 3 := by rw [p1.2.2.2.1, p1.2.2.2.2.1]
    have hn8 : nd < 800 := by omega
    rw [x_atoms_s k1 (by omega) (by omega), m_55 (by omega) k2 (by omega)]
    have f18 : FQ [18] [] [] M (wA M 18 o (nI 2)) := FQ_A _ _ _ (by decide)
    have u18 : ∀ q, q < o → zA (wA M 18 o (nI 2)) 18 q = zA M 18 q := fun q hq => updN _ _ (by omega)
    by_cases hat : x = 1 ∨ x = 2 ∨ x = 3 ∨ x = 8
    · rw [if_pos hat, if_pos (show m = 1 ∨ m = 2 ∨ m = 40 ∨ (10 ≤ m ∧ m < 23) by omega)]
      by_cases h10 : cnt = 10
      · rw [if_pos h10]
        right
        refine ⟨_, wI (wI (wA M 18 o (nI 2)) 6 (nI 3)) 7 (zI M 3), 0, rfl, fun n => ?_, by omega, FL_of (by decide) e3, FQ_trans (FQ_I _ _ (by decide)) (FQ_I _ _ (by decide)), FQ_trans (FQ_mono f18 (by decide) (by decide) (by decide)) (FQ_trans (FQ_I _ _ (by decide)) (FQ_I _ _ (by decide)))⟩
        show zbd (fX10_atoms_110 (nI o) (nI 1) (wA M 18 o (nI 2))) (fun _ S => eL (n + 1 + 0) S) = _
        unfold fX10_atoms_110
        rw [if_neg one0, zld_n (by omega) (by omega), show zA (wA M 18 o (nI 2)) 19 o = nI cnt from h19, if_pos (qle (by omega))]
        unfold fX10_atoms_182
        rw [m_room0 (M := wA M 18 o (nI 2)) e6, zbd_r, if_pos zer0, zbd_r]
        exact eL_bad (show ¬ nI 3 = 0 by decide)
      · rw [if_neg h10, m_110 (M := wA M 18 o (nI 2)) (by omega) e6 h19 (by omega)]
        by_cases hp : x = 8
        · -- a PARENTHESIS
          have hm40 : m = 40 := by omega
          have hatom : fX5_readAtom (fX5_E d) (nI o) X = zbd (fX5_readWithin (fX5_E d) (nI o) X) (fun r17 S18 => zbo r17 (some (r17, S18))) := by
            unfold fX5_readAtom fX8_kind
            rw [zbd_r, k1, if_neg (nq (by omega)), if_neg (nq (by omega)), if_neg (nq (by omega))]
          have e19 : zA (wA M 18 o (nI 2)) 19 o = nI cnt := h19
          by_cases ho12 : o = 12
          · right
            refine ⟨wI (wI X 8 (nI 3)) 9 (zI X 12), wI (wI (wA (wA M 18 o (nI 2)) 19 o (nI (cnt + 1))) 6 (nI 3)) 7 (zI M 3), 0, ?_, fun n => ?_, by omega, FL_of (by decide) e3, FQ_trans (FQ_I _ _ (by decide)) (FQ_I _ _ (by decide)), FQ_trans (FQ_mono f18 (by decide) (by decide) (by decide)) (FQ_trans (FQ_A _ _ _ (by decide)) (FQ_trans (FQ_I _ _ (by decide)) (FQ_I _ _ (by decide))))⟩
            · rw [hatom]
              unfold fX5_readWithin
              rw [if_neg (nt (by omega))]
              rfl
            · show zbd (fX10_atoms_182 (nI o) (nI 1) (wA M 18 o (nI 2))) (fun _ S => eL (n + 1 + 0) S) = _
              unfold fX10_atoms_182
              rw [m_room1 (M := wA M 18 o (nI 2)) e6, zbd_r, if_neg one0, zld_n (by omega) (by omega), zck_n (by omega) (by omega), if_pos (show zI (wA M 18 o (nI 2)) 2 = nI 40 by rw [← hm40]; exact k2), if_pos (show nI 12 ≤ zI (wA M 18 o (nI 2)) 13 by rw [show zI (wA M 18 o (nI 2)) 13 = nI o from h13]; exact qle (by omega)), e19, nadd, ncl (by omega)]
              unfold fX10_atoms_223
              rw [m_room0 (M := wA (wA M 18 o (nI 2)) 19 o (nI (cnt + 1))) e6, zbd_r, if_pos zer0, zbd_r]
              exact eL_bad (show ¬ nI 3 = 0 by decide)
          · -- within
            generalize hMp : wI (wA (wA M 18 o (nI 2)) 19 o (nI (cnt + 1))) 13 (nI (o + 1)) = Mp
            have fMp : FQ [18, 19] [13] [] M Mp := by rw [← hMp]; exact FQ_trans (FQ_A _ _ _ (by decide)) (FQ_trans (FQ_A _ _ _ (by decide)) (FQ_I _ _ (by decide)))
            obtain ⟨pl2, X2, Ma, r1, r2, r3, r4, r5, r6⟩ := adv p1 (by rw [k1]; exact nq (by omega)) (FQ_refl (la := []) (li := []) (lb := []) X) fMp (by decide) (by decide) (by decide) (by decide) (by decide) (by decide)
            generalize hM2 : wA (wA (wA (wI (wA Ma 18 o (nI 1)) 12 (nI (o + 1))) 17 (o + 1) (nI 0)) 18 (o + 1) (nI 0)) 19 (o + 1) (nI 0) = M2
            have fM2 : FQ [17, 18, 19] [12] [] Ma M2 := by rw [← hM2]; exact FQ_trans (FQ_A _ _ _ (by decide)) (FQ_trans (FQ_I _ _ (by decide)) (FQ_trans (FQ_A _ _ _ (by decide)) (FQ_trans (FQ_A _ _ _ (by decide)) (FQ_A _ _ _ (by decide)))))
            have fMM2 : FQ [17, 18, 19] [2, 3, 4, 5, 12, 13] [] M M2 := FQ_trans (FQ_mono fMp (by decide) (by decide) (by decide)) (FQ_trans (FQ_mono r6 (by decide) (by decide) (by decide)) (FQ_mono fM2 (by decide) (by decide) (by decide)))
            have hT2 : TK b tl pl2 X2 M2 := TK_c r4 fM2 (by rw [← hM2]; rfl) (by decide) (by decide) (by decide)
            have a17 : ∀ q, q ≠ o + 1 → zA M2 17 q = zA M 17 q := fun q hq => by
              rw [← hM2]
              show upd (zA Ma 17) (o + 1) (nI 0) q = _
              rw [updN _ _ hq, r6.1 17 (by simp), ← hMp]; rfl
            have a18 : ∀ q, q < o → zA M2 18 q = zA M 18 q := fun q hq => by
              rw [← hM2]
              show upd (upd (zA Ma 18) o (nI 1)) (o + 1) (nI 0) q = _
              rw [updN _ _ (by omega), updN _ _ (by omega), r6.1 18 (by simp), ← hMp]
              exact updN _ _ (by omega)
            have a18o : zA M2 18 o = nI 1 := by
              rw [← hM2]
              show upd (upd (zA Ma 18) o (nI 1)) (o + 1) (nI 0) o = _
              rw [updN _ _ (by omega), updS]
            have a19 : ∀ q, q < o → zA M2 19 q = zA M 19 q := fun q hq => by
              rw [← hM2]
              show upd (zA Ma 19) (o + 1) (nI 0) q = _
              rw [updN _ _ (by omega), r6.1 19 (by simp), ← hMp]
              exact updN _ _ (by omega)
            have a19o : zA M2 19 o = nI (cnt + 1) := by
              rw [← hM2]
              show upd (zA Ma 19) (o + 1) (nI 0) o = _
              rw [updN _ _ (by omega), r6.1 19 (by simp), ← hMp]
              exact updS _ _ _
            obtain ⟨s1, s2, s3⟩ := tok_step (o := o) (G := G) hP (FQ_mono r5 (by decide) (by decide) (by decide)) fMM2 (fun q hq => ⟨a17 q (by omega), a18 q hq, a19 q hq⟩) hT2 (Nat.le_of_lt r1) (by omega)
            have hm2 : ∀ n, zbd (fX10_atoms_182 (nI o) (nI 1) (wA M 18 o (nI 2))) (fun _ S => eL n S) = eL n M2 := fun n => by
              unfold fX10_atoms_182
              rw [m_room1 (M := wA M 18 o (nI 2)) e6, zbd_r, if_neg one0, zld_n (by omega) (by omega), zck_n (by omega) (by omega), if_pos (show zI (wA M 18 o (nI 2)) 2 = nI 40 by rw [← hm40]; exact k2), if_neg (show ¬ nI 12 ≤ zI (wA M 18 o (nI 2)) 13 by rw [show zI (wA M 18 o (nI 2)) 13 = nI o from h13]; exact nlN (by omega)), e19, nadd, ncl (by omega)]
              unfold fX10_atoms_223
              rw [m_room1 (M := wA (wA M 18 o (nI 2)) 19 o (nI (cnt + 1))) e6, zbd_r, if_neg one0, show zI (wA (wA M 18 o (nI 2)) 19 o (nI (cnt + 1))) 13 = nI o from h13, nadd, hMp, r3, zbd_r, zck_n (by omega) (by omega), ncl (by omega)]
              unfold fX10_push
              have e12 : zI (wA Ma 18 o (nI 1)) 12 = nI o := by
                show zI Ma 12 = _
                rw [r6.2.1 12 (by decide), fMp.2.1 12 (by decide)]; exact h12
              rw [e12, nadd, zck_n (by omega) (by omega), zck_n (by omega) (by omega), zck_n (by omega) (by omega), ncl (by omega), hM2, zbd_r, zbd_r]
            have hx2 : ∀ r X3, fX5_E d (nI (o + 1)) X2 = some (r, X3) → fX5_readAtom (fX5_E d) (nI o) X = (if r = 0 then some (nI 0, X3) else zbd (fX5_take (nI 9) X3) (fun r5 S6 => if r5 = 0 then some (nI 0, S6) else some (nI 1, S6))) := fun r X3 hE => by
              rw [hatom]
              unfold fX5_readWithin
              rw [if_pos (pt (by omega)), r2, zbd_r, nadd, hE, zbd_r]
              by_cases z : r = 0
              · simp only [z, if_true]; rfl
              · simp only [z, if_false]
                cases hh : fX5_take (nI 9) X3 with
                | none => rfl
                | some w =>
                  show zbd (if w.1 = 0 then some (nI 0, w.2) else some (nI 1, w.2)) _ = if w.1 = 0 then some (nI 0, w.2) else some (nI 1, w.2)
                  by_cases y : w.1 = 0
                  · rw [if_pos y]; rfl
                  · rw [if_neg y]; rfl
            have inner := IH (o + 1) c G pl2 nd nl ns X2 M2 (by omega) (by omega) s2 (by omega) (by omega) (by omega) (by rw [← hM2]; rfl) (by rw [fM2.2.1 13 (by decide), r6.2.1 13 (by decide), ← hMp]; rfl) (by rw [← hM2]; exact updS _ _ _) (by rw [← hM2]; exact updS _ _ _) (by rw [← hM2]; exact updS _ _ _) (by rw [s3]; omega)
            rcases inner with ⟨X3, M3, pl3, nd3, nl3, ns3, G3, it, q1, q2, q3, q4, q5, q6, q7, q8⟩ | ⟨X3, M3, it, q1, q2, q3, q4, q5, q6⟩
            · rw [hx2 _ _ q1, if_neg one0]
              have hPl3 := PR_nl q4
              have sA := STP_tr (by omega) s1 (STP_o (Nat.le_succ o) q7)
              have c18 : zA M3 18 o = nI 1 := by rw [(q7.2.2.2.2.2.2.2.1.2 o (by omega)).2.1]; exact a18o
              have c19 : zA M3 19 o = nI (cnt + 1) := by rw [(q7.2.2.2.2.2.2.2.1.2 o (by omega)).2.2.1]; exact a19o
              have c17 : zA M3 17 o = nI 0 := by rw [(q7.2.2.2.2.2.2.2.1.2 o (by omega)).1, a17 o (by omega)]; exact h17
              have c12 : zI M3 12 = nI o := by rw [q5, nsub (by omega)]; rfl
              have t6 : zI M3 6 = nI 0 := q4.1.2.2.2.2.2.2.1
              have mt : ∀ n, eL (n + 1) M3 = zbd (fX10_need (nI 41) M3) (fun r3 S4 => if r3 = 0 then eL n S4 else zbd (fX10_atoms_55 (nI o) (wI S4 13 (zI S4 13 - nI 1))) (fun _ S => eL n S)) := fun n => by
                rw [eL_atoms (by omega) t6 c12 c17]
                unfold fX10_atoms fX10_atoms_25
                rw [zld_n (by omega) (by omega), c18, if_neg one0, zld_n (by omega) (by omega), c18, if_pos rfl]
                cases fX10_need (nI 41) M3 with
                | none => rfl
                | some w =>
                  show zbd (if w.1 = 0 then some ((), w.2) else _) _ = if w.1 = 0 then _ else _
                  by_cases y : w.1 = 0
                  · rw [if_pos y, if_pos y]; rfl
                  · rw [if_neg y, if_neg y]
              rcases take_sim (kx := 9) (km := 41) q4.1 (by omega) (FQ_refl (la := []) (li := []) (lb := []) X3) (FQ_refl (la := []) (li := []) (lb := []) M3) (by decide) (by decide) (by decide) (by decide) (by decide) (by decide) with ⟨pl4, X4, M4, w1, w2, w3, w4, w5, w6⟩ | ⟨X4, M4, w2, w3, w4, w5, w6⟩
              · rw [w2, zbd_r, if_neg one0, zbd_r, if_neg one0]
                have c13 : zI M4 13 = nI (o + 1) := by rw [w6.2.1 13 (by decide)]; exact q6
                generalize hM5 : wI M4 13 (nI o) = M5
                have fM5 : FQ [] [13] [] M4 M5 := by rw [← hM5]; exact FQ_I _ _ (by decide)
                have fM35 : FQ [17, 18, 19] [2, 3, 4, 5, 12, 13] [] M3 M5 := FQ_trans (FQ_mono w6 (by decide) (by decide) (by decide)) (FQ_mono fM5 (by decide) (by decide) (by decide))
                have fM35' : ∀ k, zA M5 k = zA M3 k := fun k => by rw [fM5.1 k (by simp), w6.1 k (by simp)]
                obtain ⟨t1, t2, t3⟩ := tok_step (o := o) (G := G3) q4 w5 fM35 (fun q hq => ⟨by rw [fM35' 17], by rw [fM35' 18], by rw [fM35' 19]⟩) (TK_c w4 fM5 (by rw [← hM5]; rfl) (by decide) (by decide) (by decide)) (Nat.le_of_lt w1) (by rw [q8, s3]; omega)
                have h2 := q7.2.1
                have sB := STP_e (e' := 0) (STP_tr (by omega) sA t1) (by omega)
                have hb3 := sB.2.2.1
                have hb4 := sB.2.2.2.1
                refine RES_chain (sl1 := 0) (it1 := it + 1) sB (m1 := fun n => zbd (fX10_atoms_55 (nI o) M5) (fun _ S => eL n S)) (fun n => ?_) (by omega) (ih (cnt + 1) fx 0 G3 pl4 nd3 nl3 ns3 X4 M5 (by omega) (by omega) (by omega) (by omega) (Or.inr rfl) t2 (by omega) (by omega) (by omega) ?_ ?_ ?_ ?_ ?_)
                · show zbd (fX10_atoms_182 (nI o) (nI 1) (wA M 18 o (nI 2))) (fun _ S => eL (n + (it + 1)) S) = _
                  rw [hm2, show n + (it + 1) = n + 1 + it by omega]
                  have q2' := q2 (n + 1)
                  have q2' : eL (n + 1 + it) M2 = eL (n + 1) M3 := q2'
                  rw [q2', mt, w3, zbd_r, if_neg one0, c13, nsub (by omega), show o + 1 - 1 = o by omega, hM5]
                · rw [fM5.2.1 12 (by decide), w6.2.1 12 (by decide)]; exact c12
                · rw [← hM5]; rfl
                · rw [fM35' 17]; exact c17
                · rw [fM35' 19]; exact c19
                · rw [t3, q8, s3, hh]; omega
              · rw [w2, zbd_r, if_pos zer0, zbd_r, if_pos zer0]
                right
                refine ⟨X4, M4, it + 1, rfl, fun n => ?_, by omega, w4, FQ_trans (rX_e sA.2.2.2.2.2.2.1) (FQ_mono w5 (by decide) (by decide) (by decide)), FQ_trans (rM_e sA.2.2.2.2.2.2.2.1) (FQ_mono w6 (by decide) (by decide) (by decide))⟩
                show zbd (fX10_atoms_182 (nI o) (nI 1) (wA M 18 o (nI 2))) (fun _ S => eL (n + 1 + (it + 1)) S) = _
                rw [hm2, show n + 1 + (it + 1) = n + 1 + 1 + it by omega]
                have q2' : eL (n + 1 + 1 + it) M2 = eL (n + 1 + 1) M3 := q2 (n + 1 + 1)
                rw [q2', mt, w3, zbd_r, if_pos zer0]
                exact eL_bad w4.2.1
            · rw [hx2 _ _ q1, if_pos zer0, zbd_r, if_pos zer0]
              right
              refine BAE_chain (m1 := fun n => eL n M2) (it1 := 0) (sl1 := 0) (rX_e s1.2.2.2.2.2.2.1) (rM_e s1.2.2.2.2.2.2.2.1) (fun n => hm2 n) (by omega) ⟨X3, M3, it, rfl, q2, q3, q4, q5, q6⟩
        · -- a NUMBER, a NAME or a PRIMITIVE
          have fin : ∀ (dk v p : Int32) (nm : Int64) (Mp : zSt) (kk : Nat), kk ≤ 4 → fX5_readAtom (fX5_E d) (nI o) X = zbd (fX8_advance (aD X nd dk v nm p)) (fun _ S => some (nI 1, S)) → fX10_atoms_182 (nI o) (nI 1) (wA M 18 o (nI 2)) = zbd (fX10_token Mp) (fun _ S => some ((), S)) → FQ [9, 10, 12, 13, 18, 19] [9] [11] M Mp → zI Mp 9 = nI (nd + 1) → zA Mp 9 nd = nI kk →
              (∀ i, i < nd → zA Mp 9 i = zA M 9 i ∧ zA Mp 10 i = zA M 10 i ∧ zA Mp 12 i = zA M 12 i ∧ zA Mp 13 i = zA M 13 i ∧ zB Mp 11 i = zB M 11 i) → (∀ q, q < o → zA Mp 18 q = zA M 18 q ∧ zA Mp 19 q = zA M 19 q) → zA Mp 19 o = nI (cnt + 1) → zA Mp 18 o = nI 2 → ¬ dk = nI 6 → (∀ X1 M1, FQ [] [10, 11, 12, 13] [] (aD X nd dk v nm p) X1 → FQ [] [2, 3, 4, 5] [] Mp M1 → DR G X1 M1 nl nl ns c o bg nd) →
              RES b tl dd bg sl o c (h0 + 1) G pl nd nl ns X M (zbd (fX5_readAtom (fX5_E d) (nI o) X) (fun r3 S4 => if r3 = 0 then some (nI 0, S4) else fX5_readAtoms_2L (fX5_E d) fx (nI o, nI (cnt + 1), S4))) (fun n => zbd (fX10_atoms_182 (nI o) (nI 1) (wA M 18 o (nI 2))) (fun _ S => eL n S)) := fun dk v p nm Mp kk hkk hx hm fMp g9 gk gi gp g19 g18 hd6 hD => by
            obtain ⟨pl1, X1, M1, r1, r2, r3, r4, r5, r6⟩ := adv p1 (by rw [k1]; exact nq (by omega)) (FQ_aD X nd dk v nm p) fMp (by decide) (by decide) (by decide) (by decide) (by decide) (by decide)
            have fM1 : FQ [9, 10, 12, 13, 18, 19] [2, 3, 4, 5, 9, 12, 13] [11] M M1 := FQ_trans (FQ_mono fMp (by decide) (by decide) (by decide)) (FQ_mono r6 (by decide) (by decide) (by decide))
            have mA : ∀ k, zA M1 k = zA Mp k := fun k => r6.1 k (by simp)
            have hi' : ∀ i, i < nd → zA M1 9 i = zA M 9 i ∧ zA M1 10 i = zA M 10 i ∧ zA M1 12 i = zA M 12 i ∧ zA M1 13 i = zA M 13 i ∧ zB M1 11 i = zB M 11 i := fun i hi => by
              rw [mA 9, mA 10, mA 12, mA 13, r6.2.2 11 (by simp)]; exact gi i hi
            have hg0 : hgt M1 bg nd = hgt M bg nd := hgt_c nd (fun j hj => ⟨(hi' j hj).1, (hi' j hj).2.1⟩)
            have hg1 : hgt M1 bg (nd + 1) = h0 + (cnt + 1) := by rw [hgt_s p11, mA 9, gk, hst1 hkk, hg0, hh]; omega
            obtain ⟨t1, t2⟩ := deed_step (o := o) (G := G) hP r5 fM1 hi' (fun q hq => by rw [mA 18, mA 19]; exact gp q hq) (by rw [r6.2.1 9 (by decide)]; exact g9) r4 (Nat.le_of_lt r1) (by omega) (hD X1 M1 r5 r6) hd6 (by omega) (by rw [hg1]; omega)
            rw [hx, r2, zbd_r, zbd_r, if_neg one0]
            have i12 : zI M1 12 = nI o := by rw [r6.2.1 12 (by decide), fMp.2.1 12 (by decide)]; exact h12
            have i17 : zA M1 17 o = nI 0 := by rw [fM1.1 17 (by decide)]; exact h17
            have i6 : zI M1 6 = nI 0 := r4.2.2.2.2.2.2.1
            have e18 : zA M1 18 o = nI 2 := by rw [mA 18]; exact g18
            have nxt := ih (cnt + 1) fx 0 G pl1 (nd + 1) nl ns X1 M1 (by omega) (by omega) (by omega) (by omega) (Or.inr rfl) t2 (by omega) (by omega) (by omega) i12 (by rw [r6.2.1 13 (by decide), fMp.2.1 13 (by decide)]; exact h13) i17 (by rw [mA 19]; exact g19) hg1
            refine RES_chain (sl1 := 0) (it1 := 1) t1 (fun n => ?_) (by omega) nxt
            show zbd (fX10_atoms_182 (nI o) (nI 1) (wA M 18 o (nI 2))) (fun _ S => eL (n + 1) S) = _
            rw [hm, r3, zbd_r, zbd_r, eL_atoms (by omega) i6 i12 i17]
            unfold fX10_atoms fX10_atoms_25
            rw [zld_n (by omega) (by omega), e18, if_neg (show ¬ nI 2 = 0 by decide), zld_n (by omega) (by omega), e18, if_neg (show ¬ nI 2 = nI 1 by decide)]
          have h182 := m_182 (M := wA M 18 o (nI 2)) (by omega) e6 k2 (by omega) h19 (by omega) p3 hn8 (show m ≠ 40 by omega)
          generalize hMs : wA (wA M 18 o (nI 2)) 19 o (nI (cnt + 1)) = Ms at h182
          have fMs : FQ [9, 10, 12, 13, 18, 19] [9] [11] M Ms := by rw [← hMs]; exact FQ_trans (FQ_A _ _ _ (by decide)) (FQ_A _ _ _ (by decide))
          have g18 : zA Ms 18 o = nI 2 := by rw [← hMs]; exact updS _ _ _
          have g19 : zA Ms 19 o = nI (cnt + 1) := by rw [← hMs]; exact updS _ _ _
          have gp : ∀ q, q < o → zA Ms 18 q = zA M 18 q ∧ zA Ms 19 q = zA M 19 q := fun q hq => by rw [← hMs]; exact ⟨updN _ _ (by omega), updN _ _ (by omega)⟩
          have gr : ∀ k, k ≠ 18 → k ≠ 19 → zA Ms k = zA M k := fun k h1 h2 => by rw [← hMs]; simp only [zs, h1, h2, if_false]
          have gB : zB Ms = zB M := by rw [← hMs]; rfl
          have mi : ∀ a v i, i < nd → zA (mE Ms nd a v) 9 i = zA M 9 i ∧ zA (mE Ms nd a v) 10 i = zA M 10 i ∧ zA (mE Ms nd a v) 12 i = zA M 12 i ∧ zA (mE Ms nd a v) 13 i = zA M 13 i ∧ zB (mE Ms nd a v) 11 i = zB M 11 i := fun a v i hi => by
            obtain ⟨-, -, z⟩ := mE9 Ms nd a v
            rw [(z i hi).1, (z i hi).2, gr 9 (by decide) (by decide), gr 10 (by decide) (by decide)]
            refine ⟨rfl, rfl, ?_, ?_, ?_⟩
            · show zA Ms 12 i = _; rw [gr 12 (by decide) (by decide)]
            · show zA Ms 13 i = _; rw [gr 13 (by decide) (by decide)]
            · show zB Ms 11 i = _; rw [gB]
          have fE : ∀ a v, FQ [9, 10, 12, 13, 18, 19] [9] [11] M (mE Ms nd a v) := fun a v => FQ_trans fMs (FQ_mono (FQ_mE _ _ _ _) (by decide) (by decide) (by decide))
          have x17 : ∀ dk v nm p X1, FQ [] [10, 11, 12, 13] [] (aD X nd dk v nm p) X1 → zA X1 17 nd = dk ∧ zA X1 18 nd = v ∧ zA X1 21 nd = p ∧ zB X1 20 nd = nm := fun dk v nm p X1 f => by
            rw [f.1 17 (by simp), f.1 18 (by simp), f.1 21 (by simp), f.2.2 20 (by simp)]
            exact aD17 X nd dk v nm p
          by_cases z1 : x = 1
          · have zm : m = 1 := by omega
            rw [if_pos zm] at h182
            refine fin (nI 0) (zI X 13) (nI 0) 0 _ 1 (by omega) ?_ h182 (fE _ _) rfl (mE9 _ _ _ _).1 (mi _ _) gp g19 g18 (by decide) (fun X1 M1 f1 f2 => ?_)
            · unfold fX5_readAtom fX5_readAtom_98 fX8_kind fX8_value
              rw [zbd_r, k1, if_pos (by rw [z1]), zbd_r, x_addDeed p2 hn8, zbd_r]
            · obtain ⟨y1, y2, -⟩ := x17 _ _ _ _ X1 f1
              refine Or.inl ⟨y1, ?_, ?_⟩
              · rw [f2.1 9 (by simp)]; exact (mE9 _ _ _ _).1
              · rw [y2, f2.1 10 (by simp), (mE9 _ _ _ _).2.1]; exact k4 z1
          rw [if_neg (show ¬ m = 1 by omega)] at h182
          by_cases z2 : x = 2
          · have zm : m = 2 := by omega
            rw [if_pos zm] at h182
            refine fin (nI 8) (nI 0) (zI X 12) (zL X 0) _ 4 (by omega) ?_ h182 ?_ rfl (mE9 Ms nd (nI 4) (nI 0)).1 (fun i hi => ?_) gp g19 g18 (by decide) (fun X1 M1 f1 f2 => ?_)
            · unfold fX5_readAtom fX5_readAtom_98 fX8_kind fX8_name fX8_place
              rw [zbd_r, k1, if_neg (nq z1), if_pos (by rw [z2]), zbd_r, zbd_r, x_addName p2 hn8, zbd_r]
            · exact FQ_trans (fE _ _) (FQ_trans (FQ_B _ _ _ (by decide)) (FQ_trans (FQ_A _ _ _ (by decide)) (FQ_A _ _ _ (by decide))))
            · obtain ⟨w1, w2, w3, w4, w5⟩ := mi (nI 4) (nI 0) i hi
              refine ⟨w1, w2, ?_, ?_, ?_⟩
              · rw [← w3]; exact updN _ _ (by omega)
              · rw [← w4]; exact updN _ _ (by omega)
              · rw [← w5]; show vp_updL _ _ _ i = _; rw [updL_ite, if_neg (by omega)]; rfl
            · obtain ⟨y1, y2, y3, y4⟩ := x17 _ _ _ _ X1 f1
              refine Or.inr (Or.inr (Or.inr (Or.inl ⟨y1, ?_, ?_, ?_, 0, by omega, ?_⟩)))
              · rw [f2.1 9 (by simp)]; exact (mE9 Ms nd (nI 4) (nI 0)).1
              · rw [y4, f2.2.2 11 (by simp)]
                show _ = vp_updL _ nd _ nd
                rw [updL_ite, if_pos rfl]; exact k5 z2
              · refine ⟨pl, by omega, by rw [y3]; exact p1.2.2.2.1, ?_⟩
                rw [f2.1 12 (by simp), ← p1.2.2.2.2.1]; exact updS _ _ _
              · show zA M1 13 nd = c
                rw [f2.1 13 (by simp), ← p8]; exact updS _ _ _
          rw [if_neg (show ¬ m = 2 by omega)] at h182
          have z3 : x = 3 := by omega
          have hrx : fX5_readAtom (fX5_E d) (nI o) X = zbd (fX8_advance (aD X nd (nI 1) (nI (m - 10)) 0 (nI 0))) (fun _ S => some (nI 1, S)) := by
            unfold fX5_readAtom fX5_readAtom_98 fX8_kind fX8_value
            rw [zbd_r, k1, if_neg (nq z1), if_neg (nq z2), if_pos (by rw [z3]), zbd_r, x_addDeed p2 hn8, zbd_r, k6 z3]
          by_cases z18 : m = 18
          · rw [if_pos z18] at h182
            refine fin _ _ _ _ _ 2 (by omega) hrx h182 (fE _ _) rfl (mE9 _ _ _ _).1 (mi _ _) gp g19 g18 (by decide) (fun X1 M1 f1 f2 => ?_)
            obtain ⟨y1, y2, -⟩ := x17 _ _ _ _ X1 f1
            refine Or.inr (Or.inl ⟨y1, by rw [y2, z18], ?_⟩)
            rw [f2.1 9 (by simp)]; exact (mE9 _ _ _ _).1
          · rw [if_neg z18, nsub (by omega)] at h182
            refine fin _ _ _ _ _ 3 (by omega) hrx h182 (fE _ _) rfl (mE9 _ _ _ _).1 (mi _ _) gp g19 g18 (by decide) (fun X1 M1 f1 f2 => ?_)
            obtain ⟨y1, y2, -⟩ := x17 _ _ _ _ X1 f1
            refine Or.inr (Or.inr (Or.inl ⟨m - 10, by omega, by omega, y1, y2, ?_, ?_⟩))
            · rw [f2.1 9 (by simp)]; exact (mE9 _ _ _ _).1
            · rw [f2.1 10 (by simp)]; exact (mE9 _ _ _ _).2.1
    · rw [if_neg hat, if_neg (show ¬ (m = 1 ∨ m = 2 ∨ m = 40 ∨ (10 ≤ m ∧ m < 23)) by omega)]
      have e19 : zA (wA M 18 o (nI 2)) 19 o = nI cnt := h19
      unfold fX5_readAtoms_50
      by_cases c0 : cnt = 0
      · rw [if_pos (by rw [c0]; rfl), x_cannot k1 (by omega), zbd_r]
        right
        have hc : (if m = 5 then nI 1 else nI 2) = (if x = 10 then nI 1 else nI 2) := by
          by_cases y : x = 10
          · rw [if_pos y, if_pos (by omega)]
          · rw [if_neg y, if_neg (by omega)]
        have hc0 : ¬ (if x = 10 then nI 1 else nI 2) = 0 := by
          by_cases y : x = 10
          · rw [if_pos y]; decide
          · rw [if_neg y]; decide
        refine ⟨_, wI (wI (wA M 18 o (nI 2)) 6 (if x = 10 then nI 1 else nI 2)) 7 (zI M 3), 0, rfl, fun n => ?_, by omega, FL_of hc0 e3, FQ_trans (FQ_I _ _ (by decide)) (FQ_I _ _ (by decide)), FQ_trans (FQ_mono f18 (by decide) (by decide) (by decide)) (FQ_trans (FQ_I _ _ (by decide)) (FQ_I _ _ (by decide)))⟩
        show zbd (fX10_atoms_110 (nI o) (nI 0) (wA M 18 o (nI 2))) (fun _ S => eL (n + 1 + 0) S) = _
        unfold fX10_atoms_110
        rw [if_pos zer0, zld_n (by omega) (by omega), e19, if_pos (by rw [c0]; rfl), m_can0 (M := wA M 18 o (nI 2)) e6 k2 (by omega), zbd_r, zbd_r, hc]
        exact eL_bad hc0
      · have hnc : ¬ nI cnt = 0 := fun z => c0 ((neq (by omega) (by omega)).mp (show nI cnt = nI 0 from z))
        rw [if_neg hnc]
        have hm110 : fX10_atoms_110 (nI o) (nI 0) (wA M 18 o (nI 2)) = if nI cnt ≤ nI 1 then fX10_atoms_154 (wA M 18 o (nI 2)) else zbd (fX10_emit (nI 8) (nI cnt) (wA M 18 o (nI 2))) (fun _ S10 => fX10_atoms_154 S10) := by
          unfold fX10_atoms_110
          rw [if_pos zer0, zld_n (by omega) (by omega), e19, if_neg hnc, zld_n (by omega) (by omega), e19]
          by_cases z : nI cnt ≤ nI 1
          · rw [if_pos z, if_pos z]
          · rw [if_neg z, if_neg z, zld_n (by omega) (by omega), e19]
        left
        by_cases c1 : cnt = 1
        · rw [if_pos (by rw [c1]; exact qle (by omega))]
          generalize hM' : wI (wA M 18 o (nI 2)) 12 (nI o - nI 1) = M'
          have fM' : FQ [17, 18, 19] [2, 3, 4, 5, 12, 13] [] M M' := by rw [← hM']; exact FQ_trans (FQ_A _ _ _ (by decide)) (FQ_I _ _ (by decide))
          obtain ⟨t1, t2, t3⟩ := tok_step (o := o) (G := G) (pl1 := pl) hP (FQ_refl X) fM' (fun q hq => by rw [← hM']; exact ⟨rfl, updN _ _ (by omega), rfl⟩) (TK_c (M' := M') (la := [18]) (li := [12]) (lb := []) p1 (by rw [← hM']; exact FQ_trans (FQ_A _ _ _ (by decide)) (FQ_I _ _ (by decide))) (by rw [← hM']; rfl) (by decide) (by decide) (by decide)) (Nat.le_refl _) (by omega)
          refine ⟨X, M', pl, nd, nl, ns, G, 0, rfl, fun n => ?_, by omega, t2, by rw [← hM']; rfl, by rw [← hM']; exact h13, STP_e t1 (by omega), by rw [t3, hh, c1]⟩
          show zbd (fX10_atoms_110 (nI o) (nI 0) (wA M 18 o (nI 2))) (fun _ S => eL n S) = _
          rw [hm110, if_pos (by rw [c1]; exact qle (by omega))]
          unfold fX10_atoms_154
          rw [zbd_r, show zI (wA M 18 o (nI 2)) 12 = nI o from h12, hM']
        · rw [if_neg (nlN (by omega)), x_addDeed p2 hn8, zbd_r]
          generalize hM' : wI (mE (wA M 18 o (nI 2)) nd (nI 8) (nI cnt)) 12 (nI o - nI 1) = M'
          have fM' : FQ [9, 10, 12, 13, 18, 19] [2, 3, 4, 5, 9, 12, 13] [11] M M' := by rw [← hM']; exact FQ_trans (FQ_A _ _ _ (by decide)) (FQ_trans (FQ_mono (FQ_mE _ _ _ _) (by decide) (by decide) (by decide)) (FQ_I _ _ (by decide)))
          have m9 : zA M' 9 nd = nI 8 := by rw [← hM']; exact (mE9 _ _ _ _).1
          have m10 : zA M' 10 nd = nI cnt := by rw [← hM']; exact (mE9 _ _ _ _).2.1
          have mi : ∀ i, i < nd → zA M' 9 i = zA M 9 i ∧ zA M' 10 i = zA M 10 i ∧ zA M' 12 i = zA M 12 i ∧ zA M' 13 i = zA M 13 i ∧ zB M' 11 i = zB M 11 i := fun i hi => by
            rw [← hM']
            obtain ⟨-, -, z⟩ := mE9 (wA M 18 o (nI 2)) nd (nI 8) (nI cnt)
            exact ⟨(z i hi).1, (z i hi).2, rfl, rfl, rfl⟩
          have hg0 : hgt M' bg nd = hgt M bg nd := hgt_c nd (fun j hj => ⟨(mi j hj).1, (mi j hj).2.1⟩)
          have hg1 : hgt M' bg (nd + 1) = h0 + 1 := by
            rw [hgt_s p11, m9, m10, hg0, hh]
            unfold hst
            rw [if_pos rfl, ncl (by omega)]; omega
          have hT' : TK b tl pl (aD X nd (nI 5) (nI cnt) 0 (nI 0)) M' := TK_cX (TK_c (M' := M') (la := [9, 10, 18]) (li := [9, 12]) (lb := []) p1 (by rw [← hM']; exact FQ_trans (FQ_A _ _ _ (by decide)) (FQ_trans (FQ_mono (FQ_mE _ _ _ _) (by decide) (by decide) (by decide)) (FQ_I _ _ (by decide)))) (by rw [← hM']; rfl) (by decide) (by decide) (by decide)) (FQ_aD _ _ _ _ _ _) rfl (by decide) (by decide) (by decide)
          obtain ⟨y1, y2, -⟩ := aD17 X nd (nI 5) (nI cnt) 0 (nI 0)
          obtain ⟨t1, t2⟩ := deed_step (e := 1) (o := o) (G := G) (d := nI 5) (v := nI cnt) (nm := 0) (p := nI 0) hP (FQ_refl _) fM' mi (fun q hq => by rw [← hM']; exact ⟨updN _ _ (by omega), rfl⟩) (by rw [← hM']; rfl) hT' (Nat.le_refl _) (by omega) (Or.inr (Or.inr (Or.inr (Or.inr (Or.inr (Or.inl ⟨cnt, by omega, by omega, by rw [hg0]; omega, y1, y2, m9, m10⟩)))))) (by decide) (by omega) (by omega)
          refine ⟨_, M', pl, nd + 1, nl, ns, G, 0, rfl, fun n => ?_, by omega, t2, by rw [← hM']; rfl, by rw [← hM']; exact h13, t1, hg1⟩
          show zbd (fX10_atoms_110 (nI o) (nI 0) (wA M 18 o (nI 2))) (fun _ S => eL n S) = _
          rw [hm110, if_neg (nlN (by omega)), m_emit (M := wA M 18 o (nI 2)) p3 hn8, zbd_r]
          unfold fX10_atoms_154
          rw [zbd_r, show zI (mE (wA M 18 o (nI 2)) nd (nI 8) (nI cnt)) 12 = nI o from h12, hM']
