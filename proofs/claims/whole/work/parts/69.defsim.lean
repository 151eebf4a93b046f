/-- a DEFINITION is read alike, or is the same fault -/
theorem def_sim {b : Nat → Nat} {tl k : Nat} {G : Nat → Nat × Nat × Nat} {bs ls ss pd : Nat → Nat} {Y Z : Nat → zSt} {pl nd nl ns : Nat} {X M : zSt} (h : RD b tl k G bs ls ss pd Y Z pl nd nl ns X M) :
    (∃ (X' M' : zSt) (pl' nd' nl' ns' : Nat) (G' : Nat → Nat × Nat × Nat) (bs' ls' ss' pd' : Nat → Nat) (Y' Z' : Nat → zSt), k < 20 ∧ fX5_readDefinition X = some (nI 1, X') ∧ fX10_definition M = some ((), M') ∧ RD b tl (k + 1) G' bs' ls' ss' pd' Y' Z' pl' nd' nl' ns' X' M' ∧ rX X X' ∧ rN M M')
    ∨ ∃ X' M', fX5_readDefinition X = some (nI 0, X') ∧ fX10_definition M = some ((), M') ∧ FL X' M' ∧ rX X X' ∧ rN M M' ∧ ∃ q, q ≤ 20 ∧ zI M' 8 = nI q := by
  obtain ⟨hT, hk, ⟨g1, g2, g3, g4, g5, g6, g7⟩, ⟨g8, g9, g10⟩, ⟨g11, g12, g13, g14, g15, g16⟩, hO, hN, hQ, hD⟩ := h
  have hpl : pl ≤ tl := hT.2.2.2.2.2.2.2.1
  have htl : tl ≤ 800 := hT.1.1
  obtain ⟨x, m, k1, k2, k3, k4, k5, k6⟩ := TK_kp hT
  unfold KP at k3
  have e6 : zI M 6 = nI 0 := hT.2.2.2.2.2.2.1
  have e3 : zI X 12 = zI M 3 := by rw [hT.2.2.2.1, hT.2.2.2.2.1]
  unfold fX5_readDefinition fX8_kind fX10_definition
  rw [zbd_r, k1, k2]
  by_cases hx : x = 2
  · have hm : m = 2 := by omega
    rw [if_pos (show nI x = nI 2 by rw [hx]), if_pos (show nI m = nI 2 by rw [hm])]
    unfold fX10_definition_14 fX4_size
    rw [m_can1 e6 k2 (by omega) (by omega), zbd_r, zbd_r, if_neg one0, g1, g2]
    by_cases hk20 : k = 20
    · rw [if_pos (show nI k = nI 20 by rw [hk20]), if_pos (qle (by omega))]
      right
      refine ⟨wI (wI X 8 (nI 3)) 9 (zI X 12), wI (wI M 6 (nI 3)) 7 (zI M 3), rfl, ?_, FL_of (by decide) e3, FQ_trans (FQ_I _ _ (by decide)) (FQ_I _ _ (by decide)), FQ_trans (FQ_I _ _ (by decide)) (FQ_I _ _ (by decide)), k, hk, g2⟩
      unfold fX10_definition_35
      rw [m_room0 e6, zbd_r, if_pos zer0]
    · rw [if_neg (nq hk20), if_neg (nlN (by omega))]
      unfold fX10_definition_35 fX8_name
      rw [m_room1 e6, zbd_r, zbd_r, if_neg one0]
      by_cases hdup : ∃ d, d < k ∧ zB M 3 d = zL M 0
      · obtain ⟨d, d1, d2, d3⟩ := min_ex k hdup
        rw [x_def g1 (by omega) d1 (by rw [hN d d1, d2]; exact (k5 hx).symm) (fun d' q z => d3 d' q (by rw [← hN d' (by omega), z]; exact k5 hx)), zbd_r, if_neg (nne (by omega) (by decide)), m_defY (by omega) g2 e6 k 0 zFU (by omega) (by rw [zFU_s]; omega) ⟨d, Nat.zero_le _, d1, d2⟩]
        right
        exact ⟨wI (wI X 8 (nI 4)) 9 (zI X 12), _, rfl, rfl, FL_of (by decide) e3, FQ_trans (FQ_I _ _ (by decide)) (FQ_I _ _ (by decide)), FQ_trans (FQ_I _ _ (by decide)) (FQ_I _ _ (by decide)), k, hk, g2⟩
      · have hn : ∀ d, d < k → zB M 3 d ≠ zL M 0 := fun d hd z => hdup ⟨d, hd, z⟩
        rw [x_defN g1 (by omega) (fun d hd z => hn d hd (by rw [← hN d hd, z]; exact k5 hx)), zbd_r, if_pos rfl, zbd_r, x_openD g1 g3 (by omega), zbd_r, m_defN (by omega) g2 k 0 zFU (by omega) (by rw [zFU_s]; omega) (fun d _ hd => hn d hd)]
        generalize hX1 : oD X k nd (zL X 0) = X1
        generalize hM1 : wA (wB M 3 k (zL M 0)) 4 k (nI 0) = M1
        have fX1 : FQ [13, 14, 15, 16] [6] [12] X X1 := by
          rw [← hX1]; unfold oD
          exact FQ_trans (FQ_trans (FQ_trans (FQ_trans (FQ_trans (FQ_B _ _ _ (by decide)) (FQ_A _ _ _ (by decide))) (FQ_A _ _ _ (by decide))) (FQ_A _ _ _ (by decide))) (FQ_A _ _ _ (by decide))) (FQ_I _ _ (by decide))
        have fM1 : FQ [4] [] [3] M M1 := by rw [← hM1]; exact FQ_trans (FQ_B _ _ _ (by decide)) (FQ_A _ _ _ (by decide))
        obtain ⟨pl2, X2, M2, r1, r2, r3, r4, r5, r6⟩ := adv hT (by rw [k1]; exact nq (by omega)) fX1 fM1 (by decide) (by decide) (by decide) (by decide) (by decide) (by decide)
        rw [r2, zbd_r, r3, zbd_r]
        unfold fX4_deedCount fX5_readParameters
        have fX2 : FQ [13, 14, 15, 16] [6, 10, 11, 12, 13] [12] X X2 := FQ_trans (FQ_mono fX1 (by decide) (by decide) (by decide)) (FQ_mono r5 (by decide) (by decide) (by decide))
        have fM2 : FQ [4] [2, 3, 4, 5] [3] M M2 := FQ_trans (FQ_mono fM1 (by decide) (by decide) (by decide)) (FQ_mono r6 (by decide) (by decide) (by decide))
        have x72 : zI X2 7 = nI nd := by rw [fX2.2.1 7 (by decide)]; exact g3
        rw [zbd_r, x72]
        have m42 : ∀ d, zA M2 4 d = if d = k then nI 0 else zA M 4 d := fun d => by rw [r6.1 4 (by simp), ← hM1]; rfl
        have m32 : ∀ d, zB M2 3 d = if d = k then zL M 0 else zB M 3 d := fun d => by rw [r6.2.2 3 (by simp), ← hM1]; rfl
        have x122 : ∀ d, zB X2 12 d = if d = k then zL X 0 else zB X 12 d := fun d => by rw [r5.2.2 12 (by simp), ← hX1]; rfl
        rcases par_loop (k := k) (by omega) 9 0 zFU zFU pl2 X2 M2 (by omega) (by rw [zFU_s]; omega) (by rw [zFU_s]; omega) r4 (by rw [m42, if_pos rfl]) (by omega) (fun j hj => by omega) with ⟨cnt, pl3, X3, M3, q1, q2, q3, q4, q5, q6, q7, q8, q9, q10, q11⟩ | ⟨X3, M3, q1, q2, q3, q4, q5⟩
        · rw [q3, zbd_r, if_neg (nne (by omega) (by decide)), q4]
          unfold fX10_definition_229
          rcases take_sim (kx := 6) (km := 61) q5 (by omega) (FQ_refl (la := []) (li := []) (lb := []) X3) (FQ_refl (la := []) (li := []) (lb := []) M3) (by decide) (by decide) (by decide) (by decide) (by decide) (by decide) with ⟨pl4, X4, M4, w1, w2, w3, w4, w5, w6⟩ | ⟨X4, M4, w2, w3, w4, w5, w6⟩
          · rw [w2, zbd_r, if_neg one0, w3, zbd_r, if_neg one0, zck_n (by omega) (by omega), ncl (by omega)]
            have fX4 : FQ [13, 14, 15, 16] [6, 10, 11, 12, 13] [12, 22] X X4 := FQ_trans (FQ_mono fX2 (by decide) (by decide) (by decide)) (FQ_trans (FQ_mono q8 (by decide) (by decide) (by decide)) (FQ_mono w5 (by decide) (by decide) (by decide)))
            have fM4 : FQ [4] [2, 3, 4, 5] [3, 5] M M4 := FQ_trans (FQ_mono fM2 (by decide) (by decide) (by decide)) (FQ_trans (FQ_mono q9 (by decide) (by decide) (by decide)) (FQ_mono w6 (by decide) (by decide) (by decide)))
            have m94 : zI M4 9 = nI nd := by rw [fM4.2.1 9 (by decide)]; exact g4
            have m84 : zI M4 8 = nI k := by rw [fM4.2.1 8 (by decide)]; exact g2
            rw [m94, m84, nadd]
            unfold fX10_expression
            generalize hM6 : wA (wA (wA (wI (wI (wI (wI (wA M4 6 k (nI nd)) 8 (nI (k + 1))) 12 (-1)) 14 (-1)) 12 (nI 0)) 17 0 (nI 0)) 18 0 (nI 0)) 19 0 (nI 0) = M6
            have hpush : fX10_push (nI 0) (wI (wI (wI (wA M4 6 k (nI nd)) 8 (nI (k + 1))) 12 (-1)) 14 (-1)) = some ((), M6) := by
              unfold fX10_push
              rw [show zI (wI (wI (wI (wA M4 6 k (nI nd)) 8 (nI (k + 1))) 12 (-1)) 14 (-1)) 12 + nI 1 = nI 0 by show (-1 : Int32) + nI 1 = nI 0; decide, zck_n (by omega) (by omega), zck_n (by omega) (by omega), zck_n (by omega) (by omega), ncl (by omega), hM6]
            rw [hpush, zbd_r]
            have fM46 : FQ [6, 17, 18, 19] [8, 12, 14] [] M4 M6 := by
              rw [← hM6]
              exact FQ_trans (FQ_trans (FQ_trans (FQ_trans (FQ_trans (FQ_trans (FQ_trans (FQ_A _ _ _ (by decide)) (FQ_I _ _ (by decide))) (FQ_I _ _ (by decide))) (FQ_I _ _ (by decide))) (FQ_I _ _ (by decide))) (FQ_A _ _ _ (by decide))) (FQ_A _ _ _ (by decide))) (FQ_A _ _ _ (by decide))
            have fM6 : FQ [4, 6, 17, 18, 19] [2, 3, 4, 5, 8, 12, 14] [3, 5] M M6 := FQ_trans (FQ_mono fM4 (by decide) (by decide) (by decide)) (FQ_mono fM46 (by decide) (by decide) (by decide))
            have hT6 : TK b tl pl4 X4 M6 := TK_c w4 fM46 (by rw [← hM6]; rfl) (by decide) (by decide) (by decide)
            have hP6 : PR b tl k nd X4 M6 pl4 nd nl ns (-1) := ⟨hT6, by rw [fX4.2.1 7 (by decide)]; exact g3, by rw [fM6.2.1 9 (by decide)]; exact g4, by rw [fM6.2.1 10 (by decide)]; exact g5, by rw [fM6.2.1 11 (by decide)]; exact g6, by rw [← hM6]; rfl, by omega, by rw [← hM6]; rfl, by omega, by omega, Nat.le_refl _, by rw [fM6.1 22 (by decide)]; exact hO⟩
            have inner := E_sim 20 0 (-1) G pl4 nd nl ns X4 M6 (by omega) (by omega) hP6 (by omega) (by omega) (by omega) (by rw [← hM6]; rfl) (by rw [fM6.2.1 13 (by decide)]; exact g7) (by rw [← hM6]; rfl) (by rw [← hM6]; rfl) (by rw [← hM6]; rfl) (by rw [hgt_b]; omega)
            rw [hgt_b] at inner
            have rX4 : rX X X4 := FQ_mono fX4 (by decide) (by decide) (by decide)
            have rM6 : rN M M6 := FQ_mono fM6 (by decide) (by decide) (by decide)
            rcases inner with ⟨X7, M7, pl7, nd7, nl7, ns7, G7, it, v1, v2, v3, v4, v5, v6, v7, v8⟩ | ⟨X7, M7, it, v1, v2, v3, v4, v5, v6⟩
            · have hPl7 := PR_nl v4
              obtain ⟨t1, t2, t3, t4, t5, ⟨u1, u2, u3, u4, u5, u6⟩, t7, t8, t9⟩ := v7
              obtain ⟨z1, z2, z3, z4, z5, z6, z7, z8, z9, z10, z11, z12⟩ := id v4
              obtain ⟨n, hn'⟩ : ∃ n, zFU = n + 1 + it := ⟨zFU - 1 - it, by rw [zFU_s]; omega⟩
              have v2' : fX10_expression_15L zFU M6 = some ((), M7) := by
                have := v2 (n + 1)
                have this : eL (n + 1 + it) M6 = eL (n + 1) M7 := this
                rw [← hn'] at this
                show eL zFU M6 = _
                rw [this, eL_end v5]
              rw [v1, zbd_r, if_neg one0, v2', zbd_r, zck_n (by omega) (by omega), z3]
              have fM78 : FQ [7] [] [] M7 (wA M7 7 k (nI nd7)) := FQ_A _ _ _ (by decide)
              rcases take_sim (kx := 7) (km := 59) z1 (by omega) (FQ_refl (la := []) (li := []) (lb := []) X7) fM78 (by decide) (by decide) (by decide) (by decide) (by decide) (by decide) with ⟨pl9, X9, M9, c1, c2, c3, c4, c5, c6⟩ | ⟨X9, M9, c2, c3, c4, c5, c6⟩
              · rw [c2, zbd_r, if_neg one0, c3, zbd_r]
                have fM79 : FQ [7] [2, 3, 4, 5] [] M7 M9 := FQ_trans (FQ_mono fM78 (by decide) (by decide) (by decide)) (FQ_mono c6 (by decide) (by decide) (by decide))
                have x79 : zI X9 7 = nI nd7 := by rw [c5.2.1 7 (by decide)]; exact z2
                obtain ⟨X10, a1, a2, a3, a4⟩ := tell_par (nd := nd7) (a := nd) (cnt := cnt) (by omega) t9.1 q1 cnt 0 zFU X9 (by omega) (by rw [zFU_s]; omega) x79
                have fX69 : FQ [13, 14, 15, 16, 17, 18, 19, 21] [6, 7, 10, 11, 12, 13] [12, 20, 22, 23] X X9 := FQ_trans (FQ_mono fX4 (by decide) (by decide) (by decide)) (FQ_trans (FQ_mono t7.1 (by decide) (by decide) (by decide)) (FQ_mono c5 (by decide) (by decide) (by decide)))
                have fX710 : ∀ q, q ∉ [17, 18] → zA X10 q = zA X7 q := fun q hq => by rw [a2.1 q hq, c5.1 q (by simp)]
                have x1k : ∀ q, q ∈ [13, 14, 15, 16] → zA X10 q = zA X1 q := fun q hq => by
                  have hq' : q = 13 ∨ q = 14 ∨ q = 15 ∨ q = 16 := by simpa using hq
                  rw [fX710 q (by simp; omega), t7.1.1 q (by simp; omega), w5.1 q (by simp), q8.1 q (by simp), r5.1 q (by simp)]
                have x6 : zI X10 6 = nI (k + 1) := by rw [a2.2.1 6 (by decide), c5.2.1 6 (by decide), t7.1.2.1 6 (by decide), w5.2.1 6 (by decide), q8.2.1 6 (by decide), r5.2.1 6 (by decide), ← hX1]; rfl
                have x7' : zI X10 7 = nI nd7 := by rw [a2.2.1 7 (by decide)]; exact x79
                have sg9 : SEG G7 X9 M9 nd nd7 nl nl7 ns ns7 k (-1) 0 nd := SEG_c (by omega) (fun i hi => ⟨⟨by rw [c5.1 17 (by simp)], by rw [c5.1 18 (by simp)], by rw [c5.1 19 (by simp)], by rw [c5.1 21 (by simp)], by rw [c5.2.2 20 (by simp)]⟩, by rw [fM79.1 9 (by decide)], by rw [fM79.1 10 (by decide)], by rw [fM79.1 12 (by decide)], by rw [fM79.1 13 (by decide)], by rw [fM79.2.2 11 (by decide)]⟩) (fun l _ => by rw [fM79.1 14 (by decide)]) (fun s _ => ⟨by rw [fM79.1 22 (by decide)], by rw [fM79.1 23 (by decide)], by rw [fM79.2.2 16 (by decide)]⟩) (fun _ _ => rfl) t9
                generalize hXc : wA (wA X10 13 k (nI cnt)) 15 k (nI nd7) = Xc
                have hcnt : fX4_countNodes (nI nd) Xc = some (nI (wsum X9 nd nd7), Xc) := by
                  unfold fX4_countNodes
                  rw [x_countL (X := Xc) (nd := nd7) (by rw [← hXc]; exact x7') (by omega) (nd7 - nd) nd zFU 0 (by have := t9.1; omega) (by rw [zFU_s]; omega) (fun j y1 y2 => by
                    have := TB_wok (dk := 3) (by omega) a4 (DR_wok sg9 y1 y2)
                    rw [← hXc]; exact this), Nat.zero_add]
                  rw [wsum_c (X := X9) (X' := Xc) nd7 (fun i _ _ => by rw [← TB_w (dk := 3) (by omega) a4 i, ← hXc]; rfl)]
                have hclose : fX4_closeDefinition (nI cnt) X10 = some ((), wA Xc 16 k (nI (wsum X9 nd nd7))) := by
                  unfold fX4_closeDefinition
                  rw [x6, nsub (by omega), show k + 1 - 1 = k by omega, if_neg (nneg (by omega)), if_neg (nlN (by omega)), zck_n (by omega) (by omega), zck_n (by omega) (by omega), zld_n (by omega) (by omega), ncl (by omega), x7', hXc, x1k 14 (by decide), show zA X1 14 k = nI nd by rw [← hX1]; exact updS _ _ _, hcnt, zbd_r, zck_n (by omega) (by omega)]
                rw [a1]
                unfold fX5_readDefinition_177
                rw [hclose, zbd_r]
                generalize hXe : wA Xc 16 k (nI (wsum X9 nd nd7)) = Xe
                have fXe : FQ [13, 15, 16] [] [] X10 Xe := by rw [← hXe, ← hXc]; exact FQ_trans (FQ_trans (FQ_A _ _ _ (by decide)) (FQ_A _ _ _ (by decide))) (FQ_A _ _ _ (by decide))
                have xe : ∀ d, zA Xe 13 d = (if d = k then nI cnt else zA X 13 d) ∧ zA Xe 14 d = (if d = k then nI nd else zA X 14 d) ∧ zA Xe 15 d = (if d = k then nI nd7 else zA X 15 d) ∧ zA Xe 16 d = (if d = k then nI (wsum X9 nd nd7) else zA X 16 d) := fun d => by
                  have e13 : zA Xe 13 d = upd (zA X10 13) k (nI cnt) d := by rw [← hXe, ← hXc]; rfl
                  have e14 : zA Xe 14 d = zA X10 14 d := by rw [fXe.1 14 (by decide)]
                  have e15 : zA Xe 15 d = upd (zA X10 15) k (nI nd7) d := by rw [← hXe, ← hXc]; rfl
                  have e16 : zA Xe 16 d = upd (zA X10 16) k (nI (wsum X9 nd nd7)) d := by rw [← hXe, ← hXc]; rfl
                  rw [e13, e14, e15, e16, x1k 13 (by decide), x1k 14 (by decide), x1k 15 (by decide), x1k 16 (by decide), upd_ite, upd_ite, upd_ite, ← hX1]
                  by_cases z : d = k
                  · rw [if_pos z, if_pos z, if_pos z, if_pos z, if_pos z, if_pos z, if_pos z]
                    refine ⟨rfl, ?_, rfl, rfl⟩
                    rw [z]; exact updS _ _ _
                  · rw [if_neg z, if_neg z, if_neg z, if_neg z, if_neg z, if_neg z, if_neg z]
                    exact ⟨updN _ _ z, updN _ _ z, updN _ _ z, updN _ _ z⟩
                have dqlt : ∀ i, i < nd → DQ X M Xe M9 i := fun i hi => by
                  obtain ⟨⟨y1, y2, y3, y4, y5⟩, y6, y7, y8, y9, y10⟩ := u1 i hi
                  obtain ⟨s1, s2⟩ := (a4 i).2 (Or.inl (fun w => by omega))
                  refine ⟨⟨?_, ?_, ?_, ?_, ?_⟩, ?_, ?_, ?_, ?_, ?_⟩
                  · rw [fXe.1 17 (by decide), s1, c5.1 17 (by simp), y1, fX4.1 17 (by decide)]
                  · rw [fXe.1 18 (by decide), s2, c5.1 18 (by simp), y2, fX4.1 18 (by decide)]
                  · rw [fXe.1 19 (by decide), fX710 19 (by decide), y3, fX4.1 19 (by decide)]
                  · rw [fXe.1 21 (by decide), fX710 21 (by decide), y4, fX4.1 21 (by decide)]
                  · rw [fXe.2.2 20 (by decide), a2.2.2 20 (by decide), c5.2.2 20 (by decide), y5, fX4.2.2 20 (by decide)]
                  · rw [fM79.1 9 (by decide), y6, fM6.1 9 (by decide)]
                  · rw [fM79.1 10 (by decide), y7, fM6.1 10 (by decide)]
                  · rw [fM79.1 12 (by decide), y8, fM6.1 12 (by decide)]
                  · rw [fM79.1 13 (by decide), y9, fM6.1 13 (by decide)]
                  · rw [fM79.2.2 11 (by decide), y10, fM6.2.2 11 (by decide)]
                have m4' : ∀ d, zA M9 4 d = if d = k then nI cnt else zA M 4 d := fun d => by
                  rw [fM79.1 4 (by decide), t8.1.1 4 (by decide), fM46.1 4 (by decide), w6.1 4 (by simp)]
                  by_cases z : d = k
                  · rw [if_pos z, z]; exact q6
                  · rw [if_neg z, q10 d z, m42, if_neg z]
                have m6' : ∀ d, zA M9 6 d = if d = k then nI nd else zA M 6 d := fun d => by
                  rw [fM79.1 6 (by decide), t8.1.1 6 (by decide), ← fM4.1 6 (by decide), ← hM6]
                  show upd (zA M4 6) k (nI nd) d = _
                  rw [upd_ite]
                have m7' : ∀ d, zA M9 7 d = if d = k then nI nd7 else zA M 7 d := fun d => by
                  rw [c6.1 7 (by simp)]
                  show upd (zA M7 7) k (nI nd7) d = _
                  rw [upd_ite, t8.1.1 7 (by decide), fM6.1 7 (by decide)]
                have m5' : zB M9 5 = zB M3 5 := by rw [fM79.2.2 5 (by decide), t8.1.2.2 5 (by decide), fM46.2.2 5 (by decide), w6.2.2 5 (by simp)]
                have m3' : ∀ d, zB M9 3 d = if d = k then zL M 0 else zB M 3 d := fun d => by rw [fM79.2.2 3 (by decide), t8.1.2.2 3 (by decide), fM46.2.2 3 (by decide), w6.2.2 3 (by simp), q9.2.2 3 (by decide), m32]
                have x12' : ∀ d, zB Xe 12 d = if d = k then zL X 0 else zB X 12 d := fun d => by rw [fXe.2.2 12 (by decide), a2.2.2 12 (by decide), c5.2.2 12 (by simp), t7.1.2.2 12 (by decide), w5.2.2 12 (by simp), q8.2.2 12 (by decide), x122]
                have x22 : zB X9 22 = zB X3 22 := by rw [c5.2.2 22 (by simp), t7.1.2.2 22 (by decide), w5.2.2 22 (by simp)]
                have hTe : TK b tl pl9 Xe M9 := TK_cX (TK_cX c4 a2 a3 (by decide) (by decide) (by decide)) fXe (by rw [← hXe, ← hXc]; rfl) (by decide) (by decide) (by decide)
                have o22 : ∀ s, s < ns → zA M9 22 s = zA M 22 s ∧ zA M9 23 s = zA M 23 s ∧ zB M9 16 s = zB M 16 s := fun s hs => by
                  obtain ⟨y1, y2, y3⟩ := u3 s hs
                  rw [fM79.1 22 (by decide), fM79.1 23 (by decide), fM79.2.2 16 (by decide), y1, y2, y3, fM6.1 22 (by decide), fM6.1 23 (by decide), fM6.2.2 16 (by decide)]
                  exact ⟨rfl, rfl, rfl⟩
                left
                refine ⟨Xe, M9, pl9, nd7, nl7, ns7, G7, fun j => if j = k + 1 then nd7 else bs j, fun j => if j = k + 1 then nl7 else ls j, fun j => if j = k + 1 then ns7 else ss j, fun j => if j = k then cnt else pd j, fun j => if j = k then X9 else Y j, fun j => if j = k then X10 else Z j, by omega, rfl, rfl, ⟨hTe, by omega, ⟨by rw [fXe.2.1 6 (by decide)]; exact x6, by rw [fM79.2.1 8 (by decide)]; exact z6, by rw [fXe.2.1 7 (by decide)]; exact x7', by rw [fM79.2.1 9 (by decide)]; exact z3, by rw [fM79.2.1 10 (by decide)]; exact z4, by rw [fM79.2.1 11 (by decide)]; exact z5, by rw [fM79.2.1 13 (by decide)]; exact v6⟩, ⟨by omega, by omega, by omega⟩, ⟨if_pos rfl, if_pos rfl, if_pos rfl, (if_neg (show ¬ 0 = k + 1 by omega)).trans g14, (if_neg (show ¬ 0 = k + 1 by omega)).trans g15, (if_neg (show ¬ 0 = k + 1 by omega)).trans g16⟩, by rw [fM79.1 22 (by decide)]; exact z12, fun d hd => ?_, fun d d' y1 y2 => ?_, fun d hd => ?_⟩, FQ_trans (FQ_mono fX69 (by decide) (by decide) (by decide)) (FQ_trans (FQ_mono a2 (by decide) (by decide) (by decide)) (FQ_mono fXe (by decide) (by decide) (by decide))), FQ_trans rM6 (FQ_trans (rN_M (rM_e t8)) (FQ_mono fM79 (by decide) (by decide) (by decide)))⟩
                · rw [x12', m3']
                  by_cases z : d = k
                  · rw [if_pos z, if_pos z]; exact k5 hx
                  · rw [if_neg z, if_neg z]; exact hN d (by omega)
                · rw [m3', m3', if_neg (by omega)]
                  by_cases z : d' = k
                  · rw [if_pos z]; exact hn d (by omega)
                  · rw [if_neg z]; exact hQ d d' y1 (by omega)
                · by_cases z : d = k
                  · subst z
                    simp only [if_pos, if_neg (show ¬ d = d + 1 by omega)]
                    rw [g11, g12, g13]
                    refine ⟨⟨t9.1, Nat.le_refl _, Nat.le_refl _, Nat.le_refl _⟩, ⟨?_, ?_, q1, ?_, ?_, ?_, ?_, ?_⟩, by omega, ?_, sg9, a2, ?_, fun i y1 y2 => ⟨by rw [fXe.1 17 (by decide)], by rw [fXe.1 18 (by decide)], by rw [fXe.1 19 (by decide)], by rw [fXe.1 21 (by decide)], by rw [fXe.2.2 20 (by decide)]⟩⟩
                    · rw [(xe d).1, if_pos rfl]
                    · rw [m4', if_pos rfl]
                    · rw [(xe d).2.1, if_pos rfl]
                    · rw [(xe d).2.2.1, if_pos rfl]
                    · rw [(xe d).2.2.2, if_pos rfl]
                    · rw [m6', if_pos rfl]
                    · rw [m7', if_pos rfl]
                    · rw [hgt_c nd7 (M := M7) (fun j _ => ⟨by rw [fM79.1 9 (by decide)], by rw [fM79.1 10 (by decide)]⟩)]; exact v8
                    · refine TB_B (fun j hj => ?_) a4
                      show zB M9 5 (8 * d + j) = zB X9 22 j
                      rw [m5', x22]; exact (q7 j hj).symm
                  · simp only [if_neg z, if_neg (show ¬ d = k + 1 by omega), if_neg (show ¬ d + 1 = k + 1 by omega)]
                    obtain ⟨⟨y1, y2, y3, y4⟩, y5⟩ := hD d (by omega)
                    refine ⟨⟨y1, by have := t9.1; omega, by omega, by omega⟩, DF_t (by omega) (fun q hq => ?_) (fun q hq => ?_) (fun j hj => ?_) (fun i hi => dqlt i (by omega)) (fun l hl => ?_) (fun s hs => o22 s (by omega)) (fun l hl => t5 l (by omega)) y5⟩
                    · simp only [List.mem_cons, List.not_mem_nil, or_false] at hq
                      obtain ⟨e1, e2, e3', e4⟩ := xe d
                      rcases hq with e | e | e | e <;> subst e
                      · rw [e1, if_neg z]
                      · rw [e2, if_neg z]
                      · rw [e3', if_neg z]
                      · rw [e4, if_neg z]
                    · simp only [List.mem_cons, List.not_mem_nil, or_false] at hq
                      rcases hq with e | e | e <;> subst e
                      · rw [m4', if_neg z]
                      · rw [m6', if_neg z]
                      · rw [m7', if_neg z]
                    · rw [m5', q11 _ (by omega), fM2.2.2 5 (by decide)]
                    · rw [fM79.1 14 (by decide), (u2 l (by omega)).1, fM6.1 14 (by decide)]
              · rw [c2, zbd_r, if_pos zer0, c3, zbd_r]
                right
                exact ⟨X9, M9, rfl, rfl, c4, FQ_trans rX4 (FQ_trans (rX_e t7) (FQ_mono c5 (by decide) (by decide) (by decide))), FQ_trans rM6 (FQ_trans (rN_M (rM_e t8)) (FQ_trans (FQ_mono fM78 (by decide) (by decide) (by decide)) (FQ_mono c6 (by decide) (by decide) (by decide)))), k + 1, by omega, by rw [c6.2.1 8 (by decide), fM78.2.1 8 (by decide)]; exact z6⟩
            · obtain ⟨n, hn'⟩ : ∃ n, zFU = n + 1 + it := ⟨zFU - 1 - it, by rw [zFU_s]; omega⟩
              have v2' : fX10_expression_15L zFU M6 = some ((), M7) := by
                rw [hn']; exact v2 n
              rw [v1, zbd_r, if_pos zer0, v2', zbd_r, zck_n (by omega) (by omega), m_needF (M := wA M7 7 k (zI M7 9)) v4.2.1, zbd_r]
              right
              exact ⟨X7, wA M7 7 k (zI M7 9), rfl, rfl, v4, FQ_trans rX4 v5, FQ_trans rM6 (FQ_trans (rN_M v6) (FQ_A _ _ _ (by decide))), k + 1, by omega, by show zI M7 8 = _; rw [v6.2.1 8 (by decide), ← hM6]; rfl⟩
          · rw [w2, zbd_r, if_pos zer0, w3, zbd_r, if_pos zer0]
            right
            exact ⟨X4, M4, rfl, rfl, w4, FQ_trans (FQ_mono fX2 (by decide) (by decide) (by decide)) (FQ_trans (FQ_mono q8 (by decide) (by decide) (by decide)) (FQ_mono w5 (by decide) (by decide) (by decide))), FQ_trans (FQ_mono fM2 (by decide) (by decide) (by decide)) (FQ_trans (FQ_mono q9 (by decide) (by decide) (by decide)) (FQ_mono w6 (by decide) (by decide) (by decide))), k, hk, by rw [w6.2.1 8 (by decide), q9.2.1 8 (by decide), fM2.2.1 8 (by decide)]; exact g2⟩
        · rw [q1, zbd_r, if_pos rfl, q2]
          right
          exact ⟨X3, M3, rfl, rfl, q3, FQ_trans (FQ_mono fX2 (by decide) (by decide) (by decide)) q4, FQ_trans (FQ_mono fM2 (by decide) (by decide) (by decide)) (rN_M q5), k, hk, by rw [q5.2.1 8 (by decide), fM2.2.1 8 (by decide)]; exact g2⟩
  · have hm : m ≠ 2 := by omega
    rw [if_neg (nq hx), if_neg (nq hm), x_cannot k1 (by omega), zbd_r]
    right
    have hc' : (if m = 5 then nI 1 else nI 2) = (if x = 10 then nI 1 else nI 2) := by
      by_cases y : x = 10
      · rw [if_pos y, if_pos (by omega)]
      · rw [if_neg y, if_neg (by omega)]
    have hc0 : ¬ (if x = 10 then nI 1 else nI 2) = 0 := by
      by_cases y : x = 10
      · rw [if_pos y]; decide
      · rw [if_neg y]; decide
    refine ⟨_, wI (wI M 6 (if x = 10 then nI 1 else nI 2)) 7 (zI M 3), rfl, ?_, FL_of hc0 e3, FQ_trans (FQ_I _ _ (by decide)) (FQ_I _ _ (by decide)), FQ_trans (FQ_I _ _ (by decide)) (FQ_I _ _ (by decide)), k, hk, g2⟩
    unfold fX10_definition_14
    rw [m_can0 e6 k2 (by omega), zbd_r, if_pos zer0, hc']
