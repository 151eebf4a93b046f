/-- a let, some of its BINDINGS read -/
def LI (b : Nat → Nat) (tl dd bg o l a n0 cnt h0 : Nat) (c : Int32) (G : Nat → Nat × Nat × Nat) (pl nd nl ns : Nat) (X M : zSt) : Prop :=
  PR b tl dd bg X M pl nd nl ns (nI l) ∧ (zI M 12 = nI o ∧ zI M 13 = nI (o + 1) ∧ zA M 17 o = nI 1 ∧ zA M 20 o = nI l ∧ zA M 14 l = c ∧ zA M 15 l = nI cnt) ∧ (bg ≤ a ∧ zA X 17 a = nI 6 ∧ zA M 9 a = nI 9 ∧ zA M 10 a = nI l) ∧ LSG G X M a nd l nl ns o bg ∧ rk M l ns = cnt ∧ (∀ s, s < ns → zA M 22 s = nI l → zB X 23 (6 * o + rk M l s) = zB M 16 s) ∧ n0 ≤ ns ∧ psum X (a + 1) nd + n0 + cnt = ns ∧ (∀ s, n0 ≤ s → s < ns → zA M 23 s = nI dd ∧ ∃ l', l ≤ l' ∧ l' < nl ∧ zA M 22 s = nI l') ∧ hgt M bg nd = h0
/-- since the let began -/
def LST (e o : Nat) (G0 : Nat → Nat × Nat × Nat) (pl0 a l n0 : Nat) (X0 M0 : zSt) (G : Nat → Nat × Nat × Nat) (pl nd nl ns : Nat) (X M : zSt) : Prop :=
  pl0 < pl ∧ nd + pl0 ≤ a + pl ∧ 3 * nl + pl0 ≤ 3 * l + pl + e ∧ 3 * ns + pl0 ≤ 3 * n0 + pl ∧ (∀ l', l' < l → G l' = G0 l') ∧ EXT a l n0 X0 M0 nl ns X M ∧ eX o X0 X ∧ eM o M0 M
theorem o6 : ∀ o : Fin 13, nI o.val * nI 6 = nI (6 * o.val) := by decide
theorem m_push {M : zSt} {o : Nat} (h12 : zI M 12 = nI o) (ho : o < 59) : fX10_push (nI 0) M = some ((), wA (wA (wA (wI M 12 (nI (o + 1))) 17 (o + 1) (nI 0)) 18 (o + 1) (nI 0)) 19 (o + 1) (nI 0)) := by
  unfold fX10_push
  rw [h12, nadd, zck_n (by omega) (by omega), zck_n (by omega) (by omega), zck_n (by omega) (by omega), ncl (by omega)]
theorem binding_sim {b : Nat → Nat} {tl dd bg d o l a n0 cnt h0 : Nat} {c : Int32} {G0 G : Nat → Nat × Nat × Nat} {pl0 pl nd nl ns : Nat} {X0 M0 X M : zSt} (IH : ES b tl dd bg d) (ho : o < 12) (hod : 12 < o + (d + 1)) (hh0 : h0 ≤ 9 * o) (ha : a + 1 ≤ pl0) (hl : 3 * l ≤ pl0) (hn : 3 * n0 ≤ pl0 + o) (hc : cnt ≤ 6) (hI : LI b tl dd bg o l a n0 cnt h0 c G pl nd nl ns X M) (hL : LST (if cnt = 0 then 2 else 0) o G0 pl0 a l n0 X0 M0 G pl nd nl ns X M) :
    (∃ (X8 M8 : zSt) (pl8 nd8 nl8 ns8 : Nat) (G8 : Nat → Nat × Nat × Nat) (it : Nat), cnt < 6 ∧ fX5_readBinding (fX5_E d) (nI o) (nI cnt) X = some (nI 1, X8) ∧ (∀ n, zbd (fX10_let_238 (nI o) (nI l) M) (fun _ S => eL (n + it) S) = zbd (fX10_let_163 (nI o) (nI l) M8) (fun _ S => eL n S)) ∧ it + 3 * pl ≤ 3 * pl8 ∧ zA M8 18 o = nI 1 ∧ LI b tl dd bg o l a n0 (cnt + 1) h0 c G8 pl8 nd8 nl8 ns8 X8 M8 ∧ LST 0 o G0 pl0 a l n0 X0 M0 G8 pl8 nd8 nl8 ns8 X8 M8 ∧ rX X X8 ∧ rM M M8)
    ∨ BAE tl 0 pl X M (fX5_readBinding (fX5_E d) (nI o) (nI cnt) X) (fun n => zbd (fX10_let_238 (nI o) (nI l) M) (fun _ S => eL n S)) := by
  obtain ⟨hP, ⟨i12, i13, i17, i20, i14, i15⟩, ⟨j1, j2, j3, j4⟩, hS, hrk, hbd, hn0, hps, how, hgt0⟩ := hI
  obtain ⟨l1, l2, l3, l4, l5, l6, l7, l8⟩ := hL
  have hPl := PR_nl hP
  obtain ⟨p1, p2, p3, p4, p5, p6, p7, p8, p9, p10, p11, p12⟩ := id hP
  obtain ⟨x, m, k1, k2, k3, k4, k5, k6⟩ := TK_kp p1
  unfold KP at k3
  have e6 : zI M 6 = nI 0 := p1.2.2.2.2.2.2.1
  have e3 : zI X 12 = zI M 3 := by rw [p1.2.2.2.1, p1.2.2.2.2.1]
  have hs1 : a + 1 ≤ nd := hS.1
  have hs2 : l + 1 ≤ nl := hS.2.1
  have e6o : nI o * nI 6 = nI (6 * o) := o6 ⟨o, by omega⟩
  have h3e : 3 * nl + pl0 ≤ 3 * l + pl + 2 := by
    by_cases z : cnt = 0
    · rw [if_pos z] at l3; exact l3
    · rw [if_neg z] at l3; omega
  unfold fX5_readBinding fX8_kind
  rw [zbd_r, k1]
  by_cases hx : x = 2
  · have hm : m = 2 := by omega
    rw [if_pos (by rw [hx])]
    have m252 : fX10_let_238 (nI o) (nI l) M = if nI 6 ≤ nI cnt then fX10_let_275 (nI o) (nI l) (nI 0) M else fX10_let_275 (nI o) (nI l) (nI 1) M := by
      unfold fX10_let_238 fX10_let_252
      rw [k2, if_pos (by rw [hm]), m_can1 e6 k2 (by omega) (by omega), zbd_r, if_neg one0, zld_n (by omega) (by omega), i15]
    by_cases h6 : cnt = 6
    · rw [if_pos (qle (by omega))]
      right
      refine ⟨wI (wI X 8 (nI 3)) 9 (zI X 12), wI (wI M 6 (nI 3)) 7 (zI M 3), 0, rfl, fun n => ?_, by omega, FL_of (by decide) e3, FQ_trans (FQ_I _ _ (by decide)) (FQ_I _ _ (by decide)), FQ_trans (FQ_I _ _ (by decide)) (FQ_I _ _ (by decide))⟩
      show zbd (fX10_let_238 (nI o) (nI l) M) (fun _ S => eL (n + 1 + 0) S) = _
      rw [m252, if_pos (qle (by omega))]
      unfold fX10_let_275
      rw [m_room0 e6, zbd_r, if_pos zer0, zbd_r]
      exact eL_bad (show ¬ nI 3 = 0 by decide)
    · rw [if_neg (nlN (by omega)), e6o, nadd, if_neg (nneg (by omega)), if_pos (pt (by omega))]
      unfold fX8_name fX5_has_23
      rw [zbd_r, if_pos (show (0 : Int32) ≤ nI (6 * o) from qle (a := 0) (Nat.zero_le _))]
      rw [if_neg (nlN (by omega))] at m252
      have m275 : fX10_let_238 (nI o) (nI l) M = fX10_let_284L zFU (nI o, nI l, nI 0, M) := by
        rw [m252]
        unfold fX10_let_275
        rw [m_room1 e6, zbd_r, if_neg one0]
      by_cases hdup : ∃ s, s < ns ∧ zA M 22 s = nI l ∧ zB M 16 s = zL M 0
      · obtain ⟨s, s1, s2, s3⟩ := hdup
        rw [x_hasY (by omega) cnt (6 * o) zFU (by omega) (by rw [zFU_s]; omega) ⟨6 * o + rk M l s, by omega, by have := rk_lt M l s1 s2; omega, by rw [hbd s s1 s2, s3]; exact (k5 hx).symm⟩, zbd_r, if_neg one0]
        right
        refine ⟨wI (wI X 8 (nI 4)) 9 (zI X 12), wI (wI M 6 (nI 4)) 7 (zI M 3), 0, rfl, fun n => ?_, by omega, FL_of (by decide) e3, FQ_trans (FQ_I _ _ (by decide)) (FQ_I _ _ (by decide)), FQ_trans (FQ_I _ _ (by decide)) (FQ_I _ _ (by decide))⟩
        show zbd (fX10_let_238 (nI o) (nI l) M) (fun _ S => eL (n + 1 + 0) S) = _
        rw [m275, m_dupY p5 (by omega) e6 ns 0 zFU (by omega) (by rw [zFU_s]; omega) ⟨s, Nat.zero_le _, s1, s2, s3⟩, zbd_r]
        exact eL_bad (show ¬ nI 4 = 0 by decide)
      · rw [x_hasN (by omega) cnt (6 * o) zFU (by omega) (by rw [zFU_s]; omega) (fun j q1 q2 q3 => by
          obtain ⟨s, s1, s2, s3⟩ := rk_surj M l (j - 6 * o) ns (by omega)
          refine hdup ⟨s, s1, s2, ?_⟩
          rw [← hbd s s1 s2, s3, show 6 * o + (j - 6 * o) = j by omega, q3]; exact k5 hx), zbd_r, if_pos zer0, zbd_r, zck_n (by omega) (by omega), ncl (by omega)]
        rw [m_dupN p5 (by omega) (by omega) (by omega) i15 p6 ns 0 zFU (by omega) (by rw [zFU_s]; omega) (fun s _ s1 s2 s3 => hdup ⟨s, s1, s2, s3⟩)] at m275
        generalize hX1 : wB X 23 (6 * o + cnt) (zL X 0) = X1
        generalize hM1 : mS M o l ns cnt dd = M1 at m275
        have fX1 : FQ [] [] [23] X X1 := by rw [← hX1]; exact FQ_B _ _ _ (by decide)
        have fM1 : FQ [15, 21, 22, 23] [11] [16] M M1 := by
          rw [← hM1]; unfold mS
          exact FQ_trans (FQ_trans (FQ_trans (FQ_trans (FQ_trans (FQ_B _ _ _ (by decide)) (FQ_A _ _ _ (by decide))) (FQ_A _ _ _ (by decide))) (FQ_A _ _ _ (by decide))) (FQ_I _ _ (by decide))) (FQ_A _ _ _ (by decide))
        obtain ⟨pl2, X2, M2, r1, r2, r3, r4, r5, r6⟩ := adv p1 (by rw [k1]; exact nq (by omega)) fX1 fM1 (by decide) (by decide) (by decide) (by decide) (by decide) (by decide)
        rw [r2, zbd_r]
        rcases take_sim (kx := 6) (km := 61) r4 (by omega) (FQ_refl (la := []) (li := []) (lb := []) X2) (FQ_refl (la := []) (li := []) (lb := []) M2) (by decide) (by decide) (by decide) (by decide) (by decide) (by decide) with ⟨pl3, X3, M3, w1, w2, w3, w4, w5, w6⟩ | ⟨X3, M3, w2, w3, w4, w5, w6⟩
        · rw [w2, zbd_r, if_neg one0, nadd]
          generalize hM4 : wA (wA (wA (wI (wA M3 18 o (nI 2)) 12 (nI (o + 1))) 17 (o + 1) (nI 0)) 18 (o + 1) (nI 0)) 19 (o + 1) (nI 0) = M4
          have fM4 : FQ [17, 18, 19] [12] [] M3 M4 := by rw [← hM4]; exact FQ_trans (FQ_A _ _ _ (by decide)) (FQ_trans (FQ_I _ _ (by decide)) (FQ_trans (FQ_A _ _ _ (by decide)) (FQ_trans (FQ_A _ _ _ (by decide)) (FQ_A _ _ _ (by decide)))))
          have fX3 : FQ [] [10, 11, 12, 13] [23] X X3 := FQ_trans (FQ_mono fX1 (by decide) (by decide) (by decide)) (FQ_mono (FQ_trans r5 w5) (by decide) (by decide) (by decide))
          have fM3 : FQ [15, 21, 22, 23] [2, 3, 4, 5, 11] [16] M M3 := FQ_trans (FQ_mono fM1 (by decide) (by decide) (by decide)) (FQ_mono (FQ_trans r6 w6) (by decide) (by decide) (by decide))
          have fMM4 : FQ [15, 17, 18, 19, 21, 22, 23] [2, 3, 4, 5, 11, 12] [16] M M4 := FQ_trans (FQ_mono fM3 (by decide) (by decide) (by decide)) (FQ_mono fM4 (by decide) (by decide) (by decide))
          have fM14 : ∀ k, k ∉ [17, 18, 19] → zA M4 k = zA M1 k := fun k hk => by rw [fM4.1 k hk, w6.1 k (by simp), r6.1 k (by simp)]
          have fB4 : zB M4 16 = zB M1 16 := by rw [fM4.2.2 16 (by decide), w6.2.2 16 (by decide), r6.2.2 16 (by decide)]
          have m15 : ∀ k, zA M1 15 k = if k = l then nI (cnt + 1) else zA M 15 k := fun k => by rw [← hM1]; rfl
          have m21 : zA M1 21 o = nI ns := by rw [← hM1]; exact updS _ _ _
          have m22 : ∀ s, zA M1 22 s = if s = ns then nI l else zA M 22 s := fun k => by rw [← hM1]; rfl
          have m23 : ∀ s, zA M1 23 s = if s = ns then nI dd else zA M 23 s := fun k => by rw [← hM1]; rfl
          have m16 : ∀ s, zB M1 16 s = if s = ns then zL M 0 else zB M 16 s := fun k => by rw [← hM1]; rfl
          have x23 : ∀ j, zB X3 23 j = if j = 6 * o + cnt then zL X 0 else zB X 23 j := fun j => by rw [w5.2.2 23 (by simp), r5.2.2 23 (by simp), ← hX1]; rfl
          have hgt4 : hgt M4 bg nd = h0 := by rw [← hgt0]; exact hgt_c nd (fun j _ => ⟨by rw [fMM4.1 9 (by decide)], by rw [fMM4.1 10 (by decide)]⟩)
          have hT4 : TK b tl pl3 X3 M4 := TK_c w4 fM4 (by rw [← hM4]; rfl) (by decide) (by decide) (by decide)
          have hP4 : PR b tl dd bg X3 M4 pl3 nd nl (ns + 1) (nI l) := ⟨hT4, by rw [fX3.2.1 7 (by decide)]; exact p2, by rw [fMM4.2.1 9 (by decide)]; exact p3, by rw [fMM4.2.1 10 (by decide)]; exact p4, by rw [fM4.2.1 11 (by decide), w6.2.1 11 (by decide), r6.2.1 11 (by decide), ← hM1]; rfl, by rw [fMM4.2.1 8 (by decide)]; exact p6, p7, by rw [fMM4.2.1 14 (by decide)]; exact p8, by omega, by omega, p11, fun s hs => by
            rw [fM14 22 (by decide), m22]
            by_cases z : s = ns
            · exact ⟨l, by omega, by rw [if_pos z]⟩
            · rw [if_neg z]; exact p12 s (by omega)⟩
          have hm4 : ∀ n, zbd (fX10_let_238 (nI o) (nI l) M) (fun _ S => eL n S) = eL n M4 := fun n => by
            rw [m275, r3, zbd_r, w3, zbd_r, if_neg one0, m_push (o := o) (show zI (wA M3 18 o (nI 2)) 12 = nI o by
              show zI M3 12 = _
              rw [fM3.2.1 12 (by decide)]; exact i12) (by omega), zbd_r, hM4, zbd_r]
          have a18 : ∀ q, q < o → zA M4 18 q = zA M 18 q := fun q hq => by
            rw [← hM4]
            show upd (upd (zA M3 18) o (nI 2)) (o + 1) (nI 0) q = _
            rw [updN _ _ (by omega), updN _ _ (by omega), fM3.1 18 (by decide)]
          have a18o : zA M4 18 o = nI 2 := by
            rw [← hM4]
            show upd (upd (zA M3 18) o (nI 2)) (o + 1) (nI 0) o = _
            rw [updN _ _ (by omega), updS]
          have a17 : ∀ q, q < o + 1 → zA M4 17 q = zA M 17 q := fun q hq => by
            rw [← hM4]
            show upd (zA M3 17) (o + 1) (nI 0) q = _
            rw [updN _ _ (by omega), fM3.1 17 (by decide)]
          have a19 : ∀ q, q < o + 1 → zA M4 19 q = zA M 19 q := fun q hq => by
            rw [← hM4]
            show upd (zA M3 19) (o + 1) (nI 0) q = _
            rw [updN _ _ (by omega), fM3.1 19 (by decide)]
          have a21 : ∀ q, q < o → zA M4 21 q = zA M 21 q := fun q hq => by
            rw [fM14 21 (by decide), ← hM1]
            exact updN _ _ (by omega)
          have rX4 : rX X X3 := FQ_mono fX3 (by decide) (by decide) (by decide)
          have rM4 : rM M M4 := FQ_mono fMM4 (by decide) (by decide) (by decide)
          have inner := IH (o + 1) (nI l) G pl3 nd nl (ns + 1) X3 M4 (by omega) (by omega) hP4 (by omega) (by omega) (by omega) (by rw [← hM4]; rfl) (by rw [fMM4.2.1 13 (by decide)]; exact i13) (by rw [← hM4]; exact updS _ _ _) (by rw [← hM4]; exact updS _ _ _) (by rw [← hM4]; exact updS _ _ _) (by rw [hgt4]; omega)
          rcases inner with ⟨X5, M5, pl5, nd5, nl5, ns5, G5, it, q1, q2, q3, q4, q5, q6, q7, q8⟩ | ⟨X5, M5, it, q1, q2, q3, q4, q5, q6⟩
          · rw [q1, zbd_r, if_neg one0]
            have hPl5 := PR_nl q4
            obtain ⟨t1, t2, t3, t4, t5, ⟨u1, u2, u3, u4, u5, u6⟩, t7, t8, t9⟩ := q7
            obtain ⟨v1, v2, v3, v4, v5, v6, v7, v8⟩ := t9
            obtain ⟨z1, z2, z3, z4, z5, z6, z7, z8, z9, z10, z11, z12⟩ := id q4
            have hnd8 : nd5 < 800 := by omega
            have c12 : zI M5 12 = nI o := by rw [q5, nsub (by omega)]; rfl
            have c17 : zA M5 17 o = nI 1 := by rw [(t8.2 o (by omega)).1, a17 o (by omega)]; exact i17
            have c18 : zA M5 18 o = nI 2 := by rw [(t8.2 o (by omega)).2.1]; exact a18o
            have c20 : zA M5 20 o = nI l := by rw [(t8.2 o (by omega)).2.2.2.1, fMM4.1 20 (by decide)]; exact i20
            have c21 : zA M5 21 o = nI ns := by rw [(t8.2 o (by omega)).2.2.2.2, fM14 21 (by decide)]; exact m21
            have c14 : zA M5 14 l = c := by rw [(u2 l (by omega)).1, fMM4.1 14 (by decide)]; exact i14
            have c15 : zA M5 15 l = nI (cnt + 1) := by rw [(u2 l (by omega)).2, fM14 15 (by decide), m15, if_pos rfl]
            have s22 : ∀ s, s < ns → zA M5 22 s = zA M 22 s ∧ zA M5 23 s = zA M 23 s ∧ zB M5 16 s = zB M 16 s := fun s hs => by
              obtain ⟨y1, y2, y3⟩ := u3 s (by omega)
              rw [y1, y2, y3, fM14 22 (by decide), fM14 23 (by decide), fB4, m22, m23, m16, if_neg (by omega), if_neg (by omega), if_neg (by omega)]
              exact ⟨rfl, rfl, rfl⟩
            have s22n : zA M5 22 ns = nI l ∧ zA M5 23 ns = nI dd ∧ zB M5 16 ns = zL M 0 := by
              obtain ⟨y1, y2, y3⟩ := u3 ns (by omega)
              rw [y1, y2, y3, fM14 22 (by decide), fM14 23 (by decide), fB4, m22, m23, m16, if_pos rfl, if_pos rfl, if_pos rfl]
              exact ⟨rfl, rfl, rfl⟩
            have dq : ∀ i, i < nd → DQ X M X5 M5 i := fun i hi => DQ_trans ⟨⟨by rw [fX3.1 17 (by decide)], by rw [fX3.1 18 (by decide)], by rw [fX3.1 19 (by decide)], by rw [fX3.1 21 (by decide)], by rw [fX3.2.2 20 (by decide)]⟩, by rw [fMM4.1 9 (by decide)], by rw [fMM4.1 10 (by decide)], by rw [fMM4.1 12 (by decide)], by rw [fMM4.1 13 (by decide)], by rw [fMM4.2.2 11 (by decide)]⟩ (u1 i hi)
            have s5 : LSG G5 X5 M5 a nd5 l nl5 ns5 o bg := LSG_t hS v1 v2 (by omega) (by omega) (fun i _ hi => dq i hi) (fun i hi => ⟨(dq i hi).2.1, (dq i hi).2.2.1⟩) (fun l' y1 y2 => by rw [(u2 l' y2).1, fMM4.1 14 (by decide)]) (fun s hs => ⟨(s22 s hs).1, (s22 s hs).2.2⟩) (fun s y1 y2 => by
              by_cases z : s = ns
              · exact ⟨l, by rw [z]; exact s22n.1, by omega, by omega⟩
              · obtain ⟨l', g1, g2, g3⟩ := u6 s (by omega) y2
                exact ⟨l', g1, by omega, by omega⟩) (fun l' y1 y2 => t5 l' y2) (fun l' y1 y2 => v4 l' y1 y2) (fun i y1 y2 => Or.inl (DR_t (G := G5) (X := X5) (M := M5) (nl := nl5) (ns := ns5) hs2 (Nat.le_refl _) (Nat.le_refl _) (by omega) ⟨⟨rfl, rfl, rfl, rfl, rfl⟩, rfl, rfl, rfl, rfl, rfl⟩ (fun _ _ _ => rfl) (fun _ _ => ⟨rfl, rfl⟩) (fun s r1 r2 => by omega) (fun _ _ _ => rfl) rfl (fun k g1 g2 g3 g4 g5 => by
                have := (hS.2.2.1 k g1 (by omega)).2.2.1
                rw [t5 k (by omega)] at g5
                omega) (v5 i y1 y2))) v6
            have hm6 : ∀ n, eL (n + 1) M5 = zbd (fX10_need (nI 59) (mE M5 nd5 (nI 10) (nI ns))) (fun r14 S15 => if r14 = 0 then eL n S15 else zbd (fX10_let_163 (nI o) (nI l) (wA S15 18 o (nI 1))) (fun _ S => eL n S)) := fun n => by
              rw [eL_let (by omega) z1.2.2.2.2.2.2.1 c12 c17]
              unfold fX10_let fX10_let_116
              rw [zld_n (by omega) (by omega), c18, if_neg (show ¬ nI 2 = 0 by decide), zld_n (by omega) (by omega), c20, zld_n (by omega) (by omega), c18, if_pos rfl, zld_n (by omega) (by omega), c21, m_emit z3 hnd8, zbd_r]
              cases fX10_need (nI 59) (mE M5 nd5 (nI 10) (nI ns)) with
              | none => rfl
              | some w =>
                show zbd (if w.1 = 0 then some ((), w.2) else _) _ = if w.1 = 0 then _ else _
                by_cases y : w.1 = 0
                · rw [if_pos y, if_pos y]; rfl
                · rw [if_neg y, if_neg y, zck_n (by omega) (by omega), ncl (by omega)]
            have rX5 : rX X X5 := FQ_trans rX4 (rX_e t7)
            have rM5 : rM M M5 := FQ_trans rM4 (rM_e t8)
            rcases take_sim (kx := 7) (km := 59) z1 (by omega) (FQ_refl (la := []) (li := []) (lb := []) X5) (FQ_mE M5 nd5 (nI 10) (nI ns)) (by decide) (by decide) (by decide) (by decide) (by decide) (by decide) with ⟨pl7, X7, M7, g1, g2, g3, g4, g5, g6⟩ | ⟨X7, M7, g2, g3, g4, g5, g6⟩
            · rw [g2, zbd_r, if_neg one0]
              have x77 : zI X7 7 = nI nd5 := by rw [g5.2.1 7 (by decide)]; exact z2
              rw [x_addDeed x77 hnd8, zbd_r]
              left
              generalize hX8 : aD X7 nd5 (nI 7) (nI (6 * o + cnt)) 0 (nI 0) = X8
              generalize hM8 : wA M7 18 o (nI 1) = M8
              have fX8 : FQ [17, 18, 19, 21] [7] [20] X7 X8 := by rw [← hX8]; exact FQ_aD _ _ _ _ _ _
              have fM8 : FQ [18] [] [] M7 M8 := by rw [← hM8]; exact FQ_A _ _ _ (by decide)
              have fM58 : FQ [9, 10, 18] [2, 3, 4, 5, 9] [] M5 M8 := FQ_trans (FQ_mono (FQ_mE _ _ _ _) (by decide) (by decide) (by decide)) (FQ_trans (FQ_mono g6 (by decide) (by decide) (by decide)) (FQ_mono fM8 (by decide) (by decide) (by decide)))
              have fX58 : FQ [17, 18, 19, 21] [7, 10, 11, 12, 13] [20] X5 X8 := FQ_trans (FQ_mono g5 (by decide) (by decide) (by decide)) (FQ_mono fX8 (by decide) (by decide) (by decide))
              have y17 : zA X8 17 nd5 = nI 7 ∧ zA X8 18 nd5 = nI (6 * o + cnt) := by
                rw [← hX8]; obtain ⟨y1, y2, -⟩ := aD17 X7 nd5 (nI 7) (nI (6 * o + cnt)) 0 (nI 0); exact ⟨y1, y2⟩
              have y9 : zA M8 9 nd5 = nI 10 ∧ zA M8 10 nd5 = nI ns ∧ ∀ i, i < nd5 → zA M8 9 i = zA M5 9 i ∧ zA M8 10 i = zA M5 10 i := by
                rw [fM8.1 9 (by decide), fM8.1 10 (by decide), g6.1 9 (by simp), g6.1 10 (by simp)]
                exact mE9 M5 nd5 (nI 10) (nI ns)
              have xlt : ∀ i, i < nd5 → zA X8 17 i = zA X5 17 i ∧ zA X8 18 i = zA X5 18 i ∧ zA X8 19 i = zA X5 19 i ∧ zA X8 21 i = zA X5 21 i ∧ zB X8 20 i = zB X5 20 i := fun i hi => by
                rw [← g5.1 17 (by simp), ← g5.1 18 (by simp), ← g5.1 19 (by simp), ← g5.1 21 (by simp), ← g5.2.2 20 (by simp), ← hX8]
                exact ⟨updN _ _ (by omega), updN _ _ (by omega), updN _ _ (by omega), updN _ _ (by omega), by show vp_updL _ _ _ i = _; rw [updL_ite, if_neg (by omega)]; rfl⟩
              have dq8 : ∀ i, i < nd5 → DQ X5 M5 X8 M8 i := fun i hi => ⟨xlt i hi, (y9.2.2 i hi).1, (y9.2.2 i hi).2, by rw [fM58.1 12 (by decide)], by rw [fM58.1 13 (by decide)], by rw [fM58.2.2 11 (by decide)]⟩
              have hg5 : hgt M8 bg nd5 = h0 + 1 := by rw [hgt_c nd5 (M := M5) (fun j hj => y9.2.2 j hj), q8, hgt4]
              have hg8 : hgt M8 bg (nd5 + 1) = h0 := by
                rw [hgt_s (by omega), y9.1, y9.2.1, hg5]
                unfold hst
                rw [if_neg (by decide), if_neg (by decide), if_pos rfl]; omega
              have e22 : zA M8 22 = zA M5 22 := fM58.1 22 (by decide)
              have rkns : rk M8 l ns = cnt := by rw [rk_t ns (M := M) (fun j hj => by rw [e22]; exact (s22 j hj).1)]; exact hrk
              have rkn5 : rk M8 l ns5 = cnt + 1 := by
                obtain ⟨dl, hdl⟩ : ∃ dl, ns5 = ns + 1 + dl := ⟨ns5 - (ns + 1), by omega⟩
                rw [hdl, rk_n (M := M8) (fun _ _ => rfl) dl (fun s y1 y2 y3 => by
                  obtain ⟨l', o1, o2, o3⟩ := u6 s y1 (by omega)
                  rw [e22, o1] at y3
                  have := (neq (by omega) (by omega)).mp y3
                  omega)]
                show rk M8 l ns + (if zA M8 22 ns = nI l then 1 else 0) = _
                rw [rkns, e22, if_pos s22n.1]
              have s8 : LSG G5 X8 M8 a (nd5 + 1) l nl5 ns5 o bg := LSG_t s5 (by omega) (Nat.le_refl _) (Nat.le_refl _) (by omega) (fun i _ hi => dq8 i hi) (fun i hi => y9.2.2 i hi) (fun l' _ _ => by rw [fM58.1 14 (by decide)]) (fun s _ => ⟨by rw [e22], by rw [fM58.2.2 16 (by decide)]⟩) (fun s y1 y2 => by omega) (fun _ _ _ => rfl) (fun l' y1 y2 => by omega) (fun i y1 y2 => by
                have : i = nd5 := by omega
                subst this
                exact Or.inr ⟨ns, by omega, by rw [e22]; exact s22n.1, by rw [hg5]; omega, y17.1, by rw [rkns]; exact y17.2, y9.1, y9.2.1⟩) (fun i y1 y2 => by
                by_cases z : i = nd5
                · rw [z, hg5]; omega
                · have : i = nd5 + 1 := by omega
                  rw [this, hg8]; omega)
              have hT8 : TK b tl pl7 X8 M8 := TK_cX (TK_c g4 fM8 (by rw [← hM8]; rfl) (by decide) (by decide) (by decide)) fX8 (by rw [← hX8]; rfl) (by decide) (by decide) (by decide)
              have xb : ∀ j, zB X8 23 j = zB X5 23 j := fun j => by rw [fX58.2.2 23 (by decide)]
              have own8 : ∀ s, n0 ≤ s → s < ns5 → zA M8 23 s = nI dd ∧ ∃ l', l ≤ l' ∧ l' < nl5 ∧ zA M8 22 s = nI l' := fun s y1 y2 => by
                rw [e22, fM58.1 23 (by decide)]
                by_cases z : s < ns
                · obtain ⟨w1, l', w2, w3, w4⟩ := how s y1 z
                  exact ⟨by rw [(s22 s z).2.1]; exact w1, l', w2, by omega, by rw [(s22 s z).1]; exact w4⟩
                · by_cases z2 : s = ns
                  · rw [z2]; exact ⟨s22n.2.1, l, Nat.le_refl _, by omega, s22n.1⟩
                  · obtain ⟨w1, l', w2, w3, w4⟩ := v8 s (by omega) y2
                    exact ⟨w1, l', by omega, w3, w4⟩
              refine ⟨X8, M8, pl7, nd5 + 1, nl5, ns5, G5, it + 1, by omega, rfl, fun n => ?_, by omega, by rw [← hM8]; exact updS _ _ _, ⟨⟨hT8, by rw [← hX8]; rfl, ?_, by rw [fM58.2.1 10 (by decide)]; exact z4, by rw [fM58.2.1 11 (by decide)]; exact z5, by rw [fM58.2.1 8 (by decide)]; exact z6, z7, by rw [fM58.2.1 14 (by decide)]; exact z8, by omega, by omega, by omega, by rw [e22]; exact z12⟩, ⟨by rw [fM58.2.1 12 (by decide)]; exact c12, by rw [fM58.2.1 13 (by decide)]; exact q6, by rw [fM58.1 17 (by decide)]; exact c17, by rw [fM58.1 20 (by decide)]; exact c20, by rw [fM58.1 14 (by decide)]; exact c14, by rw [fM58.1 15 (by decide)]; exact c15⟩, ⟨j1, by rw [(xlt a (by omega)).1, (dq a (by omega)).1.1]; exact j2, by rw [(y9.2.2 a (by omega)).1, (dq a (by omega)).2.1]; exact j3, by rw [(y9.2.2 a (by omega)).2, (dq a (by omega)).2.2.1]; exact j4⟩, s8, rkn5, fun s y1 y2 => ?_, by omega, ?_, own8, hg8⟩, ⟨by omega, by omega, by omega, by omega, fun l' y1 => by rw [t5 l' (by omega)]; exact l5 l' y1, ⟨fun i hi => DQ_trans (l6.1 i hi) (DQ_trans (dq i (by omega)) (dq8 i (by omega))), fun l' hl' => ?_, fun s hs => ?_, by omega, by omega, fun s y1 y2 => ?_⟩, ?_, ?_⟩, FQ_trans rX5 (FQ_mono fX58 (by decide) (by decide) (by decide)), FQ_trans rM5 (FQ_mono fM58 (by decide) (by decide) (by decide))⟩
              · rw [show n + (it + 1) = n + 1 + it by omega, hm4]
                have q2' : eL (n + 1 + it) M4 = eL (n + 1) M5 := q2 (n + 1)
                rw [q2', hm6, g3, zbd_r, if_neg one0, hM8]
              · rw [fM8.2.1 9 (by decide), g6.2.1 9 (by decide)]; rfl
              · rw [e22] at y2
                have e16 : zB M8 16 = zB M5 16 := fM58.2.2 16 (by decide)
                rw [xb, e16]
                by_cases z : s < ns
                · rw [rk_t s (M := M) (fun j hj => by rw [e22]; exact (s22 j (by omega)).1)]
                  rw [(s22 s z).1] at y2
                  have := rk_lt M l z y2
                  rw [t7.2 _ (by omega), x23, if_neg (by omega), (s22 s z).2.2]
                  exact hbd s z y2
                · by_cases z2 : s = ns
                  · rw [z2, rkns, t7.2 _ (by omega), x23, if_pos rfl, s22n.2.2]; exact k5 hx
                  · obtain ⟨l', o1, o2, o3⟩ := u6 s (by omega) y1
                    rw [o1] at y2
                    have := (neq (by omega) (by omega)).mp y2
                    omega
              · rw [psum_s X8 (by omega), psum_c (X := X5) nd5 (fun i y1 y2 => by unfold pw; rw [(xlt i y2).1, (xlt i y2).2.1]), psum_app X5 hs1 nd5 v1, psum_c (X := X) nd (fun i y1 y2 => by unfold pw; rw [(dq i y2).1.1, (dq i y2).1.2.1])]
                have : pw X8 nd5 = 0 := by unfold pw; rw [y17.1]; exact if_neg (by decide)
                omega
              · rw [fM58.1 14 (by decide), fM58.1 15 (by decide), (u2 l' (by omega)).1, (u2 l' (by omega)).2, fMM4.1 14 (by decide), fM14 15 (by decide), m15, if_neg (by omega)]
                exact l6.2.1 l' hl'
              · rw [e22, fM58.1 23 (by decide), fM58.2.2 16 (by decide), (s22 s (by omega)).1, (s22 s (by omega)).2.1, (s22 s (by omega)).2.2]
                exact l6.2.2.1 s hs
              · obtain ⟨-, l', w2, w3, w4⟩ := own8 s y1 y2
                exact ⟨l', w4, w2, w3⟩
              · refine eX_trans (Nat.le_refl _) l7 ⟨FQ_trans (FQ_mono fX3 (by decide) (by decide) (by decide)) (FQ_trans t7.1 (FQ_mono fX58 (by decide) (by decide) (by decide))), fun j hj => ?_⟩
                rw [xb, t7.2 j (by omega), x23, if_neg (by omega)]
              · refine eM_trans (Nat.le_refl _) l8 ⟨FQ_trans (FQ_mono fMM4 (by decide) (by decide) (by decide)) (FQ_trans t8.1 (FQ_mono fM58 (by decide) (by decide) (by decide))), fun q hq => ?_⟩
                obtain ⟨y1, y2, y3, y4, y5⟩ := t8.2 q (by omega)
                refine ⟨by rw [fM58.1 17 (by decide), y1, a17 q (by omega)], ?_, by rw [fM58.1 19 (by decide), y3, a19 q (by omega)], by rw [fM58.1 20 (by decide), y4, fMM4.1 20 (by decide)], by rw [fM58.1 21 (by decide), y5, a21 q hq]⟩
                rw [← a18 q hq, ← y2, ← hM8]
                show upd (zA M7 18) o (nI 1) q = _
                rw [updN _ _ (by omega), g6.1 18 (by simp)]; rfl
            · rw [g2, zbd_r, if_pos zer0]
              right
              refine ⟨X7, M7, it + 1, rfl, fun n => ?_, by omega, g4, FQ_trans rX5 (FQ_mono g5 (by decide) (by decide) (by decide)), FQ_trans rM5 (FQ_trans (FQ_mono (FQ_mE _ _ _ _) (by decide) (by decide) (by decide)) (FQ_mono g6 (by decide) (by decide) (by decide)))⟩
              show zbd (fX10_let_238 (nI o) (nI l) M) (fun _ S => eL (n + 1 + (it + 1)) S) = _
              rw [show n + 1 + (it + 1) = n + 1 + 1 + it by omega, hm4]
              have q2' : eL (n + 1 + 1 + it) M4 = eL (n + 1 + 1) M5 := q2 (n + 1 + 1)
              rw [q2', hm6, g3, zbd_r, if_pos zer0]
              exact eL_bad g4.2.1
          · rw [q1, zbd_r, if_pos zer0]
            right
            exact BAE_chain (m1 := fun n => eL n M4) (it1 := 0) (sl1 := 0) rX4 rM4 (fun n => hm4 n) (by omega) ⟨X5, M5, it, rfl, q2, q3, q4, q5, q6⟩
        · rw [w2, zbd_r, if_pos zer0]
          right
          refine ⟨X3, M3, 0, rfl, fun n => ?_, by omega, w4, FQ_trans (FQ_mono fX1 (by decide) (by decide) (by decide)) (FQ_trans (FQ_mono r5 (by decide) (by decide) (by decide)) (FQ_mono w5 (by decide) (by decide) (by decide))), FQ_trans (FQ_mono fM1 (by decide) (by decide) (by decide)) (FQ_trans (FQ_mono r6 (by decide) (by decide) (by decide)) (FQ_mono w6 (by decide) (by decide) (by decide)))⟩
          show zbd (fX10_let_238 (nI o) (nI l) M) (fun _ S => eL (n + 1 + 0) S) = _
          rw [m275, r3, zbd_r, w3, zbd_r, if_pos zer0, zbd_r]
          exact eL_bad w4.2.1
  · have hm : m ≠ 2 := by omega
    rw [if_neg (nq hx), x_cannot k1 (by omega), zbd_r]
    right
    have hc' : (if m = 5 then nI 1 else nI 2) = (if x = 10 then nI 1 else nI 2) := by
      by_cases y : x = 10
      · rw [if_pos y, if_pos (by omega)]
      · rw [if_neg y, if_neg (by omega)]
    have hc0 : ¬ (if x = 10 then nI 1 else nI 2) = 0 := by
      by_cases y : x = 10
      · rw [if_pos y]; decide
      · rw [if_neg y]; decide
    refine ⟨_, wI (wI M 6 (if x = 10 then nI 1 else nI 2)) 7 (zI M 3), 0, rfl, fun n => ?_, by omega, FL_of hc0 e3, FQ_trans (FQ_I _ _ (by decide)) (FQ_I _ _ (by decide)), FQ_trans (FQ_I _ _ (by decide)) (FQ_I _ _ (by decide))⟩
    show zbd (fX10_let_238 (nI o) (nI l) M) (fun _ S => eL (n + 1 + 0) S) = _
    unfold fX10_let_238 fX10_let_252
    rw [k2, if_neg (nq hm), m_can0 e6 k2 (by omega), zbd_r, if_pos zer0, zbd_r, hc']
    exact eL_bad hc0
