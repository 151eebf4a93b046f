/-- a let is read to its end -/
def LRES (b : Nat → Nat) (tl dd bg o : Nat) (c : Int32) (h1 : Nat) (G0 : Nat → Nat × Nat × Nat) (pl0 a l n0 : Nat) (X0 M0 : zSt) (pl : Nat) (X M : zSt) (x : Option (Int32 × zSt)) (m : Nat → Option (Unit × zSt)) : Prop :=
  (∃ (X' M' : zSt) (pl' nd' nl' ns' : Nat) (G' : Nat → Nat × Nat × Nat) (it : Nat), x = some (nI 1, X') ∧ (∀ n, m (n + it) = eL n M') ∧ it + 3 * pl ≤ 3 * pl' ∧ PR b tl dd bg X' M' pl' nd' nl' ns' c ∧ zI M' 12 = nI o - nI 1 ∧ zI M' 13 = nI o ∧ STP 1 dd c o bg G0 pl0 a l n0 X0 M0 G' pl' nd' nl' ns' X' M' ∧ hgt M' bg nd' = h1) ∨ BAE tl 0 pl X M x m
theorem body_sim {b : Nat → Nat} {tl dd bg d o l a n0 cnt h0 : Nat} {c : Int32} {G0 G : Nat → Nat × Nat × Nat} {pl0 pl nd nl ns : Nat} {X0 M0 X M : zSt} (IH : ES b tl dd bg d) (ho : o < 12) (hod : 12 < o + (d + 1)) (hh0 : h0 ≤ 9 * o) (ha : a + 1 ≤ pl0) (hl : 3 * l ≤ pl0) (hn : 3 * n0 ≤ pl0 + o) (hc : cnt ≤ 6) (hc0 : 0 < cnt) (h18 : zA M 18 o = nI 1) (hin : zI X 11 = nI 5) (hI : LI b tl dd bg o l a n0 cnt h0 c G pl nd nl ns X M) (hL : LST 0 o G0 pl0 a l n0 X0 M0 G pl nd nl ns X M) :
    LRES b tl dd bg o c (h0 + 1) G0 pl0 a l n0 X0 M0 pl X M (fX5_readLet_102 (fX5_E d) (nI o) (nI (6 * o)) (nI a) (nI cnt) (nI 1) X) (fun n => zbd (fX10_let_163 (nI o) (nI l) M) (fun _ S => eL n S)) := by
  obtain ⟨hP, ⟨i12, i13, i17, i20, i14, i15⟩, ⟨j1, j2, j3, j4⟩, hS, hrk, hbd, hn0, hps, how, hgt0⟩ := hI
  obtain ⟨l1, l2, l3, l4, l5, l6, l7, l8⟩ := hL
  have hPl := PR_nl hP
  obtain ⟨p1, p2, p3, p4, p5, p6, p7, p8, p9, p10, p11, p12⟩ := id hP
  obtain ⟨x, m, k1, k2, k3, k4, k5, k6⟩ := TK_kp p1
  unfold KP at k3
  have hx : x = 5 := by
    rw [k1] at hin
    exact (neq (by omega) (by omega)).mp hin
  have hm : m = 4 := by omega
  have hs1 : a + 1 ≤ nd := hS.1
  have hs2 : l + 1 ≤ nl := hS.2.1
  have hn8 : nd < 800 := by omega
  obtain ⟨pl2, X2, M2, r1, r2, r3, r4, r5, r6⟩ := adv p1 (by rw [k1]; exact nq (by omega)) (FQ_refl (la := []) (li := []) (lb := []) X) (FQ_refl (la := []) (li := []) (lb := []) M) (by decide) (by decide) (by decide) (by decide) (by decide) (by decide)
  generalize hX3 : wA (wA X2 18 a (nI cnt)) 19 a (nI (6 * o)) = X3
  generalize hM4 : wA (wA (wA (wI (wA M2 18 o (nI 3)) 12 (nI (o + 1))) 17 (o + 1) (nI 0)) 18 (o + 1) (nI 0)) 19 (o + 1) (nI 0) = M4
  have hx3 : fX5_readLet_102 (fX5_E d) (nI o) (nI (6 * o)) (nI a) (nI cnt) (nI 1) X = zbd (fX5_E d (nI (o + 1)) X3) (fun r21 S22 => if r21 = 0 then some (nI 0, S22) else fX5_readLet_143L (fX5_E d) zFU (nI (6 * o), nI a, nI cnt, nI (6 * o), S22)) := by
    unfold fX5_readLet_102 fX5_take fX8_kind fX4_settlePointers fX4_isDeed
    rw [if_neg one0, zbd_r, hin, if_pos rfl, r2, zbd_r, zbd_r, if_neg one0, if_neg (nneg (by omega)), if_neg (nlN (by omega)), zbd_r, if_neg one0, zck_n (by omega) (by omega), zck_n (by omega) (by omega), ncl (by omega), hX3, zbd_r, nadd]
  have fX3 : FQ [18, 19] [10, 11, 12, 13] [] X X3 := by rw [← hX3]; exact FQ_trans (FQ_mono r5 (by decide) (by decide) (by decide)) (FQ_trans (FQ_A _ _ _ (by decide)) (FQ_A _ _ _ (by decide)))
  have fM4 : FQ [17, 18, 19] [12] [] M2 M4 := by rw [← hM4]; exact FQ_trans (FQ_A _ _ _ (by decide)) (FQ_trans (FQ_I _ _ (by decide)) (FQ_trans (FQ_A _ _ _ (by decide)) (FQ_trans (FQ_A _ _ _ (by decide)) (FQ_A _ _ _ (by decide)))))
  have fMM4 : FQ [17, 18, 19] [2, 3, 4, 5, 12] [] M M4 := FQ_trans (FQ_mono r6 (by decide) (by decide) (by decide)) (FQ_mono fM4 (by decide) (by decide) (by decide))
  have hm4 : ∀ n, zbd (fX10_let_163 (nI o) (nI l) M) (fun _ S => eL n S) = eL n M4 := fun n => by
    unfold fX10_let_163
    rw [zld_n (by omega) (by omega), h18, if_neg (by decide), zld_n (by omega) (by omega), i15, if_neg (show ¬ nI cnt ≤ 0 from nlN (b := 0) hc0), k2, if_pos (by rw [hm]), r3, zbd_r, zck_n (by omega) (by omega), ncl (by omega), m_push (o := o) (show zI (wA M2 18 o (nI 3)) 12 = nI o by
      show zI M2 12 = _
      rw [r6.2.1 12 (by decide)]; exact i12) (by omega), zbd_r, hM4, zbd_r]
  have x18 : ∀ i, i ≠ a → zA X3 18 i = zA X 18 i ∧ zA X3 19 i = zA X 19 i := fun i hi => by
    rw [← hX3, ← r5.1 18 (by simp), ← r5.1 19 (by simp)]
    exact ⟨updN _ _ hi, updN _ _ hi⟩
  have x18a : zA X3 18 a = nI cnt ∧ zA X3 19 a = nI (6 * o) := by rw [← hX3]; exact ⟨updS _ _ _, updS _ _ _⟩
  have a17 : ∀ q, q < o + 1 → zA M4 17 q = zA M 17 q := fun q hq => by
    rw [← hM4]
    show upd (zA M2 17) (o + 1) (nI 0) q = _
    rw [updN _ _ (by omega), r6.1 17 (by simp)]
  have a18 : ∀ q, q < o → zA M4 18 q = zA M 18 q := fun q hq => by
    rw [← hM4]
    show upd (upd (zA M2 18) o (nI 3)) (o + 1) (nI 0) q = _
    rw [updN _ _ (by omega), updN _ _ (by omega), r6.1 18 (by simp)]
  have a18o : zA M4 18 o = nI 3 := by
    rw [← hM4]
    show upd (upd (zA M2 18) o (nI 3)) (o + 1) (nI 0) o = _
    rw [updN _ _ (by omega), updS]
  have a19 : ∀ q, q < o + 1 → zA M4 19 q = zA M 19 q := fun q hq => by
    rw [← hM4]
    show upd (zA M2 19) (o + 1) (nI 0) q = _
    rw [updN _ _ (by omega), r6.1 19 (by simp)]
  have hgt4 : hgt M4 bg nd = h0 := by rw [← hgt0]; exact hgt_c nd (fun j _ => ⟨by rw [fMM4.1 9 (by decide)], by rw [fMM4.1 10 (by decide)]⟩)
  have hT4 : TK b tl pl2 X3 M4 := TK_cX (TK_c r4 fM4 (by rw [← hM4]; rfl) (by decide) (by decide) (by decide)) (la := [18, 19]) (li := []) (lb := []) (by rw [← hX3]; exact FQ_trans (FQ_A _ _ _ (by decide)) (FQ_A _ _ _ (by decide))) (by rw [← hX3]; rfl) (by decide) (by decide) (by decide)
  have hP4 : PR b tl dd bg X3 M4 pl2 nd nl ns (nI l) := ⟨hT4, by rw [fX3.2.1 7 (by decide)]; exact p2, by rw [fMM4.2.1 9 (by decide)]; exact p3, by rw [fMM4.2.1 10 (by decide)]; exact p4, by rw [fMM4.2.1 11 (by decide)]; exact p5, by rw [fMM4.2.1 8 (by decide)]; exact p6, p7, by rw [fMM4.2.1 14 (by decide)]; exact p8, by omega, by omega, p11, by rw [fMM4.1 22 (by decide)]; exact p12⟩
  have rX4 : rX X X3 := FQ_mono fX3 (by decide) (by decide) (by decide)
  have rM4 : rM M M4 := FQ_mono fMM4 (by decide) (by decide) (by decide)
  rw [hx3]
  have inner := IH (o + 1) (nI l) G pl2 nd nl ns X3 M4 (by omega) (by omega) hP4 (by omega) (by omega) (by omega) (by rw [← hM4]; rfl) (by rw [fMM4.2.1 13 (by decide)]; exact i13) (by rw [← hM4]; exact updS _ _ _) (by rw [← hM4]; exact updS _ _ _) (by rw [← hM4]; exact updS _ _ _) (by rw [hgt4]; omega)
  rcases inner with ⟨X5, M5, pl5, nd5, nl5, ns5, G5, it, q1, q2, q3, q4, q5, q6, q7, q8⟩ | ⟨X5, M5, it, q1, q2, q3, q4, q5, q6⟩
  · rw [q1, zbd_r, if_neg one0]
    have hPl5 := PR_nl q4
    obtain ⟨t1, t2, t3, t4, t5, ⟨u1, u2, u3, u4, u5, u6⟩, t7, t8, t9⟩ := q7
    obtain ⟨v1, v2, v3, v4, v5, v6, v7, v8⟩ := t9
    obtain ⟨z1, z2, z3, z4, z5, z6, z7, z8, z9, z10, z11, z12⟩ := id q4
    have c12 : zI M5 12 = nI o := by rw [q5, nsub (by omega)]; rfl
    have c17 : zA M5 17 o = nI 1 := by rw [(t8.2 o (by omega)).1, a17 o (by omega)]; exact i17
    have c18 : zA M5 18 o = nI 3 := by rw [(t8.2 o (by omega)).2.1]; exact a18o
    have c20 : zA M5 20 o = nI l := by rw [(t8.2 o (by omega)).2.2.2.1, fMM4.1 20 (by decide)]; exact i20
    have c14 : zA M5 14 l = c := by rw [(u2 l (by omega)).1, fMM4.1 14 (by decide)]; exact i14
    have s22 : ∀ s, s < ns → zA M5 22 s = zA M 22 s ∧ zA M5 23 s = zA M 23 s ∧ zB M5 16 s = zB M 16 s := fun s hs => by
      obtain ⟨y1, y2, y3⟩ := u3 s hs
      rw [y1, y2, y3, fMM4.1 22 (by decide), fMM4.1 23 (by decide), fMM4.2.2 16 (by decide)]
      exact ⟨rfl, rfl, rfl⟩
    have dm : ∀ i, i < nd → zA M5 9 i = zA M 9 i ∧ zA M5 10 i = zA M 10 i := fun i hi => ⟨by rw [(u1 i hi).2.1, fMM4.1 9 (by decide)], by rw [(u1 i hi).2.2.1, fMM4.1 10 (by decide)]⟩
    have dq : ∀ i, i ≠ a → i < nd → DQ X M X5 M5 i := fun i ia hi => DQ_trans ⟨⟨by rw [fX3.1 17 (by decide)], (x18 i ia).1, (x18 i ia).2, by rw [fX3.1 21 (by decide)], by rw [fX3.2.2 20 (by decide)]⟩, by rw [fMM4.1 9 (by decide)], by rw [fMM4.1 10 (by decide)], by rw [fMM4.1 12 (by decide)], by rw [fMM4.1 13 (by decide)], by rw [fMM4.2.2 11 (by decide)]⟩ (u1 i hi)
    have s5 : LSG G5 X5 M5 a nd5 l nl5 ns5 o bg := LSG_t hS v1 v2 v3 (by omega) (fun i y1 hi => dq i (by omega) hi) dm (fun l' y1 y2 => by rw [(u2 l' y2).1, fMM4.1 14 (by decide)]) (fun s hs => ⟨(s22 s hs).1, (s22 s hs).2.2⟩) (fun s y1 y2 => by
      obtain ⟨l', g1, g2, g3⟩ := u6 s y1 y2
      exact ⟨l', g1, by omega, by omega⟩) (fun l' y1 y2 => t5 l' y2) (fun l' y1 y2 => v4 l' y1 y2) (fun i y1 y2 => Or.inl (DR_t (G := G5) (X := X5) (M := M5) (nl := nl5) (ns := ns5) hs2 (Nat.le_refl _) (Nat.le_refl _) (by omega) ⟨⟨rfl, rfl, rfl, rfl, rfl⟩, rfl, rfl, rfl, rfl, rfl⟩ (fun _ _ _ => rfl) (fun _ _ => ⟨rfl, rfl⟩) (fun s r1 r2 => by omega) (fun _ _ _ => rfl) rfl (fun k g1 g2 g3 g4 g5 => by
        have := (hS.2.2.1 k g1 (by omega)).2.2.1
        rw [t5 k (by omega)] at g5
        omega) (v5 i y1 y2))) v6
    have rkn : rk M5 l ns5 = cnt := by
      obtain ⟨dl, hdl⟩ : ∃ dl, ns5 = ns + dl := ⟨ns5 - ns, by omega⟩
      rw [hdl, rk_n (M := M) (fun s hs => (s22 s hs).1) dl (fun s y1 y2 y3 => by
        obtain ⟨l', o1, o2, o3⟩ := u6 s y1 (by omega)
        rw [o1] at y3
        have := (neq (by omega) (by omega)).mp y3
        omega)]
      exact hrk
    have hb5 : ∀ s, s < ns5 → zA M5 22 s = nI l → zB X5 23 (6 * o + rk M5 l s) = zB M5 16 s := fun s y1 y2 => by
      by_cases z : s < ns
      · rw [rk_t s (M := M) (fun j hj => (s22 j (by omega)).1)]
        rw [(s22 s z).1] at y2
        have := rk_lt M l z y2
        rw [t7.2 _ (by omega), fX3.2.2 23 (by decide), (s22 s z).2.2]
        exact hbd s z y2
      · obtain ⟨l', o1, o2, o3⟩ := u6 s (by omega) y1
        rw [o1] at y2
        have := (neq (by omega) (by omega)).mp y2
        omega
    have own5 : ∀ s, n0 ≤ s → s < ns5 → zA M5 23 s = nI dd ∧ ∃ l', l ≤ l' ∧ l' < nl5 ∧ zA M5 22 s = nI l' := fun s y1 y2 => by
      by_cases z : s < ns
      · obtain ⟨w1, l', w2, w3, w4⟩ := how s y1 z
        exact ⟨by rw [(s22 s z).2.1]; exact w1, l', w2, by omega, by rw [(s22 s z).1]; exact w4⟩
      · obtain ⟨w1, l', w2, w3, w4⟩ := v8 s (by omega) y2
        exact ⟨w1, l', by omega, w3, w4⟩
    have hps5 : psum X5 (a + 1) nd5 + n0 + cnt = ns5 := by
      rw [psum_app X5 hs1 nd5 v1, psum_c (X := X) nd (fun i y1 y2 => by unfold pw; rw [(dq i (by omega) y2).1.1, (dq i (by omega) y2).1.2.1])]
      omega
    obtain ⟨X6, f1, f2, f3, f4⟩ := tell_let (oE := fX5_E d) (a := a) (o := o) (cnt := cnt) (show nd5 ≤ 800 by omega) (by omega) (by omega) cnt 0 zFU X5 (by omega) (by rw [zFU_s]; omega) z2
    have f1' : fX5_readLet_143L (fX5_E d) zFU (nI (6 * o), nI a, nI cnt, nI (6 * o), X5) = some (nI 1, X6) := f1
    generalize hM6 : wI (wI (wI M5 13 (nI o)) 14 c) 12 (nI o - nI 1) = M6
    have fM6 : FQ [] [12, 13, 14] [] M5 M6 := by rw [← hM6]; exact FQ_trans (FQ_trans (FQ_I _ _ (by decide)) (FQ_I _ _ (by decide))) (FQ_I _ _ (by decide))
    have sg := let_close (X' := X6) (M' := M6) (n0 := n0) (dd := dd) (c := c) s5 ho (by omega) j1 hc rkn c14 hb5 (by rw [(u1 a (by omega)).1.1, fX3.1 17 (by decide)]; exact j2) (by rw [(u1 a (by omega)).1.2.1]; exact x18a.1) (by rw [(u1 a (by omega)).1.2.2.1]; exact x18a.2) (by rw [(dm a (by omega)).1]; exact j3) (by rw [(dm a (by omega)).2]; exact j4) (by omega) hps5 own5 f2 f4 (by rw [← hM6]; rfl) (by rw [← hM6]; rfl)
    have hT6 : TK b tl pl5 X6 M6 := TK_cX (TK_c z1 fM6 (by rw [← hM6]; rfl) (by decide) (by decide) (by decide)) f2 f3 (by decide) (by decide) (by decide)
    left
    refine ⟨X6, M6, pl5, nd5, nl5, ns5, _, it + 1, f1', fun n => ?_, by omega, ⟨hT6, by rw [f2.2.1 7 (by decide)]; exact z2, by rw [fM6.2.1 9 (by decide)]; exact z3, by rw [fM6.2.1 10 (by decide)]; exact z4, by rw [fM6.2.1 11 (by decide)]; exact z5, by rw [fM6.2.1 8 (by decide)]; exact z6, z7, by rw [← hM6]; rfl, by omega, by omega, by omega, by rw [fM6.1 22 (by decide)]; exact z12⟩, by rw [← hM6]; rfl, by rw [← hM6]; rfl, ⟨by omega, by omega, by omega, by omega, fun l' y1 => ?_, ⟨fun i hi => ?_, fun l' hl' => ?_, fun s hs => ?_, by omega, by omega, fun s y1 y2 => ?_⟩, ?_, ?_, sg⟩, ?_⟩
    · show zbd (fX10_let_163 (nI o) (nI l) M) (fun _ S => eL (n + (it + 1)) S) = _
      rw [show n + (it + 1) = n + 1 + it by omega, hm4]
      have q2' : eL (n + 1 + it) M4 = eL (n + 1) M5 := q2 (n + 1)
      rw [q2', eL_let (by omega) z1.2.2.2.2.2.2.1 c12 c17]
      unfold fX10_let fX10_let_116 fX10_let_163
      rw [zld_n (by omega) (by omega), c18, if_neg (show ¬ nI 3 = 0 by decide), zld_n (by omega) (by omega), c20, zld_n (by omega) (by omega), c18, if_neg (show ¬ nI 3 = nI 2 by decide), zld_n (by omega) (by omega), c18, if_pos rfl, zld_n (by omega) (by omega), c14, zbd_r, q6, nsub (by omega), show o + 1 - 1 = o by omega, c12, hM6]
    · rw [if_neg (by omega), t5 l' (by omega)]; exact l5 l' y1
    · refine DQ_trans (l6.1 i hi) (DQ_trans (dq i (by omega) (by omega)) ?_)
      obtain ⟨y1, y2⟩ := (f4 i).2 (Or.inl (fun w => by omega))
      exact ⟨⟨y1, y2, by rw [f2.1 19 (by decide)], by rw [f2.1 21 (by decide)], by rw [f2.2.2 20 (by decide)]⟩, by rw [fM6.1 9 (by decide)], by rw [fM6.1 10 (by decide)], by rw [fM6.1 12 (by decide)], by rw [fM6.1 13 (by decide)], by rw [fM6.2.2 11 (by decide)]⟩
    · rw [fM6.1 14 (by decide), fM6.1 15 (by decide), (u2 l' (by omega)).1, (u2 l' (by omega)).2, fMM4.1 14 (by decide), fMM4.1 15 (by decide)]
      exact l6.2.1 l' hl'
    · rw [fM6.1 22 (by decide), fM6.1 23 (by decide), fM6.2.2 16 (by decide), (s22 s (by omega)).1, (s22 s (by omega)).2.1, (s22 s (by omega)).2.2]
      exact l6.2.2.1 s hs
    · rw [fM6.1 22 (by decide)]
      obtain ⟨-, l', w2, w3, w4⟩ := own5 s y1 y2
      exact ⟨l', w4, w2, w3⟩
    · refine eX_trans (Nat.le_refl _) l7 ⟨FQ_trans (FQ_mono fX3 (by decide) (by decide) (by decide)) (FQ_trans t7.1 (FQ_mono f2 (by decide) (by decide) (by decide))), fun j hj => ?_⟩
      rw [f2.2.2 23 (by decide), t7.2 j (by omega), fX3.2.2 23 (by decide)]
    · refine eM_trans (Nat.le_refl _) l8 ⟨FQ_trans (FQ_mono fMM4 (by decide) (by decide) (by decide)) (FQ_trans t8.1 (FQ_mono fM6 (by decide) (by decide) (by decide))), fun q hq => ?_⟩
      obtain ⟨y1, y2, y3, y4, y5⟩ := t8.2 q (by omega)
      exact ⟨by rw [fM6.1 17 (by decide), y1, a17 q (by omega)], by rw [fM6.1 18 (by decide), y2, a18 q hq], by rw [fM6.1 19 (by decide), y3, a19 q (by omega)], by rw [fM6.1 20 (by decide), y4, fMM4.1 20 (by decide)], by rw [fM6.1 21 (by decide), y5, fMM4.1 21 (by decide)]⟩
    · rw [hgt_c nd5 (M := M5) (fun j _ => ⟨by rw [fM6.1 9 (by decide)], by rw [fM6.1 10 (by decide)]⟩), q8, hgt4]
  · rw [q1, zbd_r, if_pos zer0]
    right
    exact BAE_chain (m1 := fun n => eL n M4) (it1 := 0) (sl1 := 0) rX4 rM4 (fun n => hm4 n) (by omega) ⟨X5, M5, it, rfl, q2, q3, q4, q5, q6⟩
theorem LRES_chain {b : Nat → Nat} {tl dd bg o : Nat} {c : Int32} {h1 : Nat} {G0 : Nat → Nat × Nat × Nat} {pl0 a l n0 : Nat} {X0 M0 : zSt} {pl pl1 : Nat} {X M X1 M1 : zSt} {x : Option (Int32 × zSt)} {m m1 : Nat → Option (Unit × zSt)} {it1 : Nat} (hX : rX X X1) (hM : rM M M1) (hm : ∀ n, m (n + it1) = m1 n) (hit : it1 + 3 * pl ≤ 3 * pl1) (h : LRES b tl dd bg o c h1 G0 pl0 a l n0 X0 M0 pl1 X1 M1 x m1) : LRES b tl dd bg o c h1 G0 pl0 a l n0 X0 M0 pl X M x m := by
  rcases h with ⟨X', M', pl', nd', nl', ns', G', it, r1, r2, r3, r4⟩ | h
  · exact Or.inl ⟨X', M', pl', nd', nl', ns', G', it + it1, r1, fun n => by rw [← Nat.add_assoc, hm]; exact r2 n, by omega, r4⟩
  · exact Or.inr (BAE_chain hX hM hm (by omega) h)
theorem let_loop {b : Nat → Nat} {tl dd bg d o l a n0 h0 : Nat} {c : Int32} {G0 : Nat → Nat × Nat × Nat} {pl0 : Nat} {X0 M0 : zSt} (IH : ES b tl dd bg d) (ho : o < 12) (hod : 12 < o + (d + 1)) (hh0 : h0 ≤ 9 * o) (ha : a + 1 ≤ pl0) (hl : 3 * l ≤ pl0) (hn : 3 * n0 ≤ pl0 + o) : ∀ (mm cnt fx : Nat) (G : Nat → Nat × Nat × Nat) (pl nd nl ns : Nat) (X M : zSt), cnt + mm = 6 → mm + 1 < fx → LI b tl dd bg o l a n0 cnt h0 c G pl nd nl ns X M → LST (if cnt = 0 then 2 else 0) o G0 pl0 a l n0 X0 M0 G pl nd nl ns X M →
    LRES b tl dd bg o c (h0 + 1) G0 pl0 a l n0 X0 M0 pl X M (zbd (fX5_readBinding (fX5_E d) (nI o) (nI cnt) X) (fun r S => fX5_readLet_64L (fX5_E d) fx (nI o, nI (6 * o), nI a, nI (cnt + 1), r, S))) (fun n => zbd (fX10_let_238 (nI o) (nI l) M) (fun _ S => eL n S)) := by
  intro mm
  induction mm with
  | zero =>
    intro cnt fx G pl nd nl ns X M hmm hfx hI hL
    obtain ⟨fx, rfl⟩ : ∃ n', fx = n' + 1 := ⟨fx - 1, by omega⟩
    rcases binding_sim IH ho hod hh0 ha hl hn (by omega) hI hL with ⟨X8, M8, pl8, nd8, nl8, ns8, G8, it, r1, -⟩ | ⟨X', M', it, r1, r2, r3, r4, r5, r6⟩
    · omega
    · rw [r1, zbd_r]
      right
      refine ⟨X', M', it, ?_, r2, r3, r4, r5, r6⟩
      show fX5_readLet_64 (fX5_E d) (fX5_readLet_64L (fX5_E d) fx) (nI o) (nI (6 * o)) (nI a) (nI (cnt + 1)) (nI 0) X' = _
      unfold fX5_readLet_64 fX5_readLet_102
      rw [if_pos zer0, if_pos zer0]
  | succ mm ih =>
    intro cnt fx G pl nd nl ns X M hmm hfx hI hL
    obtain ⟨fx, rfl⟩ : ∃ n', fx = n' + 1 := ⟨fx - 1, by omega⟩
    rcases binding_sim IH ho hod hh0 ha hl hn (by omega) hI hL with ⟨X8, M8, pl8, nd8, nl8, ns8, G8, it, r0, r1, r2, r3, r4, r5, r6, r7, r8⟩ | ⟨X', M', it, r1, r2, r3, r4, r5, r6⟩
    · rw [r1, zbd_r]
      have hPl8 := PR_nl r5.1
      obtain ⟨x, m, k1, k2, k3, -⟩ := TK_kp r5.1.1
      unfold KP at k3
      have e15 : zA M8 15 l = nI (cnt + 1) := r5.2.1.2.2.2.2.2
      have hln : l < nl8 := by have := r5.2.2.2.1.2.1; omega
      refine LRES_chain (it1 := it) (m1 := fun n => zbd (fX10_let_163 (nI o) (nI l) M8) (fun _ S => eL n S)) r7 r8 r2 r3 ?_
      by_cases z : x = 5
      · have := body_sim IH ho hod hh0 ha hl hn (by omega) (by omega) r4 (by rw [k1, z]) r5 r6
        have e : fX5_readLet_64L (fX5_E d) (fx + 1) (nI o, nI (6 * o), nI a, nI (cnt + 1), nI 1, X8) = fX5_readLet_102 (fX5_E d) (nI o) (nI (6 * o)) (nI a) (nI (cnt + 1)) (nI 1) X8 := by
          show fX5_readLet_64 (fX5_E d) (fX5_readLet_64L (fX5_E d) fx) (nI o) (nI (6 * o)) (nI a) (nI (cnt + 1)) (nI 1) X8 = _
          unfold fX5_readLet_64 fX8_kind
          rw [if_neg one0, if_neg (nt (by omega)), zbd_r, k1, if_pos (by rw [z])]
        rw [e]
        exact this
      · have e : fX5_readLet_64L (fX5_E d) (fx + 1) (nI o, nI (6 * o), nI a, nI (cnt + 1), nI 1, X8) = zbd (fX5_readBinding (fX5_E d) (nI o) (nI (cnt + 1)) X8) (fun r S => fX5_readLet_64L (fX5_E d) fx (nI o, nI (6 * o), nI a, nI (cnt + 1 + 1), r, S)) := by
          show fX5_readLet_64 (fX5_E d) (fX5_readLet_64L (fX5_E d) fx) (nI o) (nI (6 * o)) (nI a) (nI (cnt + 1)) (nI 1) X8 = _
          unfold fX5_readLet_64 fX8_kind
          rw [if_neg one0, if_neg (nt (by omega)), zbd_r, k1, if_neg (nq z)]
          simp only [nadd]
        rw [e]
        have hm163 : fX10_let_163 (nI o) (nI l) M8 = fX10_let_238 (nI o) (nI l) M8 := by
          unfold fX10_let_163
          rw [zld_n (by omega) (by omega), r4, if_neg (by decide), zld_n (by omega) (by omega), e15, if_neg (show ¬ nI (cnt + 1) ≤ 0 from nlN (b := 0) (by omega)), k2, if_neg (nq (by omega))]
        rw [hm163]
        exact ih (cnt + 1) fx G8 pl8 nd8 nl8 ns8 X8 M8 (by omega) (by omega) r5 (by rw [if_neg (by omega)]; exact r6)
    · rw [r1, zbd_r]
      right
      refine ⟨X', M', it, ?_, r2, r3, r4, r5, r6⟩
      show fX5_readLet_64 (fX5_E d) (fX5_readLet_64L (fX5_E d) fx) (nI o) (nI (6 * o)) (nI a) (nI (cnt + 1)) (nI 0) X' = _
      unfold fX5_readLet_64 fX5_readLet_102
      rw [if_pos zer0, if_pos zer0]
