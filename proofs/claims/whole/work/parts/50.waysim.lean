/-! both cores, read again in states that differ elsewhere -/
theorem RK_c {nd : Nat} {X M X' M' : zSt} {l pl sk : Nat} {bs : Nat → Nat} (hXA : ∀ k, k ∈ [25, 26, 27, 28, 29, 30, 31, 32] → zA X' k = zA X k) (hXI : ∀ k, k ∈ [14, 15, 16, 17, 19, 20] → zI X' k = zI X k) (hMA : ∀ k, k ∈ [24, 25, 26, 27, 28, 29, 30, 31] → zA M' k = zA M k) (hMI : ∀ k, k ∈ [15, 16, 17, 18, 19] → zI M' k = zI M k) (H : RK nd X M l pl sk bs) : RK nd X' M' l pl sk bs := by
  have en' : en M' = en M := funext (fun i => by show (zA M' 30 i).toNatClampNeg = _; rw [hMA 30 (by decide)])
  have fs' : fs M' = fs M := funext (fun i => by show (zA M' 25 i).toNatClampNeg = _; rw [hMA 25 (by decide)])
  have sn' : sn M' = sn M := funext (fun i => by show (zA M' 26 i).toNatClampNeg = _; rw [hMA 26 (by decide)])
  have lv' : lvn M' = lvn M := funext (fun v => by unfold lvn; rw [hMA 24 (by decide)])
  have ch : ∀ a b, chn M a b → chn M' a b := fun a b h => chn_frame (M := M) (M' := M') (fun n hn => ⟨by rw [hMA 24 (by decide)]; exact hn, by rw [hMA 25 (by decide)]⟩) h
  obtain ⟨g1, g2, g3, g4, g5, g6, g7, g8⟩ := H
  refine ⟨?_, ?_, ?_, ?_, ?_, ?_, ?_, ?_⟩
  · unfold GR Rg at g1 ⊢
    rw [hXA 25 (by decide), hXA 26 (by decide), hXA 27 (by decide), hXA 28 (by decide), hXI 14 (by decide), hXI 15 (by decide), hXI 16 (by decide), hXI 17 (by decide), hMA 24 (by decide), hMA 25 (by decide), hMA 26 (by decide), hMA 27 (by decide), hMI 15 (by decide), hMI 16 (by decide), hMI 17 (by decide)]
    exact g1
  · unfold Wg Wn at g2 ⊢
    rw [lv', hMA 24 (by decide), hMA 25 (by decide), hMA 26 (by decide)]
    exact g2
  · unfold MS at g3 ⊢
    rw [lv', hMA 30 (by decide), hMA 31 (by decide), hMI 18 (by decide), hMI 19 (by decide)]
    exact g3
  · unfold Rs at g4 ⊢
    rw [hXA 29 (by decide), hXA 30 (by decide), hXI 19 (by decide), hXI 20 (by decide), hMA 30 (by decide), hMA 31 (by decide)]
    exact g4
  · intro j hj i h1 h2
    obtain ⟨a, b⟩ := g5 j hj i h1 h2
    rw [en', fs', hMA 24 (by decide)]
    exact ⟨a, ch _ _ b⟩
  · intro j hj
    obtain ⟨p, k, b1, b2, b3, b4, b5, b6, b7, b8⟩ := g6 j hj
    rw [en', sn', hMA 24 (by decide), hMA 25 (by decide)]
    exact ⟨p, k, b1, b2, b3, b4, b5, b6, b7, ch _ _ b8⟩
  · rw [hMA 24 (by decide)]; exact g7
  · rw [hXA 31 (by decide), hXA 32 (by decide), hMA 28 (by decide), hMA 29 (by decide)]; exact g8
theorem i3 (v : Int32) (N : Nat) (hN : N ≤ 2000000) : v < 0 ∨ (¬ v < 0 ∧ nI N ≤ v) ∨ ∃ n, n < N ∧ v = nI n := by
  by_cases h : v < 0
  · exact Or.inl h
  · by_cases h2 : nI N ≤ v
    · exact Or.inr (Or.inl ⟨h, h2⟩)
    · have h0 : 0 ≤ v.toInt := by
        rw [Int32.lt_iff_toInt_lt] at h
        have : (0 : Int32).toInt = 0 := by decide
        omega
      have h3 : v.toInt < N := by
        rw [Int32.le_iff_toInt_le, nI_toInt (by omega)] at h2
        omega
      refine Or.inr (Or.inr ⟨v.toInt.toNat, by omega, ?_⟩)
      apply Int32.toInt_inj.mp
      rw [nI_toInt (by omega)]
      omega
theorem ilt (a b : Int32) : a < b ↔ ¬ b ≤ a := by
  rw [Int32.lt_iff_toInt_lt, Int32.le_iff_toInt_le]; omega
theorem m_in {S : zSt} {v a b : Int32} : fX10_in v a b S = some (if a ≤ v ∧ v ≤ b then nI 1 else nI 0, S) := by
  unfold fX10_in
  by_cases h1 : v < a
  · have h : ¬ (a ≤ v ∧ v ≤ b) := fun z => (ilt _ _).mp h1 z.1
    rw [if_pos h1, if_neg h]
  · rw [if_neg h1]
    have h1' : a ≤ v := Decidable.byContradiction (fun z => h1 ((ilt _ _).mpr z))
    by_cases h2 : b < v
    · have h : ¬ (a ≤ v ∧ v ≤ b) := fun z => (ilt _ _).mp h2 z.2
      rw [if_pos h2, if_neg h]
    · have h2' : v ≤ b := Decidable.byContradiction (fun z => h2 ((ilt _ _).mpr z))
      have h : a ≤ v ∧ v ≤ b := ⟨h1', h2'⟩
      rw [if_neg h2, if_pos h]
theorem m_isNode {S : zSt} {v : Int32} : (∃ n, n < 400 ∧ v = nI n ∧ zA S 24 n ≠ nI 7 ∧ fX10_isNode v S = some (nI 1, S)) ∨ ((¬ ∃ n, n < 400 ∧ v = nI n ∧ zA S 24 n ≠ nI 7) ∧ fX10_isNode v S = some (nI 0, S)) := by
  unfold fX10_isNode
  rw [m_in, zbd_r]
  rcases i3 v 400 (by omega) with h | ⟨h0, h⟩ | ⟨n, hn, h⟩
  · right
    refine ⟨fun ⟨n, hn, e, _⟩ => by rw [e] at h; exact nneg (by omega) h, ?_⟩
    have : ¬ (nI 0 ≤ v ∧ v ≤ nI 399) := fun z => by
      have z1 := z.1
      rw [Int32.le_iff_toInt_le] at z1
      rw [Int32.lt_iff_toInt_lt] at h
      have e1 : (nI 0).toInt = 0 := by decide
      have e2 : (0 : Int32).toInt = 0 := by decide
      omega
    rw [if_neg this, if_pos nI_0]
  · right
    refine ⟨fun ⟨n, hn, e, _⟩ => by rw [e] at h; exact nl (a := 400) (by omega) (by omega) h, ?_⟩
    have : ¬ (nI 0 ≤ v ∧ v ≤ nI 399) := fun z => by
      have z1 := z.2
      rw [Int32.le_iff_toInt_le, nI_toInt (by omega)] at z1
      rw [Int32.le_iff_toInt_le, nI_toInt (by omega)] at h
      omega
    rw [if_neg this, if_pos nI_0]
  · have : nI 0 ≤ v ∧ v ≤ nI 399 := by rw [h]; exact ⟨qle (by omega), qle (by omega)⟩
    rw [if_pos this, if_neg (by decide), h, zld_n hn (by omega)]
    by_cases e : zA S 24 n = nI 7
    · right
      refine ⟨fun ⟨n', hn', e', h7⟩ => h7 ?_, by rw [if_pos e]⟩
      have := (neq (by omega) (by omega)).mp e'
      rw [← this]; exact e
    · left
      exact ⟨n, hn, rfl, e, by rw [if_neg e]⟩
theorem x_lengthOf {X : zSt} {n : Nat} (hn : n < 400) : fX1_lengthOf (nI n) X = some (zA X 37 n, X) := by
  unfold fX1_lengthOf
  rw [if_neg (nneg (by omega)), if_neg (nl (by omega)), zld_n hn (by omega)]
/-- way(n, k), in both -/
theorem way_sim {nd : Nat} {X M : zSt} {l pl sk : Nat} {bs : Nat → Nat} (hP : PRG nd X M) (H : RK nd X M l pl sk bs) (v k : Int32) (hX0 : zI X 0 ≠ 0) (hM0 : zI M 24 ≠ 0) :
    ∃ r X' M', fX9_way v k X = some (r, X') ∧ fX10_way v k M = some (r, M') ∧ FR [36, 37, 38] [27] X X' ∧ FR [35, 36, 37] [0, 28] M M' := by
  have hnd := hP.2.1.1
  have hP1 : PRG nd X (wI M 0 (nI 0)) := PRG_c (X := X) (M := M) (fun _ _ => rfl) rfl rfl (fun _ _ => rfl) rfl rfl rfl hP
  have H1 : RK nd X (wI M 0 (nI 0)) l pl sk bs := RK_c (X := X) (M := M) (fun _ _ => rfl) (fun _ _ => rfl) (fun _ _ => rfl) (fun k hk => by
    have : k ≠ 0 := fun z => by rw [z] at hk; exact absurd hk (by decide)
    simp only [zs, this, if_false]) H
  have frM0 : FR [35, 36, 37] [0, 28] M (wI M 0 (nI 0)) := FR_I _ _ (by decide)
  unfold fX9_way fX10_way
  rw [if_neg hX0, if_neg hM0]
  generalize wI M 0 (nI 0) = M1 at hP1 H1 frM0 ⊢
  obtain ⟨g1, g2, g3, g4, g5, g6, g7, g8⟩ := H1
  obtain ⟨X1, f, len, par, c, c0, x1, x2, x3, x4⟩ := x_findKept g2 g1.1 g3 g4 hnd g7 hP1.2.2.1
  obtain ⟨M2, f', c', m1, m2⟩ := m_findKept g2 g3 hnd g7 hP1.2.2.2.1
  obtain ⟨k1, k2, k3, k4, k5, k6, k7, k8⟩ := m2
  have frX := x2.2.2.2.2.2.2.2.2.2.2.2.2
  have hc4 := x2.c400
  have frM2 : FR [35, 36, 37] [28] M1 M2 := FR_mono k1 (by decide) (by decide)
  have frM2' : FR [35, 36, 37] [0, 28] M M2 := FR_trans frM0 (FR_mono k1 (by decide) (by decide))
  unfold fX1_wayTo
  rw [x1, zbd_r]
  -- the class: how long
  have hlen : (∃ p, p < c ∧ v = nI (f p) ∧ fX1_lengthOf v X1 = some (nI (len (f p)), X1)) ∨ ((¬ ∃ n, n < 400 ∧ v = nI n ∧ Kp nd M1 pl n) ∧ fX1_lengthOf v X1 = some (nI 0, X1)) := by
    rcases i3 v 400 (by omega) with h | ⟨h0, h⟩ | ⟨n, hn, h⟩
    · right
      refine ⟨fun ⟨n, hn, e, _⟩ => by rw [e] at h; exact nneg (by omega) h, ?_⟩
      unfold fX1_lengthOf
      rw [if_pos h]
    · right
      refine ⟨fun ⟨n, hn, e, _⟩ => by rw [e] at h; exact nl (a := 400) (by omega) (by omega) h, ?_⟩
      unfold fX1_lengthOf
      rw [if_neg h0, if_pos h]
    · rw [h, x_lengthOf hn, x2.2.2.1 n hn]
      by_cases e : len n = 0
      · right
        refine ⟨fun ⟨n', hn', e', hk⟩ => ?_, by rw [e]⟩
        have := (neq (by omega) (by omega)).mp e'
        rw [← this] at hk
        obtain ⟨j, j1, j2⟩ := (x4 n).mpr hk
        have := (x2.2.2.2.1 j j1).1
        rw [j2] at this; omega
      · left
        obtain ⟨j, j1, j2⟩ := x2.2.2.2.2.1 n hn e
        exact ⟨j, j1, by rw [j2], by rw [j2]⟩
  rcases hlen with ⟨p, hp, ev, hlen⟩ | ⟨hno, hlen⟩
  · -- kept
    obtain ⟨hl1, hl2⟩ := x2.2.2.2.1 p hp
    have hlv := Kp_live g2 g3 hnd g7 (x2.kp p hp)
    rw [hlen, zbd_r, zbd_r, if_neg (show ¬ nI (len (f p)) = 0 from nq (b := 0) (by omega))]
    have hn1 : fX10_isNode v M1 = some (nI 1, M1) := by
      rcases m_isNode (S := M1) (v := v) with ⟨n, a1, a2, a3, a4⟩ | ⟨a1, -⟩
      · exact a4
      · exact absurd ⟨f p, hlv.1, ev, hlv.2⟩ a1
    have hn2 : fX10_isNode v M2 = some (nI 1, M2) := by
      rcases m_isNode (S := M2) (v := v) with ⟨n, a1, a2, a3, a4⟩ | ⟨a1, -⟩
      · exact a4
      · exact absurd ⟨f p, hlv.1, ev, by rw [k1.1 24 (by decide)]; exact hlv.2⟩ a1
    rw [hn1, zbd_r, if_neg (show ¬ nI 1 = 0 by decide), m1, zbd_r]
    unfold fX10_way_31
    rw [hn2, zbd_r, if_neg (show ¬ nI 1 = 0 by decide), ev, zld_n hlv.1 (by omega), k7 _ hlv.1 (x2.kp p hp), if_neg (show ¬ nI 1 = 0 by decide)]
    by_cases hk : k < -1
    · have hk' : ¬ (-1 : Int32) ≤ k := (ilt _ _).mp hk
      rw [if_pos hk, if_neg hk']
      exact ⟨_, _, _, rfl, rfl, frX, frM2'⟩
    · have hk' : (-1 : Int32) ≤ k := Decidable.byContradiction (fun z => hk ((ilt _ _).mpr z))
      rw [if_neg hk, if_pos hk']
      obtain ⟨S', fr, a1, a2, a3, a4⟩ := m_far (x2 := k) g2 hlv.1 hlv.2 frM2
      rw [a1]
      obtain ⟨wA, wB, wC⟩ := way_far g2 g3 hnd g7 x2 x3 hp a4
      -- the root
      obtain ⟨q1, q2, -⟩ := way_pos x2 hp (len (f p) - 1) (by omega)
      have hq4 := (x2.2.1 _ q1).1
      have hq0 : Ps par p (len (f p) - 1) < c0 := by
        rcases Nat.lt_or_ge (Ps par p (len (f p) - 1)) c0 with z | z
        · exact z
        · obtain ⟨b1, b2, b3, b4⟩ := x2.2.2.2.2.2.2.2.2.2.2.1 _ z q1
          have := (x2.2.2.2.1 (par (Ps par p (len (f p) - 1))) (by omega)).1
          omega
      have hfq := wB (len (f p) - 1) (by omega)
      have hroot := m_way228 (q := f (Ps par p (len (f p) - 1))) (x2 := k) g3 a2 hnd hP1.2.2.2.1 a3 hq4 (x2.2.2.2.2.2.2.2.1 _ hq0).1 (by omega) (fun r hr hrt h1 => by
        obtain ⟨j, j1, j2⟩ := x2.2.2.2.2.2.2.2.2.1 r hrt
        have hjc : j < c := by have := x2.2.2.2.2.2.2.1; omega
        obtain ⟨s, hs⟩ : ∃ s, fr r = s + 1 := ⟨fr r - 1, by omega⟩
        have h2 := wA s j hjc (by rw [j2]; exact hs)
        have h3 := (x2.2.2.2.2.2.2.2.1 j j1).2
        refine ⟨by omega, fun z => ?_⟩
        rcases Nat.lt_or_ge r (f (Ps par p (len (f p) - 1))) with w | w
        · exfalso
          refine wC (len (f p) - 1) j (by omega) hjc ?_ (by rw [j2]; omega)
          rcases Nat.lt_or_ge j (Ps par p (len (f p) - 1)) with y | y
          · exact y
          · exfalso
            by_cases e : Ps par p (len (f p) - 1) = j
            · rw [e, j2] at w; omega
            · have := x2.2.2.2.2.2.2.2.2.2.1 (Ps par p (len (f p) - 1)) j (by omega) j1
              rw [j2] at this; omega
        · exact w) 400 0 zFU (-1) (by omega) (by rw [zFU_s]; omega) (Or.inl ⟨rfl, fun r hr => absurd hr (Nat.not_lt_zero _)⟩)
      rw [hroot]
      unfold wayE
      have e37 : zA S' 37 (f (Ps par p (len (f p) - 1))) = nI (len (f p)) := by
        rw [(a3 _ hq4).1, hfq, fz_p (by omega)]
        have e1 : len (f p) - 1 + 1 = len (f p) := by omega
        rw [e1]
      rw [zld_n hq4 (by omega), e37]
      have frF : FR [35, 36, 37] [0, 28] M S' := FR_trans frM0 (FR_mono a2 (by decide) (by decide))
      by_cases hkl : k < nI (len (f p))
      · rw [if_pos hkl, if_pos hkl]
        by_cases hk1 : k = -1
        · rw [if_pos hk1, if_neg (by rw [hk1]; decide), zld_n hq4 (by omega), e37]
          exact ⟨_, _, _, rfl, rfl, frX, frF⟩
        · obtain ⟨kn, hkn, ekn⟩ : ∃ kn, kn < len (f p) ∧ k = nI kn := by
            rcases i3 k (len (f p)) (by omega) with h | ⟨h0, h⟩ | h
            · exfalso
              apply hk1
              apply Int32.toInt_inj.mp
              rw [Int32.lt_iff_toInt_lt] at h hk
              have e1 : (-1 : Int32).toInt = -1 := by decide
              have e2 : (0 : Int32).toInt = 0 := by decide
              omega
            · exfalso
              rw [Int32.lt_iff_toInt_lt] at hkl
              rw [Int32.le_iff_toInt_le] at h
              omega
            · exact h
          rw [if_neg hk1, ekn, if_pos (show (0 : Int32) ≤ nI kn from qle (a := 0) (by omega))]
          have hx := x_onWay x2 hp hkn (len (f p) - 1 - kn) 0 zFU (by omega) (by rw [zFU_s]; omega)
          have hm := m_way315 (k := kn) g2 g3 hnd g7 x2 x3 hp a4 a2 a3 hkn kn 0 zFU (by omega) (by rw [zFU_s]; omega)
          unfold fX1_onWay
          rw [← ev, hlen, zbd_r, nsub hl1, ev]
          have hx' : fX1_onWay_11L zFU (nI kn, nI (f p), nI (len (f p) - 1), X1) = some (nI (f (Ps par p (len (f p) - 1 - kn))), X1) := hx
          have hm' : fX10_way_315L zFU (nI kn, nI (f (Ps par p (len (f p) - 1))), nI 0, S') = some (nI (f (Ps par p (len (f p) - 1 - kn))), S') := hm
          rw [hx', hm', zbd_r]
          exact ⟨_, _, _, rfl, rfl, frX, frF⟩
      · rw [if_neg hkl, if_neg hkl]
        exact ⟨_, _, _, rfl, rfl, frX, frF⟩
  · -- not kept
    rw [hlen, zbd_r, zbd_r, if_pos nI_0]
    rcases m_isNode (S := M1) (v := v) with ⟨n, a1, a2, a3, a4⟩ | ⟨a1, a4⟩
    · have hnk : ¬ Kp nd M1 pl n := fun z => hno ⟨n, a1, a2, z⟩
      rw [a4, zbd_r, if_neg (show ¬ nI 1 = 0 by decide), m1, zbd_r]
      unfold fX10_way_31
      have hn2 : fX10_isNode v M2 = some (nI 1, M2) := by
        rcases m_isNode (S := M2) (v := v) with ⟨n', b1, b2, b3, b4⟩ | ⟨b1, -⟩
        · exact b4
        · exact absurd ⟨n, a1, a2, by rw [k1.1 24 (by decide)]; exact a3⟩ b1
      rw [hn2, zbd_r, if_neg (show ¬ nI 1 = 0 by decide), a2, zld_n a1 (by omega), k8 n a1 hnk, if_pos nI_0]
      exact ⟨_, _, _, rfl, rfl, frX, frM2'⟩
    · rw [a4, zbd_r, if_pos nI_0]
      unfold fX10_way_31
      rw [a4, zbd_r, if_pos nI_0]
      exact ⟨_, _, _, rfl, rfl, frX, frM0⟩
