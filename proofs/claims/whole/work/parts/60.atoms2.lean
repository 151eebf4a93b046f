/-! read(): the ATOMS of an EXPR -/
theorem STP_tr {e1 e2 dd : Nat} {c : Int32} {o bg : Nat} {G G1 G2 : Nat → Nat × Nat × Nat} {pl nd nl ns pl1 nd1 nl1 ns1 pl2 nd2 nl2 ns2 : Nat} {X M X1 M1 X2 M2 : zSt} (h3 : nl2 ≤ 2000) (h1 : STP e1 dd c o bg G pl nd nl ns X M G1 pl1 nd1 nl1 ns1 X1 M1) (h2 : STP e2 dd c o bg G1 pl1 nd1 nl1 ns1 X1 M1 G2 pl2 nd2 nl2 ns2 X2 M2) : STP (e1 + e2) dd c o bg G pl nd nl ns X M G2 pl2 nd2 nl2 ns2 X2 M2 := by
  obtain ⟨a1, a2, a3, a4, a5, a6, a7, a8, a9⟩ := h1
  obtain ⟨b1, b2, b3, b4, b5, b6, b7, b8, b9⟩ := h2
  have := a9.2.1
  exact ⟨by omega, by omega, by omega, by omega, fun l hl => (b5 l (by omega)).trans (a5 l hl), EXT_trans a9.1 a6 b6, eX_trans (Nat.le_refl _) a7 b7, eM_trans (Nat.le_refl _) a8 b8, SEG_app h3 a9 b6 b5 b9⟩
theorem STP_e {e e' dd : Nat} {c : Int32} {o bg : Nat} {G G1 : Nat → Nat × Nat × Nat} {pl nd nl ns pl1 nd1 nl1 ns1 : Nat} {X M X1 M1 : zSt} (h1 : STP e dd c o bg G pl nd nl ns X M G1 pl1 nd1 nl1 ns1 X1 M1) (h : nd1 + pl ≤ nd + pl1 + e') : STP e' dd c o bg G pl nd nl ns X M G1 pl1 nd1 nl1 ns1 X1 M1 := ⟨h1.1, h, h1.2.2⟩
theorem SEG_o {G : Nat → Nat × Nat × Nat} {X M : zSt} {a b lo nl n0 ns dd : Nat} {c : Int32} {o o' bg : Nat} (ho : o ≤ o') (h : SEG G X M a b lo nl n0 ns dd c o' bg) : SEG G X M a b lo nl n0 ns dd c o bg := by
  obtain ⟨a1, a2, a3, a4, a5, a6⟩ := h
  refine ⟨a1, a2, a3, fun l q1 q2 => ?_, fun i q1 q2 => ?_, a6⟩
  · obtain ⟨w1, w2, w3, w4, w5⟩ := a4 l q1 q2
    exact ⟨w1, w2, w3, by omega, w5⟩
  · have := a5 i q1 q2
    unfold DR at this ⊢
    rcases this with h | h | h | ⟨h1, h2, h3, h4, k, h5, h6⟩ | h
    · exact Or.inl h
    · exact Or.inr (Or.inl h)
    · exact Or.inr (Or.inr (Or.inl h))
    · exact Or.inr (Or.inr (Or.inr (Or.inl ⟨h1, h2, h3, h4, k, by omega, h6⟩)))
    · exact Or.inr (Or.inr (Or.inr (Or.inr h)))
theorem STP_o {e dd : Nat} {c : Int32} {o o' bg : Nat} {G G1 : Nat → Nat × Nat × Nat} {pl nd nl ns pl1 nd1 nl1 ns1 : Nat} {X M X1 M1 : zSt} (ho : o ≤ o') (h1 : STP e dd c o' bg G pl nd nl ns X M G1 pl1 nd1 nl1 ns1 X1 M1) : STP e dd c o bg G pl nd nl ns X M G1 pl1 nd1 nl1 ns1 X1 M1 := by
  obtain ⟨a1, a2, a3, a4, a5, a6, a7, a8, a9⟩ := h1
  exact ⟨a1, a2, a3, a4, a5, a6, ⟨a7.1, fun j hj => a7.2 j (by omega)⟩, ⟨a8.1, fun p hp => a8.2 p (by omega)⟩, SEG_o ho a9⟩
theorem BAE_chain {tl sl sl1 pl pl1 : Nat} {X M X1 M1 : zSt} {x : Option (Int32 × zSt)} {m m1 : Nat → Option (Unit × zSt)} {it1 : Nat} (hX : rX X X1) (hM : rM M M1) (hm : ∀ n, m (n + it1) = m1 n) (hit : it1 + 3 * pl + sl ≤ 3 * pl1 + sl1) (h : BAE tl sl1 pl1 X1 M1 x m1) : BAE tl sl pl X M x m := by
  obtain ⟨X', M', it, r1, r2, r3, r4, r5, r6⟩ := h
  exact ⟨X', M', it + it1, r1, fun n => by rw [← Nat.add_assoc, hm]; exact r2 n, by omega, r4, FQ_trans hX r5, FQ_trans hM r6⟩
theorem hgt_s {M : zSt} {bg i : Nat} (h : bg ≤ i) : hgt M bg (i + 1) = hst (zA M 9 i) (zA M 10 i) (hgt M bg i) := by
  show (if i < bg then 0 else hst (zA M 9 i) (zA M 10 i) (hgt M bg i)) = _
  rw [if_neg (by omega)]
theorem hst1 {k : Nat} {v : Int32} {h : Nat} (hk : k ≤ 4) : hst (nI k) v h = h + 1 := by
  unfold hst
  rw [if_neg (nq (by omega)), if_neg (nq (by omega)), if_neg (nq (by omega))]
/-- one deed more -/
theorem deed_step {b : Nat → Nat} {e tl dd bg o : Nat} {c : Int32} {G : Nat → Nat × Nat × Nat} {pl nd nl ns pl1 : Nat} {X M X1 M1 : zSt} {d v p : Int32} {nm : Int64} (hP : PR b tl dd bg X M pl nd nl ns c) (fX : FQ [] [10, 11, 12, 13] [] (aD X nd d v nm p) X1) (fM : FQ [9, 10, 12, 13, 18, 19] [2, 3, 4, 5, 9, 12, 13] [11] M M1)
    (hMi : ∀ i, i < nd → zA M1 9 i = zA M 9 i ∧ zA M1 10 i = zA M 10 i ∧ zA M1 12 i = zA M 12 i ∧ zA M1 13 i = zA M 13 i ∧ zB M1 11 i = zB M 11 i) (hMp : ∀ p, p < o → zA M1 18 p = zA M 18 p ∧ zA M1 19 p = zA M 19 p) (h9 : zI M1 9 = nI (nd + 1)) (hT : TK b tl pl1 X1 M1) (hpl : pl ≤ pl1) (hpe : pl + 1 ≤ pl1 + e) (hD : DR G X1 M1 nl nl ns c o bg nd) (hp6 : ¬ d = nI 6) (h0 : hgt M bg nd ≤ 120) (h1 : hgt M1 bg (nd + 1) ≤ 120) :
    STP e dd c o bg G pl nd nl ns X M G pl1 (nd + 1) nl ns X1 M1 ∧ PR b tl dd bg X1 M1 pl1 (nd + 1) nl ns c := by
  obtain ⟨p1, p2, p3, p4, p5, p6, p7, p8, p9, p10, p11, p12⟩ := hP
  have fX0 := FQ_aD X nd d v nm p
  have xk : ∀ k, k ∈ [17, 18, 19, 21] → ∀ i, i < nd → zA X1 k i = zA X k i := fun k hk i hi => by
    rw [fX.1 k (by simp)]
    simp only [List.mem_cons, List.not_mem_nil, or_false] at hk
    rcases hk with e | e | e | e <;> subst e <;> exact updN _ _ (by omega)
  have xb : ∀ i, i < nd → zB X1 20 i = zB X 20 i := fun i hi => by
    rw [fX.2.2 20 (by simp)]
    show vp_updL _ _ _ i = _
    rw [updL_ite, if_neg (by omega)]
    rfl
  have hX7 : zI X1 7 = nI (nd + 1) := by rw [fX.2.1 7 (by decide)]; rfl
  refine ⟨⟨by omega, by omega, by omega, by omega, fun _ _ => rfl, ⟨fun i hi => ⟨⟨xk 17 (by decide) i hi, xk 18 (by decide) i hi, xk 19 (by decide) i hi, xk 21 (by decide) i hi, xb i hi⟩, hMi i hi⟩, fun l hl => ⟨by rw [fM.1 14 (by decide)], by rw [fM.1 15 (by decide)]⟩, fun s hs => ⟨by rw [fM.1 22 (by decide)], by rw [fM.1 23 (by decide)], by rw [fM.2.2 16 (by decide)]⟩, Nat.le_refl _, Nat.le_refl _, fun s q1 q2 => by omega⟩, ⟨FQ_trans (FQ_mono fX0 (by decide) (by decide) (by decide)) (FQ_mono fX (by decide) (by decide) (by decide)), fun j _ => ?_⟩, ⟨FQ_mono fM (by decide) (by decide) (by decide), fun p hp => ⟨by rw [fM.1 17 (by decide)], (hMp p hp).1, (hMp p hp).2, by rw [fM.1 20 (by decide)], by rw [fM.1 21 (by decide)]⟩⟩, by omega, Nat.le_refl _, Nat.le_refl _, fun l q1 q2 => by omega, fun i q1 q2 => ?_, fun i q1 q2 => ?_, ?_, fun s q1 q2 => by omega⟩, hT, hX7, h9, by rw [fM.2.1 10 (by decide)]; exact p4, by rw [fM.2.1 11 (by decide)]; exact p5, by rw [fM.2.1 8 (by decide)]; exact p6, p7, by rw [fM.2.1 14 (by decide)]; exact p8, by omega, by omega, by omega, by rw [fM.1 22 (by decide)]; exact p12⟩
  · rw [fX.2.2 23 (by simp), fX0.2.2 23 (by decide)]
  · have : i = nd := by omega
    rw [this]; exact hD
  · have hh : hgt M1 bg nd = hgt M bg nd := hgt_c nd (fun j hj => ⟨(hMi j hj).1, (hMi j hj).2.1⟩)
    by_cases z : i = nd
    · rw [z, hh]; exact h0
    · have : i = nd + 1 := by omega
      rw [this]; exact h1
  · rw [psum_s X1 (Nat.le_refl _), psum_0 X1 nd nd (Nat.le_refl _)]
    have : pw X1 nd = 0 := by
      unfold pw
      rw [fX.1 17 (by simp)]
      have : zA (aD X nd d v nm p) 17 nd = d := updS _ _ _
      rw [this, if_neg hp6]
    omega
/-- only TOKENS and the stack of what is being read -/
theorem TK_c {b : Nat → Nat} {tl pl : Nat} {X M M' : zSt} {la li lb : List Nat} (h : TK b tl pl X M) (fM : FQ la li lb M M') (hL : zL M' 0 = zL M 0) (d1 : 1 ∉ la) (d2 : ∀ k, k ∈ [1, 2, 3, 4, 5, 6] → k ∉ li) (d3 : 2 ∉ lb) : TK b tl pl X M' := by
  obtain ⟨h1, h2, h3, h4, h5, h6, h7, h8, a, h9, h10, h11, h12⟩ := h
  refine ⟨h1, BM_c h2 fM d1 (d2 1 (by decide)), by unfold WT at h3 ⊢; rw [fM.2.2 2 d3]; exact h3, h4, by rw [fM.2.1 3 (d2 3 (by decide))]; exact h5, h6, by rw [fM.2.1 6 (d2 6 (by decide))]; exact h7, h8, a, h9, by rw [fM.2.1 4 (d2 4 (by decide))]; exact h10, h11, ?_⟩
  unfold KK KW at h12 ⊢
  rw [fM.2.1 2 (d2 2 (by decide)), fM.2.1 5 (d2 5 (by decide)), hL]
  exact h12
theorem TK_cX {b : Nat → Nat} {tl pl : Nat} {X X' M : zSt} {la li lb : List Nat} (h : TK b tl pl X M) (fX : FQ la li lb X X') (hL : zL X' 0 = zL X 0) (d1 : 11 ∉ la) (d2 : ∀ k, k ∈ [5, 8, 10, 11, 12, 13] → k ∉ li) (d3 : 24 ∉ lb) : TK b tl pl X' M := by
  obtain ⟨h1, h2, h3, h4, h5, h6, h7, h8, a, h9, h10, h11, h12⟩ := h
  refine ⟨BX_c h1 fX d1 (d2 5 (by decide)), h2, by unfold WT at h3 ⊢; rw [fX.2.2 24 d3]; exact h3, by rw [fX.2.1 12 (d2 12 (by decide))]; exact h4, h5, by rw [fX.2.1 8 (d2 8 (by decide))]; exact h6, h7, h8, a, by rw [fX.2.1 10 (d2 10 (by decide))]; exact h9, h10, h11, ?_⟩
  unfold KK KW at h12 ⊢
  rw [fX.2.1 11 (d2 11 (by decide)), fX.2.1 13 (d2 13 (by decide)), hL]
  exact h12
/-- no deed, only TOKENS -/
theorem tok_step {b : Nat → Nat} {tl dd bg o : Nat} {c : Int32} {G : Nat → Nat × Nat × Nat} {pl nd nl ns pl1 : Nat} {X M X1 M1 : zSt} (hP : PR b tl dd bg X M pl nd nl ns c) (fX : FQ [] [10, 11, 12, 13] [] X X1) (fM : FQ [17, 18, 19] [2, 3, 4, 5, 12, 13] [] M M1)
    (hMp : ∀ p, p < o → zA M1 17 p = zA M 17 p ∧ zA M1 18 p = zA M 18 p ∧ zA M1 19 p = zA M 19 p) (hT : TK b tl pl1 X1 M1) (hpl : pl ≤ pl1) (h0 : hgt M bg nd ≤ 120) :
    STP 0 dd c o bg G pl nd nl ns X M G pl1 nd nl ns X1 M1 ∧ PR b tl dd bg X1 M1 pl1 nd nl ns c ∧ hgt M1 bg nd = hgt M bg nd := by
  obtain ⟨p1, p2, p3, p4, p5, p6, p7, p8, p9, p10, p11, p12⟩ := hP
  have hh : hgt M1 bg nd = hgt M bg nd := hgt_c nd (fun j hj => ⟨by rw [fM.1 9 (by decide)], by rw [fM.1 10 (by decide)]⟩)
  refine ⟨⟨hpl, by omega, by omega, by omega, fun _ _ => rfl, ⟨fun i hi => ⟨⟨by rw [fX.1 17 (by decide)], by rw [fX.1 18 (by decide)], by rw [fX.1 19 (by decide)], by rw [fX.1 21 (by decide)], by rw [fX.2.2 20 (by decide)]⟩, by rw [fM.1 9 (by decide)], by rw [fM.1 10 (by decide)], by rw [fM.1 12 (by decide)], by rw [fM.1 13 (by decide)], by rw [fM.2.2 11 (by decide)]⟩, fun l hl => ⟨by rw [fM.1 14 (by decide)], by rw [fM.1 15 (by decide)]⟩, fun s hs => ⟨by rw [fM.1 22 (by decide)], by rw [fM.1 23 (by decide)], by rw [fM.2.2 16 (by decide)]⟩, Nat.le_refl _, Nat.le_refl _, fun s q1 q2 => by omega⟩, ⟨FQ_mono fX (by decide) (by decide) (by decide), fun j _ => by rw [fX.2.2 23 (by decide)]⟩, ⟨FQ_mono fM (by decide) (by decide) (by decide), fun p hp => ⟨(hMp p hp).1, (hMp p hp).2.1, (hMp p hp).2.2, by rw [fM.1 20 (by decide)], by rw [fM.1 21 (by decide)]⟩⟩, SEG_nil (by rw [hh]; exact h0)⟩, ⟨hT, by rw [fX.2.1 7 (by decide)]; exact p2, by rw [fM.2.1 9 (by decide)]; exact p3, by rw [fM.2.1 10 (by decide)]; exact p4, by rw [fM.2.1 11 (by decide)]; exact p5, by rw [fM.2.1 8 (by decide)]; exact p6, p7, by rw [fM.2.1 14 (by decide)]; exact p8, by omega, by omega, p11, by rw [fM.1 22 (by decide)]; exact p12⟩, hh⟩
/-- the rows of the class -/
theorem x_begins {X : zSt} {x : Nat} (hx : zI X 11 = nI x) (h : x ≤ 10) : fX5_beginsAtom X = some (if x = 1 ∨ x = 2 ∨ x = 3 ∨ x = 8 then nI 1 else nI 0, X) := by
  unfold fX5_beginsAtom fX8_kind
  rw [zbd_r, hx]
  by_cases z1 : x = 1
  · rw [if_pos (by rw [z1]), if_pos (by omega)]
  rw [if_neg (nq z1)]
  by_cases z3 : x = 3
  · rw [if_pos (by rw [z3]), if_pos (by omega)]
  rw [if_neg (nq z3)]
  by_cases z2 : x = 2
  · rw [if_pos (by rw [z2]), if_pos (by omega)]
  rw [if_neg (nq z2)]
  by_cases z8 : x = 8
  · rw [if_pos (by rw [z8]), if_pos (by omega)]
  rw [if_neg (nq z8), if_neg (by omega)]
theorem x_atoms_s {oE : Int32 → zSt → Option (Int32 × zSt)} {f cnt : Nat} {o : Int32} {X : zSt} {x : Nat} (hx : zI X 11 = nI x) (h : x ≤ 10) (hc : cnt ≤ 10) : fX5_readAtoms_2L oE (f + 1) (o, nI cnt, X) = if x = 1 ∨ x = 2 ∨ x = 3 ∨ x = 8 then (if cnt = 10 then some (nI 0, wI (wI X 8 (nI 3)) 9 (zI X 12)) else zbd (fX5_readAtom oE o X) (fun r3 S4 => if r3 = 0 then some (nI 0, S4) else fX5_readAtoms_2L oE f (o, nI (cnt + 1), S4))) else fX5_readAtoms_50 oE (nI cnt) X := by
  show fX5_readAtoms_2 oE (fX5_readAtoms_2L oE f) o (nI cnt) X = _
  unfold fX5_readAtoms_2
  rw [if_neg (nt hc), x_begins hx h, zbd_r]
  by_cases z : x = 1 ∨ x = 2 ∨ x = 3 ∨ x = 8
  · rw [if_pos z, if_neg one0, if_pos z]
    by_cases z2 : cnt = 10
    · rw [if_pos (by rw [z2]), if_pos z2]; rfl
    · rw [if_neg (nq z2), if_neg z2]
      simp only [nadd]
  · rw [if_neg z, if_pos zer0, if_neg z]
/-- the rows of the reference -/
theorem m_55 {M : zSt} {o m : Nat} (ho : o < 60) (hm : zI M 2 = nI m) (h : m ≤ 100) : fX10_atoms_55 (nI o) M = fX10_atoms_110 (nI o) (if m = 1 ∨ m = 2 ∨ m = 40 ∨ (10 ≤ m ∧ m < 23) then nI 1 else nI 0) (wA M 18 o (nI 2)) := by
  unfold fX10_atoms_55 fX10_atoms_105 fX10_atoms_109
  rw [zck_n ho (by omega), hm, ncl (by omega)]
  by_cases z1 : m = 1
  · rw [if_pos (by rw [z1]), if_pos (by omega)]
  rw [if_neg (nq z1)]
  by_cases z2 : m = 2
  · rw [if_pos (by rw [z2]), if_pos (by omega)]
  rw [if_neg (nq z2)]
  by_cases z3 : m = 40
  · rw [if_pos (by rw [z3]), if_pos (by omega)]
  rw [if_neg (nq z3)]
  by_cases z4 : m < 10
  · rw [if_pos (pt z4), if_neg (by omega)]
  rw [if_neg (nt (by omega))]
  by_cases z5 : 23 ≤ m
  · rw [if_pos (qle z5), if_neg (by omega)]
  rw [if_neg (nl (by omega)), if_pos (by omega)]
theorem m_110 {M : zSt} {o cnt : Nat} (ho : o < 60) (h6 : zI M 6 = nI 0) (h19 : zA M 19 o = nI cnt) (hc : cnt < 10) : fX10_atoms_110 (nI o) (nI 1) M = fX10_atoms_182 (nI o) (nI 1) M := by
  unfold fX10_atoms_110
  rw [if_neg one0, zld_n ho (by omega), h19, if_neg (nl (by omega))]
