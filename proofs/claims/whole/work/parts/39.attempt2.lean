theorem LK_c {nd : Nat} {M M' : zSt} {pl sk c : Nat} {bs : Nat → Nat} {e n nM f s : Int32} (h : zA M' = zA M) (H : LK nd M pl sk bs c e n nM f s) : LK nd M' pl sk bs c e n nM f s := by
  have hf : ∀ a, fol M' a = fol M a := fun a => fol_c (by rw [h]) (by rw [h]) 401 a
  have hv : ∀ a, vl M' a = vl M a := fun a => vl_c (by rw [h]) (by rw [h]) (by rw [h]) 9 a 0
  have he : ∀ i, en M' i = en M i := fun i => by show (zA M' 30 i).toNatClampNeg = (zA M 30 i).toNatClampNeg; rw [h]
  have ht : ∀ k, tn M' pl k = tn M pl k := fun k => by show (zA M' 26 (en M' (pl - 1 - k))).toNatClampNeg = (zA M 26 (en M (pl - 1 - k))).toNatClampNeg; rw [he, h]
  unfold LK at H ⊢
  simp only [h, hf, hv, he, ht]
  exact H
/-- the reference's switch -/
def mPf (c : Nat) (M : zSt) : Option (Int32 × zSt) :=
  zbd (fX10_topNode M) (fun r5 S6 =>
      if (nI c) = (nI 0) then
        zld 400 r5 (zA S6 25) (fun v7 =>
        zck 600 ((zI S6 18) - (nI 1)) (
        some ((nI 1), wA S6 30 (((zI S6 18) - (nI 1)).toNatClampNeg) v7)))
      else
      if (nI c) = (nI 1) then
        zld 400 r5 (zA S6 25) (fun v8 =>
        zck 600 (zI S6 18) (
        some ((nI 1), wI (wA S6 30 ((zI S6 18).toNatClampNeg) v8) 18 ((zI S6 18) + (nI 1)))))
      else
      if (nI c) = (nI 2) then
        zld 400 r5 (zA S6 25) (fun v9 =>
        zbd (fX10_build v9 S6) (fun _ S11 =>
        some ((nI 1), S11)))
      else
      if (nI c) = (nI 3) then
        zck 601 (zI S6 19) (
        zck 600 (zI S6 18) (
        some ((nI 1), wI (wA (wI (wA S6 31 ((zI S6 19).toNatClampNeg) (zI S6 18)) 19 ((zI S6 19) + (nI 1))) 30 ((zI S6 18).toNatClampNeg) (zI S6 26)) 18 ((zI S6 18) + (nI 1)))))
      else
      if (nI c) = (nI 4) then
        zld 400 r5 (zA S6 25) (fun v12 =>
        zbd (fX10_compute v12 S6) (fun _ S14 =>
        some ((nI 1), S14)))
      else
      zld 601 ((zI S6 19) - (nI 1)) (zA S6 31) (fun v15 =>
      some ((nI 1), wI (wI S6 19 ((zI S6 19) - (nI 1))) 18 v15)))
theorem perf_sim {nd : Nat} {X M : zSt} {l pl sk c : Nat} {bs : Nat → Nat} {e : Int32} (hP : PRG nd X M) (H : RK nd X M l pl sk bs) (hc : c ≤ 5) (hL : LK nd M pl sk bs c e (zI X 23) (zI M 26) (zI X 24) (zI X 25)) (h13 : c = 1 ∨ c = 3 → pl < 600)
    (h2 : c = 2 → ∀ d b, d < 20 → zA M 25 (en M (pl - 1)) = nI d → zA M 8 d = nI b → b ≤ 7200 → l + b ≤ 400) :
    ∃ X' M' l' pl' sk' bs', fX2_perform (nI c) X = some ((), X') ∧ mPf c M = some (nI 1, M') ∧ RK nd X' M' l' pl' sk' bs' ∧ frX X X' ∧ frM M M' := by
  have H0 := H
  obtain ⟨g1, g2, g3, g4, g5, g6, g7, g8⟩ := H
  have hskl := g3.skle
  have hsk := g3.2.2.1
  have hbl := g3.2.2.2.2.2.2.2.1
  have hpl := g3.2.2.2.1
  have hxs := g3.xs g4
  have ht := g3.ent (i := pl - 1) (by omega)
  have hr := g1.1.live ht.1 ht.2.2
  have hX : fX2_perform (nI c) X = (if (nI c) = (nI 0) then zbd (fX6_pop (nI 1) X) (fun _ S6 => zbd (fX6_push (zA M 25 (en M (pl - 1))) S6) (fun _ S8 => some ((), S8)))
      else if (nI c) = (nI 1) then zbd (fX6_push (zA M 25 (en M (pl - 1))) X) (fun _ S10 => some ((), S10))
      else if (nI c) = (nI 2) then zbd (fX2_makeFunction (zA M 25 (en M (pl - 1))) X) (fun _ S12 => some ((), S12))
      else if (nI c) = (nI 3) then zbd (fX6_putOnDump (zI X 23) X) (fun _ S14 => some ((), S14))
      else if (nI c) = (nI 4) then zbd (fX2_needsOf (zA M 25 (en M (pl - 1))) X) (fun r15 S16 => zbd (fX6_fromTop r15 S16) (fun r17 S18 => zbd (fX2_workOut (zA M 25 (en M (pl - 1))) r17 S18) (fun _ S20 => some ((), S20))))
      else zbd (fX6_takeFromDump X) (fun _ S22 => some ((), S22))) := by
    unfold fX2_perform
    rw [x_fromTop (k := 0) hxs (by omega), zbd_r, g4.2.2.1 _ (by omega), show pl - 1 - 0 = pl - 1 from rfl, ht.2.1, x_first ht.1, zbd_r, hr.2.1]
  have hM : mPf c M = (if (nI c) = (nI 0) then zck 600 ((zI M 18) - (nI 1)) (some ((nI 1), wA M 30 (((zI M 18) - (nI 1)).toNatClampNeg) (zA M 25 (en M (pl - 1)))))
      else if (nI c) = (nI 1) then zck 600 (zI M 18) (some ((nI 1), wI (wA M 30 ((zI M 18).toNatClampNeg) (zA M 25 (en M (pl - 1)))) 18 ((zI M 18) + (nI 1))))
      else if (nI c) = (nI 2) then zbd (fX10_build (zA M 25 (en M (pl - 1))) M) (fun _ S11 => some ((nI 1), S11))
      else if (nI c) = (nI 3) then zck 601 (zI M 19) (zck 600 (zI M 18) (some ((nI 1), wI (wA (wI (wA M 31 ((zI M 19).toNatClampNeg) (zI M 18)) 19 ((zI M 19) + (nI 1))) 30 ((zI M 18).toNatClampNeg) (zI M 26)) 18 ((zI M 18) + (nI 1)))))
      else if (nI c) = (nI 4) then zbd (fX10_compute (zA M 25 (en M (pl - 1))) M) (fun _ S14 => some ((nI 1), S14))
      else zld 601 ((zI M 19) - (nI 1)) (zA M 31) (fun v15 => some ((nI 1), wI (wI M 19 ((zI M 19) - (nI 1))) 18 v15))) := by
    unfold mPf
    rw [m_topNode g3, zbd_r, zld_n ht.1 (by omega), zld_n ht.1 (by omega), zld_n ht.1 (by omega), zld_n ht.1 (by omega)]
  rw [hX, hM]
  rcases hL with ⟨rfl, -, k6⟩ | ⟨rfl, -, k1⟩ | ⟨rfl, -, d, q, k2, kd, hd, h4, hq⟩ | ⟨rfl, -, p, k, r, k3, kp, hp1, hp8, hw, hk1, hk2, hf, hv, hn, hnM⟩ | ⟨rfl, -, p, k3, kp, hp1, hp8, hw, hf1, hf2⟩ | ⟨rfl, -, hs⟩ | ⟨rfl, -, hs⟩ | rfl
  · rw [if_pos rfl, if_pos rfl, x_pop hxs (by omega), zbd_r, x_push (sz := pl - 1) rfl (by omega), zbd_r, g3.1, nsub (by omega), zck_n (by omega) (by omega), ncl (by omega)]
    have e1 : pl - 1 + 1 = pl := by omega
    rw [e1]
    exact ⟨_, _, l, pl, sk, bs, rfl, rfl, RK_follow H0 k6, frX_trans (frX_trans (frX_I X _ (by decide)) (frX_A _ _ _ (by decide))) (frX_I _ _ (by decide)), frM_A M _ _ (by decide)⟩
  · have hpl6 := h13 (Or.inl rfl)
    rw [if_neg (by decide), if_pos rfl, if_neg (by decide), if_pos rfl, x_push g4.1 hpl6, zbd_r, g3.1, zck_n (by omega) (by omega), ncl (by omega), nadd]
    exact ⟨_, _, l, pl + 1, sk, bs, rfl, rfl, RK_unwind H0 k1 hpl6, frX_trans (frX_A X _ _ (by decide)) (frX_I _ _ (by decide)), frM_trans (frM_A M _ _ (by decide)) (frM_I _ _ (by decide))⟩
  · obtain ⟨p1, p2, p3, p4, p5, p6, p7⟩ := hP
    obtain ⟨pd, ns, b, e', hg, rm, enc, lev, a1, a2, a3, a4, a5, a6, a7, a8, a9⟩ := p7 d hd
    have hqp : q = pd := by
      rw [h4] at a1
      obtain ⟨z, hz1, hz2⟩ := (p2.2 d hd).2
      rw [h4] at hz2
      have hq8 : q < 2000000 := by omega
      exact (neq (by omega) (by omega)).mp a1
    subst hqp
    have hrm := rm_le a9
    have hnd20 := p2.1
    have hl := h2 rfl d (rm b) (by omega) kd a8 (by omega)
    obtain ⟨X', M', r1, r2, r3, r4, r5⟩ := fun_sim H0 p2.1 hd a2 k2 a1 (by rw [(p2.2 d hd).1]; exact a1) hq a3 a4 a5 a6 a7 a9 hl
    rw [if_neg (by decide), if_neg (by decide), if_pos rfl, if_neg (by decide), if_neg (by decide), if_pos rfl, kd, r1, r2, zbd_r, zbd_r]
    exact ⟨X', M', _, _, _, _, rfl, rfl, r3, r4, r5⟩
  · have hpl6 := h13 (Or.inr rfl)
    rw [if_neg (by decide), if_neg (by decide), if_neg (by decide), if_pos rfl, if_neg (by decide), if_neg (by decide), if_neg (by decide), if_pos rfl, x_putOnDump g4.1 g4.2.1 hpl6 (by omega), zbd_r, g3.1, g3.2.1, zck_n (by omega) (by omega), zck_n (by omega) (by omega), ncl (by omega), ncl (by omega), nadd, nadd, hn, hnM]
    have e1 : sk - 1 + 1 = sk := by omega
    rw [e1]
    exact ⟨_, _, l, pl + 1, sk + 1, _, rfl, rfl, RK_need H0 hpl6 k3 kp hp1 hp8 hw hk1 hk2 hf, frX_trans (frX_trans (frX_trans (frX_I X _ (by decide)) (frX_A _ _ _ (by decide))) (frX_A _ _ _ (by decide))) (frX_I _ _ (by decide)), frM_trans (frM_trans (frM_trans (frM_A M _ _ (by decide)) (frM_I _ _ (by decide))) (frM_A _ _ _ (by decide))) (frM_I _ _ (by decide))⟩
  · have hwp := wnt_pos p
    have hml := mny_le p hp1 hp8
    have hm2 : mny p ≤ 2 := by unfold mny; split <;> (try split) <;> omega
    obtain ⟨K, A, B, q1, q2, q3⟩ := work_sim H0 k3 hp1 hp8 hw hf1 hf2
    have hu := root_unique (X := X) (n := wnt p) g2 g3 g5 g6 hw (Or.inr ⟨k3, p, kp, hp1, rfl, fun k hk1 hk2 => by
      by_cases z : k = 1
      · subst z
        obtain ⟨r, a1, a2, -⟩ := hf1 (by omega)
        exact ⟨r, a1, a2⟩
      · have : k = 2 := by omega
        subst this
        obtain ⟨r, a1, a2, -⟩ := hf2 (by omega)
        exact ⟨r, a1, a2⟩⟩)
    rw [if_neg (by decide), if_neg (by decide), if_neg (by decide), if_neg (by decide), if_pos rfl, if_neg (by decide), if_neg (by decide), if_neg (by decide), if_neg (by decide), if_pos rfl, kp, x_needs hp1, zbd_r, wnt_needs p hp1 hp8, x_fromTop hxs hw, zbd_r, g4.2.2.1 _ (by omega), (g3.ent (i := pl - 1 - wnt p) (by omega)).2.1, q2, q3, zbd_r, zbd_r]
    exact ⟨_, _, l, pl - wnt p, sk, bs, rfl, rfl, RK_done hP.2.1.1 H0 hw (by omega) hu q1, frX_trans (frX_trans (frX_trans (frX_trans (frX_trans (frX_A X _ _ (by decide)) (frX_A _ _ _ (by decide))) (frX_A _ _ _ (by decide))) (frX_I _ _ (by decide))) (frX_A _ _ _ (by decide))) (frX_I _ _ (by decide)), frM_trans (frM_trans (frM_trans (frM_trans (frM_A M _ _ (by decide)) (frM_A _ _ _ (by decide))) (frM_A _ _ _ (by decide))) (frM_I _ _ (by decide))) (frM_A _ _ _ (by decide))⟩
  · rw [if_neg (by decide), if_neg (by decide), if_neg (by decide), if_neg (by decide), if_neg (by decide), if_neg (by decide), if_neg (by decide), if_neg (by decide), if_neg (by decide), if_neg (by decide), x_takeFromDump hxs (by omega), zbd_r, g3.2.1, nsub (by omega), zld_n (by omega) (by omega), g3.2.2.2.2.2.1 _ (by omega)]
    exact ⟨_, _, l, bs (sk - 1), sk - 1, bs, rfl, rfl, RK_back H0 hs, frX_trans (frX_I X _ (by decide)) (frX_I _ _ (by decide)), frM_trans (frM_I M _ (by decide)) (frM_I _ _ (by decide))⟩
  · omega
  · omega
/-- is there no room for the STEP -/
def full (X : zSt) (M : zSt) (l pl st c : Nat) : Prop := st = 5000 ∨ ((c = 1 ∨ c = 3) ∧ pl = 600) ∨ (c = 2 ∧ ∃ d b, zA M 25 (en M (pl - 1)) = nI d ∧ zA M 8 d = nI b ∧ d < 20 ∧ b ≤ 7200 ∧ 400 < l + b)
theorem room_sim {nd : Nat} {X M : zSt} {l pl sk c st : Nat} {bs : Nat → Nat} {e n nM f s : Int32} (hP : PRG nd X M) (H : RK nd X M l pl sk bs) (hc : c ≤ 5) (hL : LK nd M pl sk bs c e n nM f s) (hst : zI M 20 = nI st) (hst5 : st ≤ 5000) :
    (full X M l pl st c ∧ (st = 5000 ∨ fX2_hasRoomFor (nI c) X = some (nI 0, X)) ∧ fX10_isFull (nI c) M = some (nI 1, M)) ∨ (¬ full X M l pl st c ∧ st < 5000 ∧ fX2_hasRoomFor (nI c) X = some (nI 1, X) ∧ fX10_isFull (nI c) M = some (nI 0, M)) := by
  obtain ⟨g1, g2, g3, g4, g5, g6, g7, g8⟩ := H
  have hskl := g3.skle
  have hsk := g3.2.2.1
  have hpl := g3.2.2.2.1
  have hbl := g3.2.2.2.2.2.2.2.1
  have hxs := g3.xs g4
  have ht := g3.ent (i := pl - 1) (by omega)
  have hr := g1.1.live ht.1 ht.2.2
  by_cases h5 : st = 5000
  · refine Or.inl ⟨Or.inl h5, Or.inl h5, ?_⟩
    unfold fX10_isFull
    rw [hst, h5, if_pos rfl]
  · have hn5 : ¬ nI st = nI 5000 := nq h5
    by_cases h13 : c = 1 ∨ c = 3
    · have hx : fX2_hasRoomFor (nI c) X = some (if pl = 600 then nI 0 else nI 1, X) := by
        unfold fX2_hasRoomFor zbo
        rw [x_hasRoom g4.1 hpl]
        rcases h13 with z | z
        · subst z
          rw [if_pos rfl, zbd_r]
          split <;> rfl
        · subst z
          rw [if_neg (by decide), if_neg (by decide), if_pos rfl, zbd_r]
          split <;> rfl
      have hm : fX10_isFull (nI c) M = some (if pl = 600 then nI 1 else nI 0, M) := by
        unfold fX10_isFull fX10_isFull_22
        rw [hst, if_neg hn5, g3.1]
        have e : (if nI pl = nI 600 then some (nI 1, M) else some (nI 0, M)) = some (if pl = 600 then nI 1 else nI 0, M) := by
          by_cases z : pl = 600
          · rw [if_pos (by rw [z]), if_pos z]
          · rw [if_neg (nq z), if_neg z]
        rcases h13 with z | z
        · subst z
          rw [if_pos rfl, e]
        · subst z
          rw [if_neg (by decide), if_pos rfl, e]
      by_cases z : pl = 600
      · rw [if_pos z] at hx hm
        exact Or.inl ⟨Or.inr (Or.inl ⟨h13, z⟩), Or.inr hx, hm⟩
      · rw [if_neg z] at hx hm
        refine Or.inr ⟨fun q => ?_, by omega, hx, hm⟩
        rcases q with q | ⟨-, q⟩ | ⟨q, -⟩
        · exact h5 q
        · exact z q
        · omega
    · by_cases h2 : c = 2
      · subst h2
        rcases hL with ⟨z, -⟩ | ⟨z, -⟩ | ⟨-, -, d, q, k2, kd, hd, h4, hq⟩ | ⟨z, -⟩ | ⟨z, -⟩ | ⟨z, -⟩ | ⟨z, -⟩ | z
        · omega
        · omega
        · obtain ⟨p1, p2, p3, p4, p5, p6, p7⟩ := hP
          have hnd := p2.1
          obtain ⟨pd, ns, b, e', hg, rm, enc, lev, a1, a2, a3, a4, a5, a6, a7, a8, a9⟩ := p7 d hd
          have hrm := rm_le a9
          have hl4 : l ≤ 400 := by rw [g1.2.2.2.2.1]; exact cnt_le _ _
          have hx : fX2_hasRoomFor (nI 2) X = some (if 400 < l + rm b then nI 0 else nI 1, X) := by
            unfold fX2_hasRoomFor fX0_hasRoom zbo
            rw [if_neg (by decide), if_pos rfl, x_fromTop (k := 0) hxs (by omega), zbd_r, g4.2.2.1 _ (by omega), show pl - 1 - 0 = pl - 1 from rfl, ht.2.1, x_first ht.1, zbd_r, hr.2.1, kd, x_nodes (by omega), zbd_r, a5, g1.2.2.1, nadd]
            by_cases z : 400 < l + rm b
            · rw [if_pos z, if_pos (pt z)]; rfl
            · rw [if_neg z, if_neg (nt (by omega))]; rfl
          have hm : fX10_isFull (nI 2) M = some (if 400 < l + rm b then nI 1 else nI 0, M) := by
            unfold fX10_isFull
            rw [hst, if_neg hn5, if_neg (by decide), if_neg (by decide), if_pos rfl, m_topNode g3, zbd_r, zld_n ht.1 (by omega), kd, zld_n (by omega) (by omega), a8, g1.2.2.2.1, nadd]
            by_cases z : 400 < l + rm b
            · rw [if_pos z, if_neg (nl z)]
            · rw [if_neg z, if_pos (qle (by omega))]
          by_cases z : 400 < l + rm b
          · rw [if_pos z] at hx hm
            exact Or.inl ⟨Or.inr (Or.inr ⟨rfl, d, rm b, kd, a8, by omega, by omega, z⟩), Or.inr hx, hm⟩
          · rw [if_neg z] at hx hm
            refine Or.inr ⟨fun q => ?_, by omega, hx, hm⟩
            rcases q with q | ⟨q, -⟩ | ⟨-, d', b', q1, q2, q3, q4, q5⟩
            · exact h5 q
            · omega
            · rw [kd] at q1
              obtain rfl : d = d' := (neq (by omega) (by omega)).mp q1
              rw [a8] at q2
              have : rm b = b' := (neq (by omega) (by omega)).mp q2
              omega
        · omega
        · omega
        · omega
        · omega
        · omega
      · refine Or.inr ⟨fun q => ?_, by omega, ?_, ?_⟩
        · rcases q with q | ⟨q, -⟩ | ⟨q, -⟩
          · exact h5 q
          · exact h13 q
          · exact h2 q
        · unfold fX2_hasRoomFor
          rw [if_neg (nq (by omega)), if_neg (nq h2), if_neg (nq (by omega))]
        · unfold fX10_isFull
          rw [hst, if_neg hn5, if_neg (nq (by omega)), if_neg (nq (by omega)), if_neg (nq h2)]
