/-- one attempt, in both -/
theorem attempt_sim {nd : Nat} {X M : zSt} {l pl sk st : Nat} {bs : Nat → Nat} (hP : PRG nd X M) (H : RK nd X M l pl sk bs) (hs : zI X 21 = nI st) (hsM : zI M 20 = nI st) (hst : st ≤ 5000) :
    ∃ o X' M' l' pl' sk' bs' st', o < 4 ∧ fX2_attempt X = some (nI o, X') ∧ fX10_stepOne M = some (if o = 0 then nI 1 else nI 0, M') ∧ RK nd X' M' l' pl' sk' bs' ∧ aX X X' ∧ aM M M' ∧ zI M' 21 = nI o ∧ zI M' 22 = zI X' 22 ∧ st' ≤ 5000 ∧ zI X' 21 = nI st' ∧ zI M' 20 = nI st' ∧ (o = 0 → st' = st + 1) ∧ (o ≠ 0 → st' = st) ∧ (o ≠ 0 → zA M' = zA M ∧ ∀ k, k ∈ [15, 16, 17, 18, 19] → zI M' k = zI M k) := by
  have H0 := H
  obtain ⟨g1, g2, g3, g4, g5, g6, g7, g8⟩ := H
  have hskl := g3.skle
  have hsk := g3.2.2.1
  have hcur : hi pl sk bs (sk - 1) = pl := by unfold hi; rw [if_neg (by omega)]
  obtain ⟨c, e, n, nM, f, s, l1, l2, l3, l4⟩ := look_sim g2 g1.1 hP.2.1 g3 g4 (fun i h1 h2 => (g5 (sk - 1) (by omega) i h1 (by rw [hcur]; exact h2)).1)
  unfold fX2_attempt fX10_stepOne
  rw [l1, l2, zbd_r, zbd_r]
  have HL := RK_L e n f s nM e H0
  by_cases c6 : c = 6
  · subst c6
    have hs1 : sk = 1 := by
      rcases l4 with ⟨z, -⟩ | ⟨z, -⟩ | ⟨z, -⟩ | ⟨z, -⟩ | ⟨z, -⟩ | ⟨z, -⟩ | ⟨-, -, z⟩ | z <;> omega
    rw [if_pos rfl, if_neg (by decide), if_pos rfl]
    unfold fX10_stepOne_22
    refine ⟨1, xL X e n f s, wI (wI (mL M nM e) 21 (nI 1)) 22 (zI (mL M nM e) 27), l, pl, sk, bs, st, by omega, rfl, by rw [if_neg (by omega)], ?_, aX_L X e n f s, aM_trans (aM_L M nM e) (aM_trans (aM_I _ _ (by decide)) (aM_I _ _ (by decide))), rfl, rfl, hst, hs, hsM, fun q => by omega, fun _ => rfl, fun _ => ⟨rfl, fun k hk => by simp only [List.mem_cons, List.not_mem_nil, or_false] at hk; rcases hk with h | h | h | h | h <;> subst h <;> rfl⟩⟩
    have h1 := RK_I (k := 22) (j := 21) (v := e) (w := nI 1) (by decide) (by decide) HL
    have h2 := RK_I (k := 22) (j := 22) (v := e) (w := zI (mL M nM e) 27) (by decide) (by decide) h1
    rw [xL_e, xL_e] at h2
    exact h2
  · by_cases c7 : c = 7
    · subst c7
      rw [if_neg (by decide), if_pos rfl, if_neg (by decide), if_neg (by decide)]
      unfold fX10_stepOne_22
      refine ⟨2, xL X e n f s, wI (wI (mL M nM e) 21 (nI 2)) 22 (zI (mL M nM e) 27), l, pl, sk, bs, st, by omega, rfl, by rw [if_neg (by omega)], ?_, aX_L X e n f s, aM_trans (aM_L M nM e) (aM_trans (aM_I _ _ (by decide)) (aM_I _ _ (by decide))), rfl, rfl, hst, hs, hsM, fun q => by omega, fun _ => rfl, fun _ => ⟨rfl, fun k hk => by simp only [List.mem_cons, List.not_mem_nil, or_false] at hk; rcases hk with h | h | h | h | h <;> subst h <;> rfl⟩⟩
      have h1 := RK_I (k := 22) (j := 21) (v := e) (w := nI 2) (by decide) (by decide) HL
      have h2 := RK_I (k := 22) (j := 22) (v := e) (w := zI (mL M nM e) 27) (by decide) (by decide) h1
      rw [xL_e, xL_e] at h2
      exact h2
    · have hc5 : c ≤ 5 := by omega
      have he0 : e = 0 := by
        rcases l4 with ⟨-, z, -⟩ | ⟨-, z, -⟩ | ⟨-, z, -⟩ | ⟨-, z, -⟩ | ⟨-, z, -⟩ | ⟨-, z, -⟩ | ⟨-, z, -⟩ | z
        all_goals first | exact z | omega
      rw [if_neg (nq c6), if_neg (nq c7), if_pos (qle hc5)]
      -- the states in which room is asked
      have hP1 : PRG nd (xL X e n f s) (wI (mL M nM e) 22 (nI 0)) := PRG_a (aX_L X e n f s) (aM_trans (aM_L M nM e) (aM_I _ _ (by decide))) hP
      have H1 : RK nd (xL X e n f s) (wI (mL M nM e) 22 (nI 0)) l pl sk bs := by
        have h1 := RK_I (k := 22) (j := 22) (v := e) (w := nI 0) (by decide) (by decide) HL
        rw [xL_e] at h1
        exact h1
      have hL1 : LK nd (wI (mL M nM e) 22 (nI 0)) pl sk bs c e n nM f s := LK_c (M := M) (M' := wI (mL M nM e) 22 (nI 0)) rfl l4
      have e21 : zI (xL X e n f s) 21 = nI st := hs
      rw [e21]
      rcases room_sim hP1 H1 hc5 hL1 hsM hst with ⟨r1, r2, r3⟩ | ⟨r1, r2, r3, r4⟩
      · -- FULL
        rw [r3, zbd_r, if_neg (show ¬ nI 1 = 0 by decide)]
        have hx : (if nI 5000 ≤ nI st then some ((nI 3), xL X e n f s) else zbd (fX2_hasRoomFor (nI c) (xL X e n f s)) (fun r3 S4 => if r3 = 0 then some ((nI 3), S4) else zbd (fX2_perform (nI c) S4) (fun _ S6 => some ((nI 0), wI S6 21 ((zI S6 21) + (nI 1)))))) = some (nI 3, xL X e n f s) := by
          rcases r2 with z | z
          · rw [if_pos (qle (by omega))]
          · by_cases q : nI 5000 ≤ nI st
            · rw [if_pos q]
            · rw [if_neg q, z, zbd_r, if_pos nI_0]
        rw [hx]
        refine ⟨3, xL X e n f s, wI (wI (mL M nM e) 22 (nI 0)) 21 (nI 3), l, pl, sk, bs, st, by omega, rfl, by rw [if_neg (by omega)], ?_, aX_L X e n f s, aM_trans (aM_L M nM e) (aM_trans (aM_I _ _ (by decide)) (aM_I _ _ (by decide))), rfl, ?_, hst, hs, hsM, fun q => by omega, fun _ => rfl, fun _ => ⟨rfl, fun k hk => by simp only [List.mem_cons, List.not_mem_nil, or_false] at hk; rcases hk with h | h | h | h | h <;> subst h <;> rfl⟩⟩
        · have h1 := RK_I (k := 22) (j := 21) (v := e) (w := nI 3) (by decide) (by decide) H1
          rw [xL_e] at h1
          exact h1
        · show nI 0 = e
          rw [he0]; rfl
      · -- a STEP
        rw [if_neg (nl (by omega)), r3, r4, zbd_r, zbd_r, if_neg (by decide), if_pos nI_0]
        generalize hM3 : (wI (wI (wI (mL M nM e) 22 (nI 0)) 21 (nI 0)) 20 ((zI (wI (mL M nM e) 22 (nI 0)) 20) + (nI 1))) = M3
        have e20 : zI (wI (mL M nM e) 22 (nI 0)) 20 = nI st := hsM
        rw [e20, nadd] at hM3
        have aM3 : aM M M3 := by rw [← hM3]; exact aM_trans (aM_L M nM e) (aM_trans (aM_I _ _ (by decide)) (aM_trans (aM_I _ _ (by decide)) (aM_I _ _ (by decide))))
        have zM3 : zA M3 = zA M := by rw [← hM3]; rfl
        have hP3 : PRG nd (xL X e n f s) M3 := PRG_a (aX_L X e n f s) aM3 hP
        have H3 : RK nd (xL X e n f s) M3 l pl sk bs := by
          have h1 := RK_I (k := 22) (j := 21) (v := e) (w := nI 0) (by decide) (by decide) H1
          have h2 := RK_I (k := 22) (j := 20) (v := e) (w := nI (st + 1)) (by decide) (by decide) h1
          rw [xL_e, xL_e, hM3] at h2
          exact h2
        have hL3 : LK nd M3 pl sk bs c e (zI (xL X e n f s) 23) (zI M3 26) (zI (xL X e n f s) 24) (zI (xL X e n f s) 25) := by
          have e26 : zI M3 26 = nM := by rw [← hM3]; rfl
          rw [e26]
          exact LK_c zM3 l4
        have nf : ¬ full X M l pl st c := fun q => r1 q
        obtain ⟨X', M', l', pl', sk', bs', p1, p2, p3, p4, p5⟩ := perf_sim hP3 H3 hc5 hL3 (fun q => by
          rcases Nat.lt_or_ge pl 600 with z | z
          · exact z
          · exact absurd (Or.inr (Or.inl ⟨q, by have := g3.2.2.2.1; omega⟩)) nf) (fun q d b hd h1 h2 h3 => by
          rcases Nat.lt_or_ge 400 (l + b) with z | z
          · have en3 : en M3 (pl - 1) = en M (pl - 1) := by show (zA M3 30 _).toNatClampNeg = _; rw [zM3]
            rw [zM3, en3] at h1
            rw [zM3] at h2
            exact absurd (Or.inr (Or.inr ⟨q, d, b, h1, h2, hd, h3, z⟩)) nf
          · exact z)
        rw [p1, zbd_r]
        have hm : zbd (fX10_topNode M3) (fun r5 S6 =>
            if (nI c) = (nI 0) then zld 400 r5 (zA S6 25) (fun v7 => zck 600 ((zI S6 18) - (nI 1)) (some ((nI 1), wA S6 30 (((zI S6 18) - (nI 1)).toNatClampNeg) v7)))
            else if (nI c) = (nI 1) then zld 400 r5 (zA S6 25) (fun v8 => zck 600 (zI S6 18) (some ((nI 1), wI (wA S6 30 ((zI S6 18).toNatClampNeg) v8) 18 ((zI S6 18) + (nI 1)))))
            else if (nI c) = (nI 2) then zld 400 r5 (zA S6 25) (fun v9 => zbd (fX10_build v9 S6) (fun _ S11 => some ((nI 1), S11)))
            else if (nI c) = (nI 3) then zck 601 (zI S6 19) (zck 600 (zI S6 18) (some ((nI 1), wI (wA (wI (wA S6 31 ((zI S6 19).toNatClampNeg) (zI S6 18)) 19 ((zI S6 19) + (nI 1))) 30 ((zI S6 18).toNatClampNeg) (zI S6 26)) 18 ((zI S6 18) + (nI 1)))))
            else if (nI c) = (nI 4) then zld 400 r5 (zA S6 25) (fun v12 => zbd (fX10_compute v12 S6) (fun _ S14 => some ((nI 1), S14)))
            else zld 601 ((zI S6 19) - (nI 1)) (zA S6 31) (fun v15 => some ((nI 1), wI (wI S6 19 ((zI S6 19) - (nI 1))) 18 v15))) = some (nI 1, M') := p2
        rw [hm]
        have s21 : zI X' 21 = nI st := by rw [p4.2.1 21 (by decide)]; exact hs
        refine ⟨0, _, _, l', pl', sk', bs', st + 1, by omega, rfl, by rw [if_pos rfl], ?_, aX_trans (aX_trans (aX_L X e n f s) (aX_fr p4)) (aX_I _ _ (by decide)), aM_trans aM3 (aM_fr p5), ?_, ?_, by omega, ?_, ?_, fun _ => rfl, fun q => absurd rfl q, fun q => absurd rfl q⟩
        · rw [s21, nadd]
          have h1 := RK_I (k := 21) (j := 21) (v := nI (st + 1)) (w := zI M' 21) (by decide) (by decide) p3
          rw [wI_id] at h1
          exact h1
        · rw [p5.2.1 21 (by decide), ← hM3]; rfl
        · rw [p5.2.1 22 (by decide)]
          show _ = zI X' 22
          rw [p4.2.1 22 (by decide), ← hM3]
          show nI 0 = e
          rw [he0]; rfl
        · rw [s21, nadd]; rfl
        · rw [p5.2.1 20 (by decide), ← hM3]; rfl
