/-- a PRIMITIVE is done -/
theorem RK_done {nd : Nat} {X M : zSt} {l pl sk n K : Nat} {A B : Int32} {bs : Nat → Nat} (hnd : nd ≤ 20) (H : RK nd X M l pl sk bs) (hn : n < pl - bs (sk - 1)) (hn1 : 1 ≤ n) (hu : ∀ i, i < pl → i ≠ pl - 1 - n → en M i ≠ en M (pl - 1 - n)) (hd : K = 0 ∨ (K = 4 ∧ lvn M A ∧ lvn M B) ∨ (K = 6 ∧ lvn M A)) :
    RK nd (wI (wA (wI (wA (wA (wA X 25 (en M (pl - 1 - n)) (nI K)) 26 (en M (pl - 1 - n)) A) 27 (en M (pl - 1 - n)) B) 19 (nI (pl - (n + 1)))) 29 (pl - (n + 1)) (nI (en M (pl - 1 - n)))) 19 (nI (pl - (n + 1) + 1)))
      (wA (wI (wA (wA (wA M 24 (en M (pl - 1 - n)) (nI K)) 25 (en M (pl - 1 - n)) A) 26 (en M (pl - 1 - n)) B) 18 (nI (pl - n))) 30 (pl - n - 1) (nI (en M (pl - 1 - n)))) l (pl - n) sk bs := by
  obtain ⟨g1, g2, g3, g4, g5, g6, g7, g8⟩ := H
  have hskl := g3.skle
  have hsk := g3.2.2.1
  have hbl := g3.2.2.2.2.2.2.2.1
  have hpl := g3.2.2.2.1
  have hK : K < 7 := by rcases hd with z | ⟨z, -⟩ | ⟨z, -⟩ <;> omega
  have hr := g3.ent (i := pl - 1 - n) (by omega)
  have hcur : hi pl sk bs (sk - 1) = pl := by unfold hi; rw [if_neg (by omega)]
  have hr1 := (g5 (sk - 1) (by omega) (pl - 1 - n) (by omega) (by rw [hcur]; omega)).1
  have hG := become_sim (X := X) g1 hr.1 hr.2.2 hK A B
  generalize hρ : en M (pl - 1 - n) = ρ at *
  generalize hM' : (wA (wI (wA (wA (wA M 24 ρ (nI K)) 25 ρ A) 26 ρ B) 18 (nI (pl - n))) 30 (pl - n - 1) (nI ρ)) = M'
  have z24 : zA M' 24 = upd (zA M 24) ρ (nI K) := by rw [← hM']; rfl
  have z25 : zA M' 25 = upd (zA M 25) ρ A := by rw [← hM']; rfl
  have z26 : zA M' 26 = upd (zA M 26) ρ B := by rw [← hM']; rfl
  have z27 : zA M' 27 = zA M 27 := by rw [← hM']; rfl
  have z30 : zA M' 30 = upd (zA M 30) (pl - n - 1) (nI ρ) := by rw [← hM']; rfl
  have z31 : zA M' 31 = zA M 31 := by rw [← hM']; rfl
  have z28 : zA M' 28 = zA M 28 := by rw [← hM']; rfl
  have z29 : zA M' 29 = zA M 29 := by rw [← hM']; rfl
  have i18 : zI M' 18 = nI (pl - n) := by rw [← hM']; rfl
  have i19 : zI M' 19 = zI M 19 := by rw [← hM']; rfl
  have i15 : zI M' 15 = zI M 15 := by rw [← hM']; rfl
  have i16 : zI M' 16 = zI M 16 := by rw [← hM']; rfl
  have i17 : zI M' 17 = zI M 17 := by rw [← hM']; rfl
  have en' : ∀ i, en M' i = en M i := by
    intro i
    show (zA M' 30 i).toNatClampNeg = _
    rw [z30, upd_ite]
    split
    · rename_i q
      rw [ncl (by omega), q, ← hρ]
      have : pl - 1 - n = pl - n - 1 := by omega
      rw [this]
    · rfl
  have mono : ∀ k, k < 400 → zA M 24 k ≠ nI 7 → zA M' 24 k ≠ nI 7 := fun k _ hk => by rw [z24]; exact updk hK hk
  have ho : ∀ m, m < 400 → zA M 24 m ≠ nI 7 → m ≠ ρ → zA M' 24 m = zA M 24 m ∧ zA M' 25 m = zA M 25 m ∧ zA M' 26 m = zA M 26 m := fun m _ _ h3 => by rw [z24, z25, z26, updN _ _ h3, updN _ _ h3, updN _ _ h3]; exact ⟨rfl, rfl, rfl⟩
  have hf := fire (M := M) (M' := M') (r := pl - 1 - n) (w := ρ) (bs := bs) g2 g3 g5 g6 (by omega) (by omega) (by rw [hρ]; exact ho) (fun i _ => en' i) (by rw [en', hρ]) (Or.inl hρ.symm) (by rw [hρ, hr1]; decide) (fun i hi => by rw [hρ]; exact hu i (by omega) (by omega))
  have ep : pl - 1 - n + 1 = pl - n := by omega
  rw [ep] at hf
  refine ⟨?_, ?_, ?_, ?_, hf.1, hf.2, ?_, ?_⟩
  · obtain ⟨a1, a2, a3, a4, a5, a6, a7, a8⟩ := hG
    refine ⟨fun m hm => ?_, fun m hm => by rw [z24]; exact a2 m hm, a3, by rw [i15]; exact a4, by rw [z24]; exact a5, by rw [i17]; exact a6, by rw [i16]; exact a7, ?_⟩
    · rw [z24, z25, z26, z27]; exact a1 m hm
    · obtain ⟨s, s1, s2, s3⟩ := a8
      exact ⟨s, s1, s2, fun i hi => by rw [z24]; exact s3 i hi⟩
  · intro m hm h7
    by_cases q : m = ρ
    · subst q
      unfold Wn
      rw [z24, z25, z26, updS, updS, updS]
      rcases hd with z | ⟨z, za, zb⟩ | ⟨z, za⟩
      · exact Or.inl (by rw [z])
      · exact Or.inr (Or.inr (Or.inr (Or.inr (Or.inl ⟨by rw [z], lvn_mono mono za, lvn_mono mono zb⟩))))
      · exact Or.inr (Or.inr (Or.inr (Or.inr (Or.inr (Or.inr ⟨by rw [z], lvn_mono mono za⟩)))))
    · rw [z24, updN _ _ q] at h7
      have := ho m hm h7 q
      exact Wn_mono (M := M) mono this.1 this.2.1 this.2.2 (g2 m hm h7)
  · obtain ⟨a1, a2, a3, a4, a5, a6, a7, a8, a9⟩ := g3
    refine ⟨i18, by rw [i19]; exact a2, a3, by omega, a5, fun i hi => by rw [z31]; exact a6 i hi, a7, by omega, fun i hi => ?_⟩
    rw [z30, upd_ite]
    split
    · exact ⟨ρ, hr.1, rfl, mono ρ hr.1 hr.2.2⟩
    · exact lvn_mono mono (a9 i (by omega))
  · obtain ⟨b1, b2, b3, b4⟩ := g4
    refine ⟨?_, b2, fun i hi => ?_, fun i hi => by rw [z31]; exact b4 i hi⟩
    · show nI (pl - (n + 1) + 1) = nI (pl - n)
      have : pl - (n + 1) + 1 = pl - n := by omega
      rw [this]
    · show upd (zA X 29) (pl - (n + 1)) (nI ρ) i = zA M' 30 i
      have : pl - (n + 1) = pl - n - 1 := by omega
      rw [z30, this, upd_ite, upd_ite]
      split
      · rfl
      · exact b3 i (by omega)
  · intro d hd'; exact mono d (by omega) (g7 d hd')
  · intro d hd'; rw [z28, z29]; exact g8 d hd'
theorem x_225 {X : zSt} {p ρ pl dp b : Nat} (hp : p < 13) (hp8 : p ≠ 8) (h : XS X pl dp b) (hw : wnt p < pl - b) : fX2_workOut_225 (nI p) (nI ρ) X = some ((), wI (wA (wI X 19 (nI (pl - (wnt p + 1)))) 29 (pl - (wnt p + 1)) (nI ρ)) 19 (nI (pl - (wnt p + 1) + 1))) := by
  have hpl := h.2.2.2.2.1
  unfold fX2_workOut_225
  rw [x_needs hp, zbd_r, wnt_needs p hp hp8, nadd, x_pop h (by omega), zbd_r, x_push (sz := pl - (wnt p + 1)) rfl (by omega), zbd_r]
theorem m_415 {M : zSt} {pl n : Nat} {v : Int32} (h : zI M 18 = nI pl) (hn : n < pl) (hpl : pl ≤ 600) : fX10_compute_415 (nI n) v M = some ((), wA (wI M 18 (nI (pl - n))) 30 (pl - n - 1) v) := by
  unfold fX10_compute_415
  rw [h, nsub (by omega), nsub (by omega), zck_n (by omega) (by omega), ncl (by omega)]
theorem x_firstT (X : zSt) (a : Int32) : ∃ v, fX0_firstOf a X = some (v, X) := by
  unfold fX0_firstOf
  by_cases h1 : a < 0
  · exact ⟨-1, by rw [if_pos h1]⟩
  · by_cases h2 : nI 400 ≤ a
    · exact ⟨-1, by rw [if_neg h1, if_pos h2]⟩
    · refine ⟨zA X 26 a.toNatClampNeg, ?_⟩
      rw [if_neg h1, if_neg h2]
      obtain ⟨j, hj, rfl⟩ := nI_of (x := a) h1
      have : j < 400 := by
        rcases Nat.lt_or_ge j 400 with z | z
        · exact z
        · exact absurd (nI_le z hj) h2
      rw [zld_n this (by omega), ncl (by omega)]
