/-- both cores are the same, and well formed -/
def RK (nd : Nat) (X M : zSt) (l pl sk : Nat) (bs : Nat → Nat) : Prop := GR X M l ∧ Wg nd M ∧ MS M pl sk bs ∧ Rs X M pl sk ∧ Sp M pl sk bs ∧ Dp M pl sk bs ∧ (∀ d, d < nd → zA M 24 d ≠ nI 7) ∧ ∀ d, d < 20 → zA X 31 d = zA M 28 d ∧ zA X 32 d = zA M 29 d
theorem en_upd (M : zSt) (k : Nat) (v : Int32) (i : Nat) : en (wA M 30 k v) i = if i = k then v.toNatClampNeg else en M i := by
  show (upd (zA M 30) k v i).toNatClampNeg = _
  rw [upd_ite]
  split <;> rfl
theorem RK_follow {nd : Nat} {X M : zSt} {l pl sk : Nat} {bs : Nat → Nat} (H : RK nd X M l pl sk bs) (h6 : zA M 24 (en M (pl - 1)) = nI 6) :
    RK nd (wI (wA (wI X 19 (nI (pl - 1))) 29 (pl - 1) (zA M 25 (en M (pl - 1)))) 19 (nI pl)) (wA M 30 (pl - 1) (zA M 25 (en M (pl - 1)))) l pl sk bs := by
  obtain ⟨g1, g2, g3, g4, g5, g6, g7, g8⟩ := H
  have hskl := g3.skle
  have hsk := g3.2.2.1
  have hbl := g3.2.2.2.2.2.2.2.1
  have ht := g3.ent (i := pl - 1) (by omega)
  have hv := g2.p6 ht.1 h6
  have e1 : ∀ i, i ≠ pl - 1 → en (wA M 30 (pl - 1) (zA M 25 (en M (pl - 1)))) i = en M i := fun i hi => by rw [en_upd, if_neg hi]
  have e2 : en (wA M 30 (pl - 1) (zA M 25 (en M (pl - 1)))) (pl - 1) = fs M (en M (pl - 1)) := by rw [en_upd, if_pos rfl]
  refine ⟨g1, g2, ?_, ?_, ?_, ?_, g7, g8⟩
  · obtain ⟨a1, a2, a3, a4, a5, a6, a7, a8, a9⟩ := g3
    refine ⟨a1, a2, a3, a4, a5, a6, a7, a8, fun i hi => ?_⟩
    show lvn M (upd (zA M 30) (pl - 1) (zA M 25 (en M (pl - 1))) i)
    by_cases q : i = pl - 1
    · rw [q, updS]; exact hv
    · rw [updN _ _ q]; exact a9 i hi
  · obtain ⟨b1, b2, b3, b4⟩ := g4
    refine ⟨rfl, b2, fun i hi => ?_, b4⟩
    show upd (zA X 29) (pl - 1) _ i = upd (zA M 30) (pl - 1) _ i
    by_cases q : i = pl - 1
    · rw [q, updS, updS]
    · rw [updN _ _ q, updN _ _ q]; exact b3 i hi
  · intro j hj i h1 h2
    have hle := (g3.hile hj).2
    obtain ⟨a, b⟩ := g5 j hj i h1 h2
    have hi1 : i ≠ pl - 1 := by omega
    rw [e1 i hi1]
    refine ⟨a, ?_⟩
    have b' : chn (wA M 30 (pl - 1) (zA M 25 (en M (pl - 1)))) (fs M (en M i)) (en M (i + 1)) := chn_frame (M := M) (M' := wA M 30 (pl - 1) (zA M 25 (en M (pl - 1)))) (fun n hn => ⟨hn, rfl⟩) b
    by_cases q : i + 1 = pl - 1
    · rw [q, e2]
      rw [q] at b'
      exact chn_ext b' h6
    · rw [e1 _ q]; exact b'
  · intro j hj
    obtain ⟨p, k, a1, a2, a3, a4, a5, a6, a7, a8⟩ := g6 j hj
    have hb := g3.bslt hj
    have hlt := g3.2.2.2.2.2.2.1 j hj
    have hml := mny_le p a3 a4
    have n1 : bs (j + 1) - 1 ≠ pl - 1 := by omega
    have n2 : bs (j + 1) - 1 - k ≠ pl - 1 := by omega
    refine ⟨p, k, ?_, ?_, a3, a4, a5, a6, a7, ?_⟩
    · rw [e1 _ n1]; exact a1
    · rw [e1 _ n1]; exact a2
    · rw [e1 _ n2]
      have b' : chn (wA M 30 (pl - 1) (zA M 25 (en M (pl - 1)))) (sn M (en M (bs (j + 1) - 1 - k))) (en M (bs (j + 1))) := chn_frame (M := M) (M' := wA M 30 (pl - 1) (zA M 25 (en M (pl - 1)))) (fun n hn => ⟨hn, rfl⟩) a8
      by_cases q : bs (j + 1) = pl - 1
      · rw [q, e2]
        rw [q] at b'
        exact chn_ext b' h6
      · rw [e1 _ q]; exact b'
theorem RK_unwind {nd : Nat} {X M : zSt} {l pl sk : Nat} {bs : Nat → Nat} (H : RK nd X M l pl sk bs) (h1 : zA M 24 (en M (pl - 1)) = nI 1) (hpl : pl < 600) :
    RK nd (wI (wA X 29 pl (zA M 25 (en M (pl - 1)))) 19 (nI (pl + 1))) (wI (wA M 30 pl (zA M 25 (en M (pl - 1)))) 18 (nI (pl + 1))) l (pl + 1) sk bs := by
  obtain ⟨g1, g2, g3, g4, g5, g6, g7, g8⟩ := H
  have hskl := g3.skle
  have hsk := g3.2.2.1
  have hbl := g3.2.2.2.2.2.2.2.1
  have ht := g3.ent (i := pl - 1) (by omega)
  have hv := (g2.p1 ht.1 h1).1
  have e1 : ∀ i, i ≠ pl → en (wI (wA M 30 pl (zA M 25 (en M (pl - 1)))) 18 (nI (pl + 1))) i = en M i := fun i hi => by
    show en (wA M 30 pl (zA M 25 (en M (pl - 1)))) i = _
    rw [en_upd, if_neg hi]
  have e2 : en (wI (wA M 30 pl (zA M 25 (en M (pl - 1)))) 18 (nI (pl + 1))) pl = fs M (en M (pl - 1)) := by
    show en (wA M 30 pl (zA M 25 (en M (pl - 1)))) pl = _
    rw [en_upd, if_pos rfl]
  have cf : ∀ a b, chn M a b → chn (wI (wA M 30 pl (zA M 25 (en M (pl - 1)))) 18 (nI (pl + 1))) a b := fun a b h => chn_frame (M := M) (M' := wI (wA M 30 pl (zA M 25 (en M (pl - 1)))) 18 (nI (pl + 1))) (fun n hn => ⟨hn, rfl⟩) h
  refine ⟨g1, g2, ?_, ?_, ?_, ?_, g7, g8⟩
  · obtain ⟨a1, a2, a3, a4, a5, a6, a7, a8, a9⟩ := g3
    refine ⟨rfl, a2, a3, by omega, a5, a6, a7, by omega, fun i hi => ?_⟩
    show lvn M (upd (zA M 30) pl (zA M 25 (en M (pl - 1))) i)
    by_cases q : i = pl
    · rw [q, updS]; exact hv
    · rw [updN _ _ q]; exact a9 i (by omega)
  · obtain ⟨b1, b2, b3, b4⟩ := g4
    refine ⟨rfl, b2, fun i hi => ?_, b4⟩
    show upd (zA X 29) pl _ i = upd (zA M 30) pl _ i
    by_cases q : i = pl
    · rw [q, updS, updS]
    · rw [updN _ _ q, updN _ _ q]; exact b3 i (by omega)
  · intro j hj i q1 q2
    by_cases q : i = pl - 1
    · subst q
      rw [e1 _ (by omega)]
      refine ⟨h1, ?_⟩
      have : pl - 1 + 1 = pl := by omega
      rw [this, e2]
      exact chn_refl _ _
    · have q3 : i + 1 < hi pl sk bs j := by
        unfold hi at q2 ⊢
        by_cases z : j + 1 < sk
        · rw [if_pos z] at q2 ⊢; exact q2
        · rw [if_neg z] at q2 ⊢; omega
      have hle := (g3.hile hj).2
      obtain ⟨a, b⟩ := g5 j hj i q1 q3
      rw [e1 _ (by omega), e1 _ (by omega)]
      exact ⟨a, cf _ _ b⟩
  · intro j hj
    obtain ⟨p, k, a1, a2, a3, a4, a5, a6, a7, a8⟩ := g6 j hj
    have hb := g3.bslt hj
    refine ⟨p, k, ?_, ?_, a3, a4, a5, a6, a7, ?_⟩
    · rw [e1 _ (by omega)]; exact a1
    · rw [e1 _ (by omega)]; exact a2
    · rw [e1 _ (by omega), e1 _ (by omega)]; exact cf _ _ a8
theorem RK_need {nd : Nat} {X M : zSt} {l pl sk p k r : Nat} {bs : Nat → Nat} (H : RK nd X M l pl sk bs) (hpl : pl < 600) (k3 : zA M 24 (en M (pl - 1)) = nI 3) (kp : zA M 25 (en M (pl - 1)) = nI p) (hp : p < 13) (hp8 : p ≠ 8) (hw : wnt p < pl - bs (sk - 1)) (hk1 : 1 ≤ k) (hk2 : k ≤ mny p) (hf : fol M (tn M pl k) = some r) :
    RK nd (wI (wA (wA (wI X 20 (nI sk)) 30 sk (nI pl)) 29 pl (nI r)) 19 (nI (pl + 1))) (wI (wA (wI (wA M 31 sk (nI pl)) 19 (nI (sk + 1))) 30 pl (nI r)) 18 (nI (pl + 1))) l (pl + 1) (sk + 1) (fun i => if i = sk then pl else bs i) := by
  obtain ⟨g1, g2, g3, g4, g5, g6, g7, g8⟩ := H
  have hskl := g3.skle
  have hsk := g3.2.2.1
  have hbl := g3.2.2.2.2.2.2.2.1
  have hml := mny_le p hp hp8
  have hcur : hi pl sk bs (sk - 1) = pl := by unfold hi; rw [if_neg (by omega)]
  have hA := (g5 (sk - 1) (by omega) (pl - 1 - k) (by omega) (by rw [hcur]; omega)).1
  have hke := g3.ent (i := pl - 1 - k) (by omega)
  have hks := (g2.p1 hke.1 hA).2.lt
  have hr := fol_live g2 hks.1 hks.2.2 hf
  obtain ⟨hch, h6⟩ := chn_fol hf
  generalize hM' : (wI (wA (wI (wA M 31 sk (nI pl)) 19 (nI (sk + 1))) 30 pl (nI r)) 18 (nI (pl + 1))) = M'
  have z24 : zA M' 24 = zA M 24 := by rw [← hM']; rfl
  have z25 : zA M' 25 = zA M 25 := by rw [← hM']; rfl
  have z26 : zA M' 26 = zA M 26 := by rw [← hM']; rfl
  have z27 : zA M' 27 = zA M 27 := by rw [← hM']; rfl
  have z30 : zA M' 30 = upd (zA M 30) pl (nI r) := by rw [← hM']; rfl
  have z31 : zA M' 31 = upd (zA M 31) sk (nI pl) := by rw [← hM']; rfl
  have z28 : zA M' 28 = zA M 28 := by rw [← hM']; rfl
  have z29 : zA M' 29 = zA M 29 := by rw [← hM']; rfl
  have i18 : zI M' 18 = nI (pl + 1) := by rw [← hM']; rfl
  have i19 : zI M' 19 = nI (sk + 1) := by rw [← hM']; rfl
  have i15 : zI M' 15 = zI M 15 := by rw [← hM']; rfl
  have i16 : zI M' 16 = zI M 16 := by rw [← hM']; rfl
  have i17 : zI M' 17 = zI M 17 := by rw [← hM']; rfl
  have e1 : ∀ i, i ≠ pl → en M' i = en M i := fun i hi => by show (zA M' 30 i).toNatClampNeg = _; rw [z30, updN _ _ hi]
  have e2 : en M' pl = r := by show (zA M' 30 pl).toNatClampNeg = _; rw [z30, updS, ncl (by omega)]
  have cf : ∀ a b, chn M a b → chn M' a b := fun a b h => chn_frame (M := M) (fun n hn => ⟨by rw [z24]; exact hn, by rw [z25]⟩) h
  have lv : ∀ v, lvn M v → lvn M' v := fun v hv => lvn_mono (M := M) (fun n _ hn => by rw [z24]; exact hn) hv
  refine ⟨?_, ?_, ?_, ?_, ?_, ?_, ?_, ?_⟩
  · obtain ⟨a1, a2, a3, a4, a5, a6, a7, a8⟩ := g1
    refine ⟨fun n hn => ?_, fun n hn => by rw [z24]; exact a2 n hn, a3, by rw [i15]; exact a4, by rw [z24]; exact a5, by rw [i17]; exact a6, by rw [i16]; exact a7, ?_⟩
    · rw [z24, z25, z26, z27]; exact a1 n hn
    · obtain ⟨s, s1, s2, s3⟩ := a8
      exact ⟨s, s1, s2, fun i hi => by rw [z24]; exact s3 i hi⟩
  · intro n hn h7
    rw [z24] at h7
    exact Wn_mono (M := M) (fun n _ hn => by rw [z24]; exact hn) (by rw [z24]) (by rw [z25]) (by rw [z26]) (g2 n hn h7)
  · obtain ⟨a1, a2, a3, a4, a5, a6, a7, a8, a9⟩ := g3
    refine ⟨i18, i19, by omega, by omega, ?_, fun i hi => ?_, fun i hi => ?_, ?_, fun i hi => ?_⟩
    · show (if 0 = sk then pl else bs 0) = 0
      rw [if_neg (by omega)]; exact a5
    · show zA M' 31 i = nI (if i = sk then pl else bs i)
      rw [z31]
      by_cases q : i = sk
      · rw [q, updS, if_pos rfl]
      · rw [updN _ _ q, if_neg q]; exact a6 i (by omega)
    · show (if i = sk then pl else bs i) < (if i + 1 = sk then pl else bs (i + 1))
      rw [if_neg (by omega)]
      by_cases q : i + 1 = sk
      · rw [if_pos q]
        have : i = sk - 1 := by omega
        rw [this]; exact a8
      · rw [if_neg q]; exact a7 i (by omega)
    · show (if sk + 1 - 1 = sk then pl else _) < pl + 1
      rw [if_pos (by omega)]; omega
    · rw [z30]
      by_cases q : i = pl
      · rw [q, updS]; exact ⟨r, hr.1, rfl, by rw [z24]; exact hr.2.1⟩
      · rw [updN _ _ q]; exact lv _ (a9 i (by omega))
  · obtain ⟨b1, b2, b3, b4⟩ := g4
    refine ⟨rfl, ?_, fun i hi => ?_, fun i hi => ?_⟩
    · show nI sk = nI (sk + 1 - 1)
      rfl
    · show upd (zA X 29) pl (nI r) i = zA M' 30 i
      rw [z30]
      by_cases q : i = pl
      · rw [q, updS, updS]
      · rw [updN _ _ q, updN _ _ q]; exact b3 i (by omega)
    · show upd (zA X 30) sk (nI pl) i = zA M' 31 i
      rw [z31]
      by_cases q : i = sk
      · rw [q, updS, updS]
      · rw [updN _ _ q, updN _ _ q]; exact b4 i (by omega)
  · intro j hj i q1 q2
    have hj2 : j < sk := by
      rcases Nat.lt_or_ge j sk with z | z
      · exact z
      · have : j = sk := by omega
        subst this
        unfold hi at q2
        rw [if_neg (by omega)] at q2
        have q1 : (if j = j then pl else bs j) ≤ i := q1
        rw [if_pos rfl] at q1
        omega
    have q1 : bs j ≤ i := by
      have q1 : (if j = sk then pl else bs j) ≤ i := q1
      rw [if_neg (by omega)] at q1; exact q1
    have q3 : i + 1 < hi pl sk bs j := by
      unfold hi at q2 ⊢
      rw [if_pos (by omega)] at q2
      have q2 : i + 1 < (if j + 1 = sk then pl else bs (j + 1)) := q2
      by_cases z : j + 1 < sk
      · rw [if_pos z]; rw [if_neg (by omega)] at q2; exact q2
      · rw [if_neg z]; rw [if_pos (by omega)] at q2; exact q2
    have hle := (g3.hile hj2).2
    obtain ⟨a, b⟩ := g5 j hj2 i q1 q3
    rw [e1 _ (by omega), e1 _ (by omega), z24]
    refine ⟨a, ?_⟩
    have ef : fs M' (en M i) = fs M (en M i) := by show (zA M' 25 _).toNatClampNeg = _; rw [z25]
    rw [ef]; exact cf _ _ b
  · intro j hj
    show ∃ p k, zA M' 24 (en M' ((if j + 1 = sk then pl else bs (j + 1)) - 1)) = nI 3 ∧ zA M' 25 (en M' ((if j + 1 = sk then pl else bs (j + 1)) - 1)) = nI p ∧ p < 13 ∧ p ≠ 8 ∧ wnt p < (if j + 1 = sk then pl else bs (j + 1)) - (if j = sk then pl else bs j) ∧ 1 ≤ k ∧ k ≤ mny p ∧ chn M' (sn M' (en M' ((if j + 1 = sk then pl else bs (j + 1)) - 1 - k))) (en M' (if j + 1 = sk then pl else bs (j + 1)))
    rw [if_neg (show ¬ j = sk by omega)]
    by_cases q : j + 1 = sk
    · rw [if_pos q]
      have hj' : j = sk - 1 := by omega
      refine ⟨p, k, by rw [e1 _ (by omega), z24]; exact k3, by rw [e1 _ (by omega), z25]; exact kp, hp, hp8, by rw [hj']; exact hw, hk1, hk2, ?_⟩
      rw [e1 _ (show pl - 1 - k ≠ pl by omega), e2]
      have ef : sn M' (en M (pl - 1 - k)) = tn M pl k := by show (zA M' 26 _).toNatClampNeg = _; rw [z26]
      rw [ef]; exact cf _ _ hch
    · rw [if_neg q]
      obtain ⟨p, k, a1, a2, a3, a4, a5, a6, a7, a8⟩ := g6 j (by omega)
      have hb := g3.bslt (i := j + 1) (by omega)
      refine ⟨p, k, by rw [e1 _ (by omega), z24]; exact a1, by rw [e1 _ (by omega), z25]; exact a2, a3, a4, a5, a6, a7, ?_⟩
      rw [e1 _ (show bs (j + 1) - 1 - k ≠ pl by omega), e1 _ (show bs (j + 1) ≠ pl by omega)]
      have ef : sn M' (en M (bs (j + 1) - 1 - k)) = sn M (en M (bs (j + 1) - 1 - k)) := by show (zA M' 26 _).toNatClampNeg = _; rw [z26]
      rw [ef]; exact cf _ _ a8
  · intro d hd; rw [z24]; exact g7 d hd
  · intro d hd; rw [z28, z29]; exact g8 d hd
theorem RK_back {nd : Nat} {X M : zSt} {l pl sk : Nat} {bs : Nat → Nat} (H : RK nd X M l pl sk bs) (hsk : 1 < sk) :
    RK nd (wI (wI X 19 (nI (bs (sk - 1)))) 20 (nI (sk - 1 - 1))) (wI (wI M 19 (nI (sk - 1))) 18 (nI (bs (sk - 1)))) l (bs (sk - 1)) (sk - 1) bs := by
  obtain ⟨g1, g2, g3, g4, g5, g6, g7, g8⟩ := H
  have hskl := g3.skle
  have hbl := g3.2.2.2.2.2.2.2.1
  have hpl := g3.2.2.2.1
  have hhi : ∀ j, j < sk - 1 → hi (bs (sk - 1)) (sk - 1) bs j = hi pl sk bs j := by
    intro j hj
    unfold hi
    rw [if_pos (show j + 1 < sk by omega)]
    by_cases q : j + 1 < sk - 1
    · rw [if_pos q]
    · rw [if_neg q]
      have : j + 1 = sk - 1 := by omega
      rw [this]
  refine ⟨g1, g2, ?_, ?_, ?_, ?_, g7, g8⟩
  · obtain ⟨a1, a2, a3, a4, a5, a6, a7, a8, a9⟩ := g3
    refine ⟨rfl, rfl, by omega, by omega, a5, fun i hi => a6 i (by omega), fun i hi => a7 i (by omega), ?_, fun i hi => a9 i (by omega)⟩
    have := a7 (sk - 1 - 1) (by omega)
    have e : sk - 1 - 1 + 1 = sk - 1 := by omega
    rw [e] at this; exact this
  · obtain ⟨b1, b2, b3, b4⟩ := g4
    exact ⟨rfl, rfl, fun i hi => b3 i (by omega), fun i hi => b4 i (by omega)⟩
  · intro j hj i q1 q2
    rw [hhi j hj] at q2
    obtain ⟨a, b⟩ := g5 j (by omega) i q1 q2
    exact ⟨a, chn_frame (M := M) (M' := wI (wI M 19 (nI (sk - 1))) 18 (nI (bs (sk - 1)))) (fun n hn => ⟨hn, rfl⟩) b⟩
  · intro j hj
    obtain ⟨p, k, a1, a2, a3, a4, a5, a6, a7, a8⟩ := g6 j (by omega)
    exact ⟨p, k, a1, a2, a3, a4, a5, a6, a7, chn_frame (M := M) (M' := wI (wI M 19 (nI (sk - 1))) 18 (nI (bs (sk - 1)))) (fun n hn => ⟨hn, rfl⟩) a8⟩
