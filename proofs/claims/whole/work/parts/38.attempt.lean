/-- both programs are the same -/
def PRG (nd : Nat) (X M : zSt) : Prop :=
  0 < nd ∧ Pp nd X M ∧ zI X 6 = nI nd ∧ zI M 8 = nI nd ∧ (∀ d, d < nd → zB X 12 d = zB M 3 d) ∧ (∃ m, m < nd ∧ zB M 3 m = 1835100526 ∧ zA M 4 m = nI 0 ∧ ∀ d, d < nd → zB M 3 d = 1835100526 → d = m)
  ∧ ∀ d, d < nd → ∃ (pd ns b e : Nat) (hg rm : Nat → Nat) (enc : Nat → List Nat) (lev : Nat → Nat), zA M 4 d = nI pd ∧ pd ≤ 8 ∧ zA X 14 d = nI b ∧ zA X 15 d = nI e ∧ zA X 16 d = nI (rm b) ∧ zA M 6 d = nI b ∧ zA M 7 d = nI e ∧ zA M 8 d = nI (rm b) ∧ COK nd pd ns X M b e hg rm enc lev
/-- all that an attempt may write -/
def aX (X X' : zSt) : Prop := (∀ k, k ∉ [25, 26, 27, 28, 29, 30, 31, 32, 33, 34, 35] → zA X' k = zA X k) ∧ (∀ k, k ∉ [14, 15, 16, 17, 18, 19, 20, 21, 22, 23, 24, 25, 26] → zI X' k = zI X k) ∧ (∀ k, zL X' k = zL X k) ∧ ∀ k, zB X' k = zB X k
def aM (M M' : zSt) : Prop := (∀ k, k ∉ [24, 25, 26, 27, 28, 29, 30, 31, 33, 34] → zA M' k = zA M k) ∧ (∀ k, k ∉ [15, 16, 17, 18, 19, 20, 21, 22, 26, 27] → zI M' k = zI M k) ∧ (∀ k, zL M' k = zL M k) ∧ ∀ k, zB M' k = zB M k
theorem PRG_c {nd : Nat} {X M X' M' : zSt} (hX : ∀ k, k ∈ [13, 14, 15, 16, 17, 18, 19] → zA X' k = zA X k) (hX6 : zI X' 6 = zI X 6) (hXB : zB X' 12 = zB X 12) (hM : ∀ k, k ∈ [4, 6, 7, 8, 9, 10, 22] → zA M' k = zA M k) (hM8 : zI M' 8 = zI M 8) (hM11 : zI M' 11 = zI M 11) (hMB : zB M' 3 = zB M 3) (h : PRG nd X M) : PRG nd X' M' := by
  obtain ⟨h1, h2, h3, h4, h5, h6, h7⟩ := h
  refine ⟨h1, ⟨h2.1, fun d hd => by rw [hX 13 (by decide), hM 4 (by decide)]; exact h2.2 d hd⟩, by rw [hX6]; exact h3, by rw [hM8]; exact h4, fun d hd => by rw [hXB, hMB]; exact h5 d hd, by rw [hMB, hM 4 (by decide)]; exact h6, fun d hd => ?_⟩
  obtain ⟨pd, ns, b, e, hg, rm, enc, lev, a1, a2, a3, a4, a5, a6, a7, a8, a9⟩ := h7 d hd
  refine ⟨pd, ns, b, e, hg, rm, enc, lev, ?_⟩
  rw [hX 14 (by decide), hX 15 (by decide), hX 16 (by decide), hM 4 (by decide), hM 6 (by decide), hM 7 (by decide), hM 8 (by decide)]
  exact ⟨a1, a2, a3, a4, a5, a6, a7, a8, COK_c (hX 17 (by decide)) (hX 18 (by decide)) (hX 19 (by decide)) (hM 9 (by decide)) (hM 10 (by decide)) (hM 22 (by decide)) hM11 a9⟩
theorem PRG_a {nd : Nat} {X M X' M' : zSt} (hX : aX X X') (hM : aM M M') (h : PRG nd X M) : PRG nd X' M' := by
  refine PRG_c (fun k hk => hX.1 k ?_) (hX.2.1 6 (by decide)) (hX.2.2.2 12) (fun k hk => hM.1 k ?_) (hM.2.1 8 (by decide)) (hM.2.1 11 (by decide)) (hM.2.2.2 3) h
  · simp only [List.mem_cons, List.not_mem_nil, or_false] at hk ⊢; omega
  · simp only [List.mem_cons, List.not_mem_nil, or_false] at hk ⊢; omega
theorem aX_refl (X : zSt) : aX X X := ⟨fun _ _ => rfl, fun _ _ => rfl, fun _ => rfl, fun _ => rfl⟩
theorem aM_refl (M : zSt) : aM M M := ⟨fun _ _ => rfl, fun _ _ => rfl, fun _ => rfl, fun _ => rfl⟩
theorem aX_trans {X Y Z : zSt} (h1 : aX X Y) (h2 : aX Y Z) : aX X Z := ⟨fun k hk => (h2.1 k hk).trans (h1.1 k hk), fun k hk => (h2.2.1 k hk).trans (h1.2.1 k hk), fun k => (h2.2.2.1 k).trans (h1.2.2.1 k), fun k => (h2.2.2.2 k).trans (h1.2.2.2 k)⟩
theorem aM_trans {X Y Z : zSt} (h1 : aM X Y) (h2 : aM Y Z) : aM X Z := ⟨fun k hk => (h2.1 k hk).trans (h1.1 k hk), fun k hk => (h2.2.1 k hk).trans (h1.2.1 k hk), fun k => (h2.2.2.1 k).trans (h1.2.2.1 k), fun k => (h2.2.2.2 k).trans (h1.2.2.2 k)⟩
theorem aX_fr {X X' : zSt} (h : frX X X') : aX X X' := ⟨h.1, fun k hk => h.2.1 k (fun z => hk (by simp only [List.mem_cons, List.not_mem_nil, or_false] at z ⊢; omega)), h.2.2.1, h.2.2.2⟩
theorem aM_fr {M M' : zSt} (h : frM M M') : aM M M' := ⟨h.1, fun k hk => h.2.1 k (fun z => hk (by simp only [List.mem_cons, List.not_mem_nil, or_false] at z ⊢; omega)), h.2.2.1, h.2.2.2⟩
theorem aX_I (X : zSt) {k : Nat} (v : Int32) (hk : k ∈ [14, 15, 16, 17, 18, 19, 20, 21, 22, 23, 24, 25, 26]) : aX X (wI X k v) := by
  refine ⟨fun _ _ => rfl, fun j hj => ?_, fun _ => rfl, fun _ => rfl⟩
  have : j ≠ k := fun z => hj (by rw [z]; exact hk)
  simp only [zs, this, if_false]
theorem aM_I (M : zSt) {k : Nat} (v : Int32) (hk : k ∈ [15, 16, 17, 18, 19, 20, 21, 22, 26, 27]) : aM M (wI M k v) := by
  refine ⟨fun _ _ => rfl, fun j hj => ?_, fun _ => rfl, fun _ => rfl⟩
  have : j ≠ k := fun z => hj (by rw [z]; exact hk)
  simp only [zs, this, if_false]
theorem aX_L (X : zSt) (e n f s : Int32) : aX X (xL X e n f s) := aX_trans (aX_trans (aX_trans (aX_I X e (by decide)) (aX_I _ n (by decide))) (aX_I _ f (by decide))) (aX_I _ s (by decide))
theorem aM_L (M : zSt) (n e : Int32) : aM M (mL M n e) := aM_trans (aM_I M n (by decide)) (aM_I _ e (by decide))
theorem frX_A (X : zSt) {k : Nat} (i : Nat) (v : Int32) (hk : k ∈ [25, 26, 27, 28, 29, 30, 31, 32, 33, 34, 35]) : frX X (wA X k i v) := by
  refine ⟨fun j hj => ?_, fun _ _ => rfl, fun _ => rfl, fun _ => rfl⟩
  have : j ≠ k := fun z => hj (by rw [z]; exact hk)
  simp only [zs, this, if_false]
theorem frM_A (M : zSt) {k : Nat} (i : Nat) (v : Int32) (hk : k ∈ [24, 25, 26, 27, 28, 29, 30, 31, 33, 34]) : frM M (wA M k i v) := by
  refine ⟨fun j hj => ?_, fun _ _ => rfl, fun _ => rfl, fun _ => rfl⟩
  have : j ≠ k := fun z => hj (by rw [z]; exact hk)
  simp only [zs, this, if_false]
theorem frX_I (X : zSt) {k : Nat} (v : Int32) (hk : k ∈ [14, 15, 16, 17, 18, 19, 20, 26]) : frX X (wI X k v) := by
  refine ⟨fun _ _ => rfl, fun j hj => ?_, fun _ => rfl, fun _ => rfl⟩
  have : j ≠ k := fun z => hj (by rw [z]; exact hk)
  simp only [zs, this, if_false]
theorem frM_I (M : zSt) {k : Nat} (v : Int32) (hk : k ∈ [15, 16, 17, 18, 19]) : frM M (wI M k v) := by
  refine ⟨fun _ _ => rfl, fun j hj => ?_, fun _ => rfl, fun _ => rfl⟩
  have : j ≠ k := fun z => hj (by rw [z]; exact hk)
  simp only [zs, this, if_false]
theorem frX_trans {X Y Z : zSt} (h1 : frX X Y) (h2 : frX Y Z) : frX X Z := ⟨fun k hk => (h2.1 k hk).trans (h1.1 k hk), fun k hk => (h2.2.1 k hk).trans (h1.2.1 k hk), fun k => (h2.2.2.1 k).trans (h1.2.2.1 k), fun k => (h2.2.2.2 k).trans (h1.2.2.2 k)⟩
theorem frM_trans {X Y Z : zSt} (h1 : frM X Y) (h2 : frM Y Z) : frM X Z := ⟨fun k hk => (h2.1 k hk).trans (h1.1 k hk), fun k hk => (h2.2.1 k hk).trans (h1.2.1 k hk), fun k => (h2.2.2.1 k).trans (h1.2.2.1 k), fun k => (h2.2.2.2 k).trans (h1.2.2.2 k)⟩
/-- the fields that the cores don't speak of -/
theorem RK_I {nd : Nat} {X M : zSt} {l pl sk : Nat} {bs : Nat → Nat} {k j : Nat} {v w : Int32} (hk : k ∉ [14, 15, 16, 17, 19, 20]) (hj : j ∉ [15, 16, 17, 18, 19]) (H : RK nd X M l pl sk bs) : RK nd (wI X k v) (wI M j w) l pl sk bs := by
  obtain ⟨g1, g2, g3, g4, g5, g6, g7, g8⟩ := H
  have eX : ∀ i, i ∈ [14, 15, 16, 17, 19, 20] → zI (wI X k v) i = zI X i := fun i hi => by
    have : i ≠ k := fun z => hk (by rw [← z]; exact hi)
    simp only [zs, this, if_false]
  have eM : ∀ i, i ∈ [15, 16, 17, 18, 19] → zI (wI M j w) i = zI M i := fun i hi => by
    have : i ≠ j := fun z => hj (by rw [← z]; exact hi)
    simp only [zs, this, if_false]
  refine ⟨?_, g2, ?_, ?_, ?_, ?_, g7, g8⟩
  · obtain ⟨a1, a2, a3, a4, a5, a6, a7, s, s1, s2, s3⟩ := g1
    exact ⟨a1, a2, by rw [eX 14 (by decide)]; exact a3, by rw [eM 15 (by decide)]; exact a4, a5, by rw [eX 15 (by decide), eM 17 (by decide)]; exact a6, by rw [eX 16 (by decide), eM 16 (by decide)]; exact a7, s, s1, by rw [eX 17 (by decide)]; exact s2, s3⟩
  · obtain ⟨a1, a2, a3, a4, a5, a6, a7, a8, a9⟩ := g3
    exact ⟨by rw [eM 18 (by decide)]; exact a1, by rw [eM 19 (by decide)]; exact a2, a3, a4, a5, a6, a7, a8, a9⟩
  · obtain ⟨b1, b2, b3, b4⟩ := g4
    exact ⟨by rw [eX 19 (by decide)]; exact b1, by rw [eX 20 (by decide)]; exact b2, b3, b4⟩
  · intro a ha i h1 h2
    obtain ⟨x, y⟩ := g5 a ha i h1 h2
    exact ⟨x, chn_frame (M := M) (M' := wI M j w) (fun n hn => ⟨hn, rfl⟩) y⟩
  · intro a ha
    obtain ⟨p, q, a1, a2, a3, a4, a5, a6, a7, a8⟩ := g6 a ha
    exact ⟨p, q, a1, a2, a3, a4, a5, a6, a7, chn_frame (M := M) (M' := wI M j w) (fun n hn => ⟨hn, rfl⟩) a8⟩
theorem RK_L {nd : Nat} {X M : zSt} {l pl sk : Nat} {bs : Nat → Nat} (e n f s nM eM : Int32) (H : RK nd X M l pl sk bs) : RK nd (xL X e n f s) (mL M nM eM) l pl sk bs := by
  have h1 := RK_I (k := 22) (j := 26) (v := e) (w := nM) (by decide) (by decide) H
  have h2 := RK_I (k := 23) (j := 27) (v := n) (w := eM) (by decide) (by decide) h1
  have h3 := RK_I (k := 24) (j := 27) (v := f) (w := eM) (by decide) (by decide) h2
  have h4 := RK_I (k := 25) (j := 27) (v := s) (w := eM) (by decide) (by decide) h3
  rw [wI_wI, wI_wI] at h4
  exact h4
