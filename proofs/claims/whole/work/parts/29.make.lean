theorem upd_id (f : Nat → Int32) (i : Nat) : upd f i (f i) = f := by
  funext j
  rw [upd_ite]
  split
  · rename_i h; rw [h]
  · rfl
theorem wA_id (S : zSt) (k i : Nat) : wA S k i (zA S k i) = S := by
  unfold wA zA
  refine Prod.ext rfl (Prod.ext rfl (Prod.ext ?_ rfl))
  funext j
  show (if j = k then upd (S.2.2.1 k) i (S.2.2.1 k i) else S.2.2.1 j) = S.2.2.1 j
  split
  · rename_i h; rw [h, upd_id]
  · rfl
theorem wA_comm (S : zSt) {k j : Nat} (i i' : Nat) (a b : Int32) (h : k ≠ j) : wA (wA S k i a) j i' b = wA (wA S j i' b) k i a := by
  unfold wA
  refine Prod.ext rfl (Prod.ext rfl (Prod.ext ?_ rfl))
  funext z
  show (if z = j then upd (if j = k then upd (S.2.2.1 k) i a else S.2.2.1 j) i' b else if z = k then upd (S.2.2.1 k) i a else S.2.2.1 z) = (if z = k then upd (if k = j then upd (S.2.2.1 j) i' b else S.2.2.1 k) i a else if z = j then upd (S.2.2.1 j) i' b else S.2.2.1 z)
  rw [if_neg (Ne.symm h), if_neg h]
  by_cases h1 : z = j
  · by_cases h2 : z = k
    · exact absurd (h2.symm.trans h1) h
    · rw [if_pos h1, if_neg h2, if_pos h1]
  · rw [if_neg h1, if_neg h1]
/-- a POINTER that is new here gets its node -/
theorem MK_first {nd d : Nat} {X0 M0 X M : zSt} {l0 h l q : Nat} {A : Nat → Nat → Prop} (H : MK nd d X0 M0 l0 X M h l A) (hq : q < 400) (h6 : zA M 24 q = nI 6) (h3 : zA M 26 q = -3) (hn : zA M0 24 q = nI 7) {v : Int32} (hv : lvn M v) :
    MK nd d X0 M0 l0 (wA (wA (wA X 25 q (nI 6)) 26 q v) 27 q (-3)) (wA M 25 q v) h l A := by
  obtain ⟨g1, g2, g3, g4, g5, g6, g7, g8, g9, g10, g11, g12, g13, g14⟩ := H
  have hl7 : zA M 24 q ≠ nI 7 := by rw [h6]; decide
  have e : wA (wA (wA M 24 q (nI 6)) 25 q v) 26 q (-3) = wA M 25 q v := by
    rw [← h6, wA_id, ← h3]
    exact wA_id (wA M 25 q v) 26 q
  have hG := become_sim (X := X) g1 hq hl7 (k := 6) (by omega) v (-3)
  rw [e] at hG
  refine ⟨hG, ?_, g3, g4, g5, g6, ?_, ?_, ?_, g10, g11, g12, g13, g14⟩
  · intro n hn' hn7
    by_cases z : n = q
    · subst z
      refine Or.inr (Or.inr (Or.inr (Or.inr (Or.inr (Or.inr ⟨h6, ?_⟩)))))
      show lvn M (upd (zA M 25) n v n)
      rw [updS]; exact hv
    · exact Wn_mono (M := M) (fun _ _ x => x) rfl (by show upd (zA M 25) q v n = _; rw [updN _ _ z]) rfl (g2 n hn' hn7)
  · intro n hn' hn7
    have z : n ≠ q := fun z => hn7 (by rw [z]; exact hn)
    have := g7 n hn' hn7
    refine ⟨this.1, ?_, this.2.2.1, this.2.2.2⟩
    show upd (zA M 25) q v n = _
    rw [updN _ _ z]; exact this.2.1
  · refine ⟨fun j hj => ?_, g8.2.1, g8.2.2.1, g8.2.2.2⟩
    rw [← g8.1 j hj]
    simp only [List.mem_cons, not_or] at hj
    simp only [zs, hj, if_false]
  · refine ⟨fun j hj => ?_, g9.2.1, g9.2.2.1, g9.2.2.2⟩
    rw [← g9.1 j hj]
    simp only [List.mem_cons, not_or] at hj
    simp only [zs, hj, if_false]
/-- a slot gets its POINTER -/
theorem MK_slot {nd d : Nat} {X0 M0 X M : zSt} {l0 h l q x s : Nat} {A A' : Nat → Nat → Prop} (H : MK nd d X0 M0 l0 X M h l A) (hq : q < 400) (h6 : zA M 24 q = nI 6) (h3 : zA M 26 q = -3) (hn : zA M0 24 q = nI 7) (hA : ∀ x' s', A' x' s' → (x' = x ∧ s' = s) ∨ (x' ≠ x ∧ s' ≠ s ∧ A x' s')) :
    MK nd d X0 M0 l0 (wA X 34 x (nI q)) (wA M 34 s (nI q)) h l A' := by
  obtain ⟨g1, g2, g3, g4, g5, g6, g7, g8, g9, g10, g11, g12, g13, g14⟩ := H
  refine ⟨g1, g2, g3, g4, g5, ?_, g7, ?_, ?_, g10, g11, g12, g13, g14⟩
  · intro x' s' hx
    show upd (zA X 34) x (nI q) x' = upd (zA M 34) s (nI q) s' ∧ ∃ z, z < 400 ∧ upd (zA M 34) s (nI q) s' = nI z ∧ zA M 24 z = nI 6 ∧ zA M 26 z = -3 ∧ zA M0 24 z = nI 7
    rcases hA x' s' hx with ⟨rfl, rfl⟩ | ⟨a, b, c⟩
    · rw [updS, updS]
      exact ⟨rfl, q, hq, rfl, h6, h3, hn⟩
    · rw [updN _ _ a, updN _ _ b]
      exact g6 x' s' c
  · refine ⟨fun j hj => ?_, g8.2.1, g8.2.2.1, g8.2.2.2⟩
    rw [← g8.1 j hj]
    simp only [List.mem_cons, not_or] at hj
    simp only [zs, hj, if_false]
  · refine ⟨fun j hj => ?_, g9.2.1, g9.2.2.1, g9.2.2.2⟩
    rw [← g9.1 j hj]
    simp only [List.mem_cons, not_or] at hj
    simp only [zs, hj, if_false]
theorem MK_sub {nd d : Nat} {X0 M0 X M : zSt} {l0 h l : Nat} {A A' : Nat → Nat → Prop} (H : MK nd d X0 M0 l0 X M h l A) (hA : ∀ x s, A' x s → A x s) : MK nd d X0 M0 l0 X M h l A' := by
  obtain ⟨g1, g2, g3, g4, g5, g6, g7⟩ := H
  exact ⟨g1, g2, g3, g4, g5, fun x s hx => g6 x s (hA x s hx), g7⟩
/-- ATOMS applied -/
theorem apply_loopQ {nd d : Nat} {X0 M0 : zSt} {l0 h n : Nat} {A : Nat → Nat → Prop} {fm0 : Nat} {x4 : Int32} (hd : d < 20) (hn : n ≤ h) (hh : h ≤ 130) :
    ∀ (c i l fx fm : Nat) (v : Int32) (X M : zSt), i + c = n → 1 ≤ i → l + c ≤ 400 → c < fx → c < fm → MK nd d X0 M0 l0 X M h l A → lvn M v →
      ∃ v' X' M', MK nd d X0 M0 l0 X' M' h (l + c) A ∧ lvn M' v' ∧ fX3_applyWaiting_33L fx (nI (h - n), v, nI (h - n + i), X) = fX3_applyWaiting_75 (nI (h - n)) v' X' ∧ ∀ x3 : Int32, fX10_build_236L (fX10_build_27L fm0) fm (nI d, nI (h - n), x3, x4, nI n, v, nI i, M) = fX10_build_27L fm0 (nI d, nI (h - n + 1), x3, x4 + nI 1, wA M' 33 (h - n) v') := by
  intro c
  induction c with
  | zero =>
    intro i l fx fm v X M hi h1 hl hfx hfm H hv
    obtain ⟨fx, rfl⟩ : ∃ n', fx = n' + 1 := ⟨fx - 1, by omega⟩
    obtain ⟨fm, rfl⟩ : ∃ n', fm = n' + 1 := ⟨fm - 1, by omega⟩
    refine ⟨v, X, M, H, hv, ?_, ?_⟩
    · show fX3_applyWaiting_33 (fX3_applyWaiting_33L fx) _ _ _ _ = _
      unfold fX3_applyWaiting_33
      rw [H.2.2.2.1, if_pos (qle (by omega))]
    · intro x3
      show fX10_build_236 (fX10_build_27L fm0) (fX10_build_236L (fX10_build_27L fm0) fm) _ _ _ _ _ _ _ _ = _
      unfold fX10_build_236
      rw [if_pos (qle (by omega)), zck_n (by omega) (by omega), ncl (by omega), nadd]
  | succ c ih =>
    intro i l fx fm v X M hi h1 hl hfx hfm H hv
    obtain ⟨fx, rfl⟩ : ∃ n', fx = n' + 1 := ⟨fx - 1, by omega⟩
    obtain ⟨fm, rfl⟩ : ∃ n', fm = n' + 1 := ⟨fm - 1, by omega⟩
    have hw := H.2.2.2.2.1 (h - n + i) (by omega)
    obtain ⟨q, q1, q2, q2', q3, q4, q5, q6⟩ := MK_add H hd (by omega) (k := 1) (a := v) (b := zA M 33 (h - n + i)) (Or.inr (Or.inl ⟨rfl, hv, hw.2⟩))
    obtain ⟨v', X', M', r1, r2, r3, r4⟩ := ih (i + 1) (l + 1) fx fm (nI q) _ _ (by omega) (by omega) (by omega) (by omega) (by omega) q5 q6
    refine ⟨v', X', M', ?_, r2, ?_, ?_⟩
    · have : l + 1 + c = l + (c + 1) := by omega
      rw [← this]; exact r1
    · show fX3_applyWaiting_33 (fX3_applyWaiting_33L fx) _ _ _ _ = _
      unfold fX3_applyWaiting_33
      rw [H.2.2.2.1, if_neg (nl (by omega)), if_neg (nl (by omega)), zld_n (by omega) (by omega), hw.1, q3, zbd_r, nadd]
      exact r3
    · intro x3
      show fX10_build_236 (fX10_build_27L fm0) (fX10_build_236L (fX10_build_27L fm0) fm) _ _ _ _ _ _ _ _ = _
      unfold fX10_build_236
      rw [if_neg (nl (by omega)), nadd, zld_n (by omega) (by omega), q4, zbd_r, nadd]
      exact r4 x3
/-- how many slots of a let lie below a slot -/
def rk (M : zSt) (l : Nat) : Nat → Nat
  | 0 => 0
  | s + 1 => rk M l s + (if zA M 22 s = nI l then 1 else 0)
theorem rk_mono (M : zSt) (l : Nat) : ∀ (d s : Nat), rk M l s ≤ rk M l (s + d) := by
  intro d
  induction d with
  | zero => intro s; exact Nat.le_refl _
  | succ d ih => intro s; have := ih s; show rk M l s ≤ rk M l (s + d) + _; omega
theorem rk_lt (M : zSt) (l : Nat) {s s' : Nat} (h : s < s') (hs : zA M 22 s = nI l) : rk M l s < rk M l s' := by
  have h1 := rk_mono M l (s' - (s + 1)) (s + 1)
  have e : s + 1 + (s' - (s + 1)) = s' := by omega
  rw [e] at h1
  have : rk M l (s + 1) = rk M l s + 1 := by show rk M l s + _ = _; rw [if_pos hs]
  omega
/-- a let's POINTERS -/
theorem let_loopQ {nd d : Nat} {X0 M0 : zSt} {l0 h ns lt f0 many : Nat} {A : Nat → Nat → Prop} {fm0 : Nat} {x4 : Int32} (hd : d < 20) (hns : ns ≤ 300) (hI : zI M0 11 = nI ns) (hlt : lt < 1000) (hmany : many = rk M0 lt ns) (hf0 : f0 + many ≤ 72) (hz : lvn M0 (nI 0))
    (hA : ∀ x s, A x s → zA M0 22 s ≠ nI lt ∧ (x < f0 ∨ f0 + many ≤ x)) :
    ∀ (c s l fx fm : Nat) (X M : zSt), s + c = ns → l + (many - rk M0 lt s) ≤ 400 → c < fx → c < fm → MK nd d X0 M0 l0 X M h l (fun x s' => (s' < s ∧ zA M0 22 s' = nI lt ∧ x = f0 + rk M0 lt s') ∨ A x s') →
      ∃ X' M', MK nd d X0 M0 l0 X' M' h (l + (many - rk M0 lt s)) (fun x s' => (s' < ns ∧ zA M0 22 s' = nI lt ∧ x = f0 + rk M0 lt s') ∨ A x s') ∧ fX3_addPointers_2L fx (nI f0, nI many, nI (rk M0 lt s), X) = some ((), X') ∧ ∀ x3 : Int32, fX10_build_285L (fX10_build_27L fm0) fm (nI d, nI h, x3, x4, nI lt, nI s, M) = fX10_build_27L fm0 (nI d, nI h, x3, x4 + nI 1, M') := by
  intro c
  induction c with
  | zero =>
    intro s l fx fm X M hs hl hfx hfm H
    obtain rfl : s = ns := by omega
    obtain ⟨fx, rfl⟩ : ∃ n', fx = n' + 1 := ⟨fx - 1, by omega⟩
    obtain ⟨fm, rfl⟩ : ∃ n', fm = n' + 1 := ⟨fm - 1, by omega⟩
    have e : l + (many - rk M0 lt s) = l := by omega
    refine ⟨X, M, by rw [e]; exact H, ?_, ?_⟩
    · show fX3_addPointers_2 (fX3_addPointers_2L fx) _ _ _ _ = _
      unfold fX3_addPointers_2
      rw [if_pos (qle (by omega))]
    · intro x3
      show fX10_build_285 (fX10_build_27L fm0) (fX10_build_285L (fX10_build_27L fm0) fm) _ _ _ _ _ _ _ = _
      unfold fX10_build_285
      have e2 : zI M 11 = nI s := by rw [H.2.2.2.2.2.2.2.2.1.2.1 11 (by decide)]; exact hI
      rw [e2, if_pos (qle (by omega))]
  | succ c ih =>
    intro s l fx fm X M hs hl hfx hfm H
    obtain ⟨fm, rfl⟩ : ∃ n', fm = n' + 1 := ⟨fm - 1, by omega⟩
    have e2 : zI M 11 = nI ns := by rw [H.2.2.2.2.2.2.2.2.1.2.1 11 (by decide)]; exact hI
    have e3 : zA M 22 = zA M0 22 := H.2.2.2.2.2.2.2.2.1.1 22 (by decide)
    by_cases hsl : zA M0 22 s = nI lt
    · have hrk := rk_lt M0 lt (s := s) (s' := ns) (by omega) hsl
      have hrk1 : rk M0 lt (s + 1) = rk M0 lt s + 1 := by show rk M0 lt s + _ = _; rw [if_pos hsl]
      obtain ⟨fx, rfl⟩ : ∃ n', fx = n' + 1 := ⟨fx - 1, by omega⟩
      have hz' : lvn M (nI 0) := by
        obtain ⟨z, z1, z2, z3⟩ := hz
        exact ⟨z, z1, z2, by rw [(H.2.2.2.2.2.2.1 z z1 z3).1]; exact z3⟩
      obtain ⟨q, q1, q2, q2', q3, q4, q5, q6⟩ := MK_add H hd (by omega) (k := 6) (a := nI 0) (b := -3) (Or.inr (Or.inr (Or.inr (Or.inr ⟨rfl, hz'⟩))))
      have k6 : zA (nMd M q (nI 6) (nI 0) (-3) d) 24 q = nI 6 := updS _ _ _
      have k3 : zA (nMd M q (nI 6) (nI 0) (-3) d) 26 q = -3 := updS _ _ _
      have r1 := MK_first q5 q1 k6 k3 q2' q6
      have r2 := MK_slot (x := f0 + rk M0 lt s) (s := s) (A' := fun x s' => (s' < s + 1 ∧ zA M0 22 s' = nI lt ∧ x = f0 + rk M0 lt s') ∨ A x s') r1 q1 k6 k3 q2' (by
        intro x' s' hx
        rcases hx with ⟨a, b, c'⟩ | hx
        · by_cases e : s' = s
          · subst e
            exact Or.inl ⟨c', rfl⟩
          · have := rk_lt M0 lt (s := s') (s' := s) (by omega) b
            exact Or.inr ⟨by omega, e, Or.inl ⟨by omega, b, c'⟩⟩
        · have := hA x' s' hx
          exact Or.inr ⟨by omega, fun e => this.1 (by rw [e]; exact hsl), Or.inr hx⟩)
      obtain ⟨X', M', t1, t2, t3⟩ := ih (s + 1) (l + 1) fx fm _ _ (by omega) (by omega) (by omega) (by omega) r2
      refine ⟨X', M', ?_, ?_, ?_⟩
      · have e : l + 1 + (many - rk M0 lt (s + 1)) = l + (many - rk M0 lt s) := by omega
        rw [e] at t1; exact t1
      · show fX3_addPointers_2 (fX3_addPointers_2L fx) _ _ _ _ = _
        unfold fX3_addPointers_2
        rw [if_neg (nl (by omega)), nadd, if_neg (nneg (by omega)), if_neg (nl (by omega)), show (nI 0 : Int32) = nI 0 from rfl, q3, zbd_r, x_become q1, zbd_r, zck_n (by omega) (by omega), nadd, ncl (by omega)]
        rw [hrk1] at t2
        exact t2
      · intro x3
        show fX10_build_285 (fX10_build_27L fm0) (fX10_build_285L (fX10_build_27L fm0) fm) _ _ _ _ _ _ _ = _
        unfold fX10_build_285
        rw [e2, if_neg (nl (by omega)), e3, zld_n (by omega) (by omega), if_pos hsl, q4, zbd_r, zck_n (by omega) (by omega), zld_n (by omega) (by omega), zld_n (by omega) (by omega), ncl (by omega), updS, zck_n q1 (by omega), ncl (by omega), nadd, wA_comm _ _ _ _ _ (show 34 ≠ 25 by decide)]
        exact t3 x3
    · have hrk1 : rk M0 lt (s + 1) = rk M0 lt s := by show rk M0 lt s + _ = _; rw [if_neg hsl, Nat.add_zero]
      have r2 : MK nd d X0 M0 l0 X M h l (fun x s' => (s' < s + 1 ∧ zA M0 22 s' = nI lt ∧ x = f0 + rk M0 lt s') ∨ A x s') := MK_sub H (by
        intro x' s' hx
        rcases hx with ⟨a, b, c'⟩ | hx
        · by_cases e : s' = s
          · subst e; exact absurd b hsl
          · exact Or.inl ⟨by omega, b, c'⟩
        · exact Or.inr hx)
      obtain ⟨X', M', t1, t2, t3⟩ := ih (s + 1) l fx fm _ _ (by omega) (by omega) (by omega) (by omega) r2
      refine ⟨X', M', ?_, ?_, ?_⟩
      · rw [hrk1] at t1; exact t1
      · rw [hrk1] at t2; exact t2
      · intro x3
        show fX10_build_285 (fX10_build_27L fm0) (fX10_build_285L (fX10_build_27L fm0) fm) _ _ _ _ _ _ _ = _
        unfold fX10_build_285
        rw [e2, if_neg (nl (by omega)), e3, zld_n (by omega) (by omega), if_neg hsl, nadd]
        exact t3 x3
