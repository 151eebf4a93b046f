/-! what is kept while an EXPR is MADE -/
theorem lvn_mono {M M' : zSt} (h : ∀ k, k < 400 → zA M 24 k ≠ nI 7 → zA M' 24 k ≠ nI 7) {v : Int32} (hv : lvn M v) : lvn M' v := by
  obtain ⟨k, h1, h2, h3⟩ := hv
  exact ⟨k, h1, h2, h k h1 h3⟩
theorem Wn_mono {nd : Nat} {M M' : zSt} {n : Nat} (h : ∀ k, k < 400 → zA M 24 k ≠ nI 7 → zA M' 24 k ≠ nI 7) (e4 : zA M' 24 n = zA M 24 n) (e5 : zA M' 25 n = zA M 25 n) (e6 : zA M' 26 n = zA M 26 n) (hw : Wn nd M n) : Wn nd M' n := by
  unfold Wn at hw ⊢
  rw [e4, e5, e6]
  rcases hw with q | ⟨q, a, b⟩ | q | q | ⟨q, a, b⟩ | q | ⟨q, a⟩
  · exact Or.inl q
  · exact Or.inr (Or.inl ⟨q, lvn_mono h a, lvn_mono h b⟩)
  · exact Or.inr (Or.inr (Or.inl q))
  · exact Or.inr (Or.inr (Or.inr (Or.inl q)))
  · exact Or.inr (Or.inr (Or.inr (Or.inr (Or.inl ⟨q, lvn_mono h a, lvn_mono h b⟩))))
  · exact Or.inr (Or.inr (Or.inr (Or.inr (Or.inr (Or.inl q)))))
  · exact Or.inr (Or.inr (Or.inr (Or.inr (Or.inr (Or.inr ⟨q, lvn_mono h a⟩)))))
/-- nothing else is written while an EXPR is MADE -/
def smX (X0 X : zSt) : Prop := (∀ k, k ∉ [25, 26, 27, 28, 33, 34, 35] → zA X k = zA X0 k) ∧ (∀ k, k ∉ [14, 15, 16, 17, 18, 26] → zI X k = zI X0 k) ∧ (∀ k, zL X k = zL X0 k) ∧ ∀ k, zB X k = zB X0 k
def smM (M0 M : zSt) : Prop := (∀ k, k ∉ [24, 25, 26, 27, 28, 29, 33, 34] → zA M k = zA M0 k) ∧ (∀ k, k ∉ [15, 16, 17] → zI M k = zI M0 k) ∧ (∀ k, zL M k = zL M0 k) ∧ ∀ k, zB M k = zB M0 k
def oldM (M0 M : zSt) : Prop := ∀ n, n < 400 → zA M0 24 n ≠ nI 7 → zA M 24 n = zA M0 24 n ∧ zA M 25 n = zA M0 25 n ∧ zA M 26 n = zA M0 26 n ∧ zA M 27 n = zA M0 27 n
def MK (nd d : Nat) (X0 M0 : zSt) (l0 : Nat) (X M : zSt) (h l : Nat) (A : Nat → Nat → Prop) : Prop :=
  GR X M l ∧ Wg nd M ∧ zI X 18 = nI d ∧ zI X 26 = nI h ∧ (∀ j, j < h → zA X 35 j = zA M 33 j ∧ lvn M (zA M 33 j))
  ∧ (∀ x s, A x s → zA X 34 x = zA M 34 s ∧ ∃ q, q < 400 ∧ zA M 34 s = nI q ∧ zA M 24 q = nI 6 ∧ zA M 26 q = -3 ∧ zA M0 24 q = nI 7)
  ∧ oldM M0 M ∧ smX X0 X ∧ smM M0 M ∧ zA M 29 d = zA M0 29 d + nI (l - l0) ∧ (∀ j, j ≠ d → zA M 29 j = zA M0 29 j) ∧ l0 ≤ l ∧ zA X 33 = zA X0 33 ∧ zA M 28 = zA M0 28
/-- what a new node may hold -/
def nok (nd : Nat) (M : zSt) (k : Nat) (a b : Int32) : Prop := k = 0 ∨ (k = 1 ∧ lvn M a ∧ lvn M b) ∨ (k = 3 ∧ ∃ p, p < 13 ∧ p ≠ 8 ∧ a = nI p) ∨ k = 5 ∨ (k = 6 ∧ lvn M a)
theorem updk {f : Nat → Int32} {q n : Nat} {k : Nat} (hk : k < 7) (h : f n ≠ nI 7) : upd f q (nI k) n ≠ nI 7 := by
  rw [upd_ite]
  split
  · exact nq (by omega)
  · exact h
theorem MK_add {nd d : Nat} {X0 M0 X M : zSt} {l0 h l : Nat} {A : Nat → Nat → Prop} (H : MK nd d X0 M0 l0 X M h l A) (hd : d < 20) (hl : l < 400) {k : Nat} {a b : Int32} (hk : nok nd M k a b) :
    ∃ q, q < 400 ∧ zA M 24 q = nI 7 ∧ zA M0 24 q = nI 7 ∧ fX0_add (nI k) a b X = some (nI q, nX X q (nI k) a b) ∧ fX10_node (nI k) a b (nI d) M = some (nI q, nMd M q (nI k) a b d) ∧ MK nd d X0 M0 l0 (nX X q (nI k) a b) (nMd M q (nI k) a b d) h (l + 1) A ∧ lvn (nMd M q (nI k) a b d) (nI q) := by
  obtain ⟨h1, h2, h3, h4, h5, h6, h7, h8, h9, h10, h11, h12, h13, h14⟩ := H
  have hk7 : k < 7 := by
    rcases hk with q | ⟨q, -⟩ | ⟨q, -⟩ | q | ⟨q, -⟩ <;> omega
  obtain ⟨q, q1, q2, q3, q4, q5⟩ := add_sim h1 hl hd h3 hk7 a b
  have hM0 : zA M0 24 q = nI 7 := by
    by_cases z : zA M0 24 q = nI 7
    · exact z
    · exact absurd ((h7 q q1 z).1.symm.trans q2) z
  have e4 : zA (nMd M q (nI k) a b d) 24 = upd (zA M 24) q (nI k) := rfl
  have e5 : zA (nMd M q (nI k) a b d) 25 = upd (zA M 25) q a := rfl
  have e6 : zA (nMd M q (nI k) a b d) 26 = upd (zA M 26) q b := rfl
  have e7 : zA (nMd M q (nI k) a b d) 27 = upd (zA M 27) q (nI d) := rfl
  have mono : ∀ j, j < 400 → zA M 24 j ≠ nI 7 → zA (nMd M q (nI k) a b d) 24 j ≠ nI 7 := fun j _ hj => by rw [e4]; exact updk hk7 hj
  have hlv : lvn (nMd M q (nI k) a b d) (nI q) := ⟨q, q1, rfl, by rw [e4, updS]; exact nq (by omega)⟩
  refine ⟨q, q1, q2, hM0, q3, q4, ⟨q5, ?_, h3, h4, ?_, ?_, ?_, ?_, ?_, ?_, ?_, by omega, h13, h14⟩, hlv⟩
  · intro n hn hn7
    by_cases e : n = q
    · subst e
      unfold Wn
      rw [e4, e5, e6, updS, updS, updS]
      rcases hk with z | ⟨z, za, zb⟩ | ⟨z, p, p1, p2, p3⟩ | z | ⟨z, za⟩
      · exact Or.inl (by rw [z])
      · exact Or.inr (Or.inl ⟨by rw [z], lvn_mono mono za, lvn_mono mono zb⟩)
      · exact Or.inr (Or.inr (Or.inr (Or.inl ⟨by rw [z], p, p1, p2, p3⟩)))
      · exact Or.inr (Or.inr (Or.inr (Or.inr (Or.inr (Or.inl (by rw [z]))))))
      · exact Or.inr (Or.inr (Or.inr (Or.inr (Or.inr (Or.inr ⟨by rw [z], lvn_mono mono za⟩)))))
    · have hn7' : zA M 24 n ≠ nI 7 := by rw [e4, updN _ _ e] at hn7; exact hn7
      exact Wn_mono mono (by rw [e4, updN _ _ e]) (by rw [e5, updN _ _ e]) (by rw [e6, updN _ _ e]) (h2 n hn hn7')
  · intro j hj
    exact ⟨(h5 j hj).1, lvn_mono mono (h5 j hj).2⟩
  · intro x s hxs
    obtain ⟨g1, z, g2, g3, g4, g5, g6⟩ := h6 x s hxs
    have zq : z ≠ q := fun e => by rw [e, q2] at g4; exact absurd g4 (by decide)
    exact ⟨g1, z, g2, g3, by rw [e4, updN _ _ zq]; exact g4, by rw [e6, updN _ _ zq]; exact g5, g6⟩
  · intro n hn hn7
    have nq' : n ≠ q := fun e => hn7 (by rw [e]; exact hM0)
    rw [e4, e5, e6, e7, updN _ _ nq', updN _ _ nq', updN _ _ nq', updN _ _ nq']
    exact h7 n hn hn7
  · refine ⟨fun j hj => ?_, fun j hj => ?_, h8.2.2.1, h8.2.2.2⟩
    · rw [← h8.1 j hj]
      unfold nX
      simp only [List.mem_cons, not_or] at hj
      simp only [zs, hj, if_false]
    · rw [← h8.2.1 j hj]
      unfold nX
      simp only [List.mem_cons, not_or] at hj
      simp only [zs, hj, if_false]
  · refine ⟨fun j hj => ?_, fun j hj => ?_, h9.2.2.1, h9.2.2.2⟩
    · rw [← h9.1 j hj]
      unfold nMd nM0
      simp only [List.mem_cons, not_or] at hj
      simp only [zs, hj, if_false]
    · rw [← h9.2.1 j hj]
      unfold nMd nM0
      simp only [List.mem_cons, not_or] at hj
      simp only [zs, hj, if_false]
  · show upd (zA M 29) d (zA M 29 d + nI 1) d = _
    rw [updS, h10, Int32.add_assoc, nadd]
    have : l - l0 + 1 = l + 1 - l0 := by omega
    rw [this]
  · intro j hj
    show upd (zA M 29) d (zA M 29 d + nI 1) j = _
    rw [updN _ _ hj]
    exact h11 j hj
/-- letWait, and the reference's pile -/
theorem MK_wait {nd d : Nat} {X0 M0 X M : zSt} {l0 h l : Nat} {A : Nat → Nat → Prop} (H : MK nd d X0 M0 l0 X M h l A) (hh : h < 130) {v : Int32} (hv : lvn M v) :
    fX3_letWait v X = some ((), wI (wA X 35 h v) 26 (nI (h + 1))) ∧ MK nd d X0 M0 l0 (wI (wA X 35 h v) 26 (nI (h + 1))) (wA M 33 h v) (h + 1) l A := by
  obtain ⟨h1, h2, h3, h4, h5, h6, h7, h8, h9, h10, h11, h12, h13, h14⟩ := H
  constructor
  · unfold fX3_letWait
    rw [h4, if_neg (nneg (by omega)), if_neg (nl (by omega)), zck_n hh (by omega), ncl (by omega), nadd]
  · refine ⟨h1, h2, h3, rfl, ?_, h6, h7, ?_, ?_, h10, h11, h12, h13, h14⟩
    · intro j hj
      show upd (zA X 35) h v j = upd (zA M 33) h v j ∧ lvn M (upd (zA M 33) h v j)
      by_cases e : j = h
      · subst e
        rw [updS, updS]
        exact ⟨rfl, hv⟩
      · rw [updN _ _ e, updN _ _ e]
        exact h5 j (by omega)
    · refine ⟨fun j hj => ?_, fun j hj => ?_, h8.2.2.1, h8.2.2.2⟩
      · rw [← h8.1 j hj]
        simp only [List.mem_cons, not_or] at hj
        simp only [zs, hj, if_false]
      · rw [← h8.2.1 j hj]
        simp only [List.mem_cons, not_or] at hj
        simp only [zs, hj, if_false]
    · refine ⟨fun j hj => ?_, h9.2.1, h9.2.2.1, h9.2.2.2⟩
      rw [← h9.1 j hj]
      simp only [List.mem_cons, not_or] at hj
      simp only [zs, hj, if_false]
/-- the pile's height, changed downwards in the class; the reference's is a local -/
theorem MK_low {nd d : Nat} {X0 M0 X M : zSt} {l0 h l h' : Nat} {A : Nat → Nat → Prop} (H : MK nd d X0 M0 l0 X M h l A) (hh : h' ≤ h) : MK nd d X0 M0 l0 (wI X 26 (nI h')) M h' l A := by
  obtain ⟨h1, h2, h3, h4, h5, h6, h7, h8, h9, h10, h11, h12, h13, h14⟩ := H
  refine ⟨h1, h2, h3, rfl, fun j hj => h5 j (by omega), h6, h7, ?_, h9, h10, h11, h12, h13, h14⟩
  refine ⟨fun j hj => h8.1 j hj, fun j hj => ?_, h8.2.2.1, h8.2.2.2⟩
  rw [← h8.2.1 j hj]
  simp only [List.mem_cons, not_or] at hj
  simp only [zs, hj, if_false]
