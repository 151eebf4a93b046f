/-- what a NAME means, in both -/
def NC (G : Nat → Nat × Nat × Nat) (X2 M : zSt) (d pd k lo nl ns i : Nat) : Prop := zA M 9 i = nI 4 ∧
  ((zA X2 17 i = nI 4 ∧ ∃ kk l s, kk ≤ 12 ∧ lo ≤ l ∧ l < nl ∧ s < ns ∧ CH M lo nl ns (zB M 11 i) kk (zA M 13 i) (nI l) ∧ zA M 22 s = nI l ∧ zB M 16 s = zB M 11 i ∧ (∀ s', s' < s → zA M 22 s' = nI l → zB M 16 s' ≠ zB M 11 i) ∧ zA X2 18 i = nI (6 * (G l).2.2 + rk M l s) ∧ (G l).1 < i ∧ i < (G l).2.1)
  ∨ (zA X2 17 i = nI 3 ∧ ∃ kk p, kk ≤ 12 ∧ CH M lo nl ns (zB M 11 i) kk (zA M 13 i) (-1) ∧ p < pd ∧ zA X2 18 i = nI p ∧ zB M 5 (8 * d + p) = zB M 11 i ∧ ∀ p', p' < p → zB M 5 (8 * d + p') ≠ zB M 11 i)
  ∨ (zA X2 17 i = nI 2 ∧ ∃ kk e, kk ≤ 12 ∧ CH M lo nl ns (zB M 11 i) kk (zA M 13 i) (-1) ∧ (∀ p, p < pd → zB M 5 (8 * d + p) ≠ zB M 11 i) ∧ e < k ∧ zA X2 18 i = nI e ∧ zB M 3 e = zB M 11 i ∧ ∀ e', e' < e → zB M 3 e' ≠ zB M 11 i)
  ∨ (zA X2 17 i = nI 8 ∧ (∃ p, p ≤ 800 ∧ zA X2 21 i = nI p ∧ zA M 12 i = nI p) ∧ ∃ kk, kk ≤ 12 ∧ CH M lo nl ns (zB M 11 i) kk (zA M 13 i) (-1) ∧ (∀ p, p < pd → zB M 5 (8 * d + p) ≠ zB M 11 i) ∧ ∀ e, e < k → zB M 3 e ≠ zB M 11 i))
def NN (G : Nat → Nat × Nat × Nat) (X2 M : zSt) (a lo nl ns i : Nat) : Prop := ¬ zA M 9 i = nI 4 ∧ ¬ zA X2 17 i = nI 8 ∧ DR G X2 M lo nl ns (-1) 0 a i
theorem cls {G : Nat → Nat × Nat × Nat} {X X2 M Y Z : zSt} {d a e lo nl n0 n1 ns pd k nd i : Nat} (hF : DF G X M Y Z d a e lo nl n0 n1 pd) (hX : FQ [17, 18] [] [] X X2) (hT : TB X X2 0 nd (fun j => zB X 12 j) 0 0 k (nI 2)) (hN : ∀ e, e < k → zB X 12 e = zB M 3 e) (hnd : e ≤ nd) (hns : n1 ≤ ns) (hnl : nl ≤ 2000) (hE : ∀ s, n1 ≤ s → s < ns → ∃ l, zA M 22 s = nI l ∧ l ≤ 2000 ∧ nl ≤ l) (h1 : a ≤ i) (h2 : i < e) : NC G X2 M d pd k lo nl ns i ∨ NN G X2 M a lo nl ns i := by
  obtain ⟨-, -, -, hS, f1, f2, f3⟩ := hF
  obtain ⟨z17, z18, z19, z21, z20⟩ := f3 i h1 h2
  have hD : DR G Y M lo nl ns (-1) 0 a i := DR_t (X := Y) (M := M) (Nat.le_refl _) (Nat.le_refl _) hns hnl ⟨⟨rfl, rfl, rfl, rfl, rfl⟩, rfl, rfl, rfl, rfl, rfl⟩ (fun _ _ _ => rfl) (fun _ _ => ⟨rfl, rfl⟩) (fun s r1 r2 => by
    obtain ⟨l, w1, w2, w3⟩ := hE s r1 r2
    exact ⟨l, w1, w2, Or.inr w3⟩) (fun _ _ _ => rfl) rfl (fun l r1 r2 r3 => by omega) (hS.2.2.2.2.1 i h1 h2)
  by_cases h8 : zA Y 17 i = nI 8
  · unfold DR at hD
    rcases hD with q | q | ⟨p, -, -, q, -⟩ | ⟨q1, q2, q3, q4, kk, q5, q6⟩ | q | ⟨n, -, -, -, q, -⟩ | ⟨n, -, -, -, q, -⟩ | ⟨n, s, -, -, -, -, -, q, -⟩
    · rw [q.1] at h8; exact absurd h8 (by decide)
    · rw [q.1] at h8; exact absurd h8 (by decide)
    · rw [q] at h8; exact absurd h8 (by decide)
    · left
      refine ⟨q2, Or.inr ?_⟩
      by_cases hp : ∃ p, p < pd ∧ zB M 5 (8 * d + p) = zB Y 20 i
      · obtain ⟨p, p1, p2, p3⟩ := min_ex pd hp
        obtain ⟨y1, y2⟩ := (f2 i).1 h1 h2 h8 p (Nat.zero_le _) p1 p2 (fun p' _ q => p3 p' q)
        obtain ⟨x1, x2⟩ := (hT i).2 (Or.inl (fun w => by rw [z17, y1] at w; exact absurd w.2.2 (by decide)))
        left
        exact ⟨by rw [x1, z17]; exact y1, kk, p, by omega, q6, p1, by rw [x2, z18, y2, Nat.zero_add], by rw [p2]; exact q3, fun p' u => by rw [← q3]; exact p3 p' u⟩
      · obtain ⟨y1, y2⟩ := (f2 i).2 (Or.inr (fun j _ u w => hp ⟨j, u, w⟩))
        have x8 : zA X 17 i = nI 8 := by rw [z17, y1]; exact h8
        have e20 : zB X 20 i = zB Y 20 i := by rw [z20, f1.2.2 20 (by decide)]
        have hp' : ∀ p, p < pd → zB M 5 (8 * d + p) ≠ zB M 11 i := fun p u w => hp ⟨p, u, by rw [w]; exact q3.symm⟩
        right
        by_cases he : ∃ e, e < k ∧ zB X 12 e = zB X 20 i
        · obtain ⟨e', p1, p2, p3⟩ := min_ex k he
          obtain ⟨x1, x2⟩ := (hT i).1 (Nat.zero_le _) (by omega) x8 e' (Nat.zero_le _) p1 p2 (fun p' _ q => p3 p' q)
          left
          exact ⟨x1, kk, e', by omega, q6, hp', p1, by rw [x2, Nat.zero_add], by rw [← hN e' p1, p2, e20]; exact q3, fun e2 u w => p3 e2 u (by rw [hN e2 (by omega), w, e20]; exact q3.symm)⟩
        · obtain ⟨x1, x2⟩ := (hT i).2 (Or.inr (fun j _ u w => he ⟨j, u, w⟩))
          right
          exact ⟨by rw [x1]; exact x8, by rw [hX.1 21 (by decide), z21, f1.1 21 (by decide)]; exact q4, kk, by omega, q6, hp', fun e2 u w => he ⟨e2, u, by rw [hN e2 u, w, e20]; exact q3.symm⟩⟩
    · rw [q.1] at h8; exact absurd h8 (by decide)
    · rw [q] at h8; exact absurd h8 (by decide)
    · rw [q] at h8; exact absurd h8 (by decide)
    · rw [q] at h8; exact absurd h8 (by decide)
  · obtain ⟨y1, y2⟩ := (f2 i).2 (Or.inl (fun w => h8 w.2.2))
    obtain ⟨x1, x2⟩ := (hT i).2 (Or.inl (fun w => by rw [z17, y1] at w; exact h8 w.2.2))
    have e17 : zA X2 17 i = zA Y 17 i := by rw [x1, z17, y1]
    have e18 : zA X2 18 i = zA Y 18 i := by rw [x2, z18, y2]
    have hD2 : DR G X2 M lo nl ns (-1) 0 a i := DR_t (X := Y) (M := M) (Nat.le_refl _) (Nat.le_refl _) (Nat.le_refl _) hnl ⟨⟨e17, e18, by rw [hX.1 19 (by decide), z19, f1.1 19 (by decide)], by rw [hX.1 21 (by decide), z21, f1.1 21 (by decide)], by rw [hX.2.2 20 (by decide), z20, f1.2.2 20 (by decide)]⟩, rfl, rfl, rfl, rfl, rfl⟩ (fun _ _ _ => rfl) (fun _ _ => ⟨rfl, rfl⟩) (fun s r1 r2 => by omega) (fun _ _ _ => rfl) rfl (fun l r1 r2 r3 => by omega) hD
    by_cases h4 : zA M 9 i = nI 4
    · left
      refine ⟨h4, Or.inl ?_⟩
      unfold DR at hD2
      rcases hD2 with q | q | ⟨p, -, -, -, -, q, -⟩ | q | q | ⟨n, -, -, -, -, -, q, -⟩ | ⟨n, -, -, -, -, -, -, q, -⟩ | ⟨n, s, -, -, -, -, -, -, -, q, -⟩
      · rw [q.2.1] at h4; exact absurd h4 (by decide)
      · rw [q.2.2] at h4; exact absurd h4 (by decide)
      · rw [q] at h4; exact absurd h4 (by decide)
      · rw [e17] at q; exact absurd q.1 h8
      · exact ⟨q.1, q.2.2⟩
      · rw [q] at h4; exact absurd h4 (by decide)
      · rw [q] at h4; exact absurd h4 (by decide)
      · rw [q] at h4; exact absurd h4 (by decide)
    · right
      exact ⟨h4, by rw [e17]; exact h8, hD2⟩
def mwt (M : zSt) (i : Nat) : Nat := if zA M 9 i = nI 1 then 1 else if zA M 9 i = nI 2 then 1 else if zA M 9 i = nI 3 then 1 else if zA M 9 i = nI 8 then (zA M 10 i).toNatClampNeg - 1 else 0
def msum (M : zSt) (a : Nat) : Nat → Nat
  | 0 => 0
  | b + 1 => msum M a b + if a ≤ b then mwt M b else 0
theorem msum_0 (X : zSt) (a : Nat) : ∀ b, b ≤ a → msum X a b = 0 := by
  intro b
  induction b with
  | zero => intro _; rfl
  | succ b ih =>
    intro h
    show msum X a b + (if a ≤ b then mwt X b else 0) = 0
    rw [ih (by omega), if_neg (by omega)]
theorem msum_s (X : zSt) {a b : Nat} (h : a ≤ b) : msum X a (b + 1) = msum X a b + mwt X b := by
  show msum X a b + (if a ≤ b then mwt X b else 0) = _
  rw [if_pos h]
/-- resolved -/
def RV (G : Nat → Nat × Nat × Nat) (X2 M S : zSt) (pd k lo nl ns a j : Nat) : Prop :=
  (NN G X2 M a lo nl ns j ∧ zA S 9 j = zA M 9 j ∧ zA S 10 j = zA M 10 j)
  ∨ (zA X2 17 j = nI 4 ∧ zA S 9 j = nI 7 ∧ zA M 9 j = nI 4 ∧ ∃ l s, lo ≤ l ∧ l < nl ∧ s < ns ∧ zA M 22 s = nI l ∧ zA X2 18 j = nI (6 * (G l).2.2 + rk M l s) ∧ (G l).1 < j ∧ j < (G l).2.1 ∧ zA S 10 j = nI s)
  ∨ (zA X2 17 j = nI 3 ∧ zA S 9 j = nI 6 ∧ zA M 9 j = nI 4 ∧ ∃ p, p < pd ∧ zA X2 18 j = nI p ∧ zA S 10 j = nI (p + 1))
  ∨ (zA X2 17 j = nI 2 ∧ zA S 9 j = nI 5 ∧ zA M 9 j = nI 4 ∧ ∃ e, e < k ∧ zA X2 18 j = nI e ∧ zA S 10 j = nI e)
theorem RV_8 {G : Nat → Nat × Nat × Nat} {X2 M S : zSt} {pd k lo nl ns a j : Nat} (h : RV G X2 M S pd k lo nl ns a j) : ¬ zA X2 17 j = nI 8 := by
  rcases h with h | h | h | h
  · exact h.1.2.1
  · rw [h.1]; decide
  · rw [h.1]; decide
  · rw [h.1]; decide
theorem res_in {G : Nat → Nat × Nat × Nat} {k2 : Int32 × zSt → Option (Unit × zSt)} {X2 M : zSt} {d a e pd k lo nl ns : Nat} (hd : d < 20) (h7 : zA M 7 d = nI e) (he : e ≤ 800) (h11 : zI M 11 = nI ns) (hns : ns ≤ 300) (hnl : nl ≤ 300) (h4 : zA M 4 d = nI pd) (hpd : pd ≤ 8) (h8 : zI M 8 = nI k) (hk : k ≤ 20) (h6 : zI M 6 = nI 0) (hC : ∀ j, a ≤ j → j < e → NC G X2 M d pd k lo nl ns j ∨ NN G X2 M a lo nl ns j) : ∀ (c i f : Nat) (S : zSt), i + c = e → c < f → a ≤ i → FQ [8, 9, 10] [] [] M S → (∀ j, i ≤ j → zA S 9 j = zA M 9 j ∧ zA S 10 j = zA M 10 j) → zA S 8 d = nI (msum M a i) →
    (∃ S', fX10_resolve_24L k2 f (nI d, nI i, S) = k2 (nI (d + 1), S') ∧ FQ [8, 9, 10] [] [] M S' ∧ (∀ j, e ≤ j → zA S' 9 j = zA M 9 j ∧ zA S' 10 j = zA M 10 j) ∧ (∀ j, j < i → zA S' 9 j = zA S 9 j ∧ zA S' 10 j = zA S 10 j) ∧ (∀ j, i ≤ j → j < e → RV G X2 M S' pd k lo nl ns a j) ∧ zA S' 8 d = nI (msum M a e) ∧ ∀ d', d' ≠ d → zA S' 8 d' = zA S 8 d')
    ∨ ∃ i0 S', i ≤ i0 ∧ i0 < e ∧ zA X2 17 i0 = nI 8 ∧ (∃ p, p ≤ 800 ∧ zA X2 21 i0 = nI p ∧ zA M 12 i0 = nI p) ∧ (∀ j, i ≤ j → j < i0 → ¬ zA X2 17 j = nI 8) ∧ fX10_resolve_24L k2 f (nI d, nI i, S) = some ((), wI (wI S' 6 (nI 5)) 7 (zA M 12 i0)) ∧ FQ [8, 9, 10] [] [] M S' := by
  intro c
  induction c with
  | zero =>
    intro i f S hi hf ha hF hj hs
    obtain ⟨f, rfl⟩ : ∃ n', f = n' + 1 := ⟨f - 1, by omega⟩
    left
    have : i = e := by omega
    subst this
    refine ⟨S, ?_, hF, fun j h => hj j h, fun _ _ => ⟨rfl, rfl⟩, fun j h1 h2 => by omega, hs, fun _ _ => rfl⟩
    show fX10_resolve_24 k2 (fX10_resolve_24L k2 f) (nI d) (nI i) S = _
    unfold fX10_resolve_24
    rw [zld_n (by omega) (by omega), hF.1 7 (by decide), h7, if_pos (qle (by omega)), nadd]
  | succ c ih =>
    intro i f S hi hf ha hF hj hs
    obtain ⟨f, rfl⟩ : ∃ n', f = n' + 1 := ⟨f - 1, by omega⟩
    have ef : fX10_resolve_24L k2 (f + 1) (nI d, nI i, S) = fX10_resolve_24 k2 (fX10_resolve_24L k2 f) (nI d) (nI i) S := rfl
    have s7 : zA S 7 = zA M 7 := hF.1 7 (by decide)
    have e9 := (hj i (Nat.le_refl _)).1
    have e10 := (hj i (Nat.le_refl _)).2
    -- one code is done
    have go : ∀ (S1 : zSt) (w : Nat), w = mwt M i → FQ [8, 9, 10] [] [] M S1 → (∀ j, j ≠ i → zA S1 9 j = zA S 9 j ∧ zA S1 10 j = zA S 10 j) → zA S1 8 = zA S 8 → RV G X2 M (wA S1 8 d (nI (msum M a i + w))) pd k lo nl ns a i → (∀ g, g = (wA S1 8 d (nI (msum M a i + w))) → fX10_resolve_24 k2 (fX10_resolve_24L k2 f) (nI d) (nI i) S = fX10_resolve_24L k2 f (nI d, nI (i + 1), g)) →
        (∃ S', fX10_resolve_24L k2 (f + 1) (nI d, nI i, S) = k2 (nI (d + 1), S') ∧ FQ [8, 9, 10] [] [] M S' ∧ (∀ j, e ≤ j → zA S' 9 j = zA M 9 j ∧ zA S' 10 j = zA M 10 j) ∧ (∀ j, j < i → zA S' 9 j = zA S 9 j ∧ zA S' 10 j = zA S 10 j) ∧ (∀ j, i ≤ j → j < e → RV G X2 M S' pd k lo nl ns a j) ∧ zA S' 8 d = nI (msum M a e) ∧ ∀ d', d' ≠ d → zA S' 8 d' = zA S 8 d')
        ∨ ∃ i0 S', i ≤ i0 ∧ i0 < e ∧ zA X2 17 i0 = nI 8 ∧ (∃ p, p ≤ 800 ∧ zA X2 21 i0 = nI p ∧ zA M 12 i0 = nI p) ∧ (∀ j, i ≤ j → j < i0 → ¬ zA X2 17 j = nI 8) ∧ fX10_resolve_24L k2 (f + 1) (nI d, nI i, S) = some ((), wI (wI S' 6 (nI 5)) 7 (zA M 12 i0)) ∧ FQ [8, 9, 10] [] [] M S' := fun S1 w hw fS hS1 hS8 hRV hstep => by
      rw [ef, hstep _ rfl]
      generalize hg : wA S1 8 d (nI (msum M a i + w)) = g at hRV
      have fg : FQ [8, 9, 10] [] [] M g := by rw [← hg]; exact FQ_trans fS (FQ_A _ _ _ (by decide))
      have g9 : zA g 9 = zA S1 9 := by rw [← hg]; rfl
      have g10 : zA g 10 = zA S1 10 := by rw [← hg]; rfl
      have g8 : ∀ q, zA g 8 q = if q = d then nI (msum M a i + w) else zA S 8 q := fun q => by rw [← hS8, ← hg]; rfl
      rcases ih (i + 1) f g (by omega) (by omega) (by omega) fg (fun j h => by rw [g9, g10, (hS1 j (by omega)).1, (hS1 j (by omega)).2]; exact hj j (by omega)) (by rw [g8, if_pos rfl, msum_s M ha, hw]) with ⟨S', r1, r2, r3, r4, r5, r6, r7⟩ | ⟨i0, S', r1, r2, r3, r4, r5, r6, r7⟩
      · left
        refine ⟨S', r1, r2, r3, fun j h => ?_, fun j q1 q2 => ?_, r6, fun q hq => by rw [r7 q hq, g8, if_neg hq]⟩
        · rw [(r4 j (by omega)).1, (r4 j (by omega)).2, g9, g10]; exact hS1 j (by omega)
        · by_cases z : j = i
          · subst z
            have w9 := (r4 j (by omega)).1
            have w10 := (r4 j (by omega)).2
            unfold RV at hRV ⊢
            rw [w9, w10]
            exact hRV
          · exact r5 j (by omega) q2
      · right
        refine ⟨i0, S', by omega, r2, r3, r4, fun j q1 q2 => ?_, r6, r7⟩
        by_cases z : j = i
        · rw [z]; exact RV_8 hRV
        · exact r5 j (by omega) q2
    have r65 : ∀ (S1 : zSt) (q : Nat), zA S1 8 d = nI (msum M a i) → zA S1 9 i = nI q → 4 ≤ q → q ≤ 20 → q ≠ 8 → fX10_resolve_65 (fX10_resolve_24L k2 f) (nI d) (nI i) S1 = fX10_resolve_24L k2 f (nI d, nI (i + 1), wA S1 8 d (nI (msum M a i + 0))) := fun S1 q h1 h2 h3 h4' h5 => by
      unfold fX10_resolve_65
      rw [zld_n (by omega) (by omega), h1, zld_n (by omega) (by omega), h2, if_neg (nq (by omega)), zld_n (by omega) (by omega), h2, if_neg (nq (by omega)), zld_n (by omega) (by omega), h2, if_neg (nq (by omega)), zld_n (by omega) (by omega), h2, if_neg (nq h5), zck_n (by omega) (by omega), ncl (by omega), nadd, nadd]
    have open24 : fX10_resolve_24 k2 (fX10_resolve_24L k2 f) (nI d) (nI i) S = if zA M 9 i = nI 4 then zbd (fX10_find (nI d) (nI i) S) (fun r4 S5 => if r4 = 0 then zld 1700 (nI i) (zA S5 12) (fun v6 => zbd (fX10_fail (nI 5) v6 S5) (fun _ S8 => some ((), S8))) else fX10_resolve_65 (fX10_resolve_24L k2 f) (nI d) (nI i) S5) else fX10_resolve_65 (fX10_resolve_24L k2 f) (nI d) (nI i) S := by
      unfold fX10_resolve_24
      rw [zld_n (by omega) (by omega), s7, h7, if_neg (nlN (by omega)), zld_n (by omega) (by omega), e9]
    have s11 : zI S 11 = nI ns := by rw [hF.2.1 11 (by decide)]; exact h11
    have b11 : zB S 11 = zB M 11 := hF.2.2 11 (by decide)
    have b16 : zB S 16 = zB M 16 := hF.2.2 16 (by decide)
    have a22 : zA S 22 = zA M 22 := hF.1 22 (by decide)
    have a13 : zA S 13 = zA M 13 := hF.1 13 (by decide)
    have chS : ∀ kk c c', CH M lo nl ns (zB M 11 i) kk c c' → CH S lo nl ns (zB M 11 i) kk c c' := fun kk c c' h => CH_t (Nat.le_refl _) (Nat.le_refl _) (by omega) (fun _ _ _ => by rw [hF.1 14 (by decide)]) (fun _ _ => by rw [a22, b16]; exact ⟨rfl, rfl⟩) (fun s q1 q2 => by omega) kk c c' h
    have mw4 : zA M 9 i = nI 4 → 0 = mwt M i := fun z => by
      unfold mwt
      rw [z, if_neg (by decide), if_neg (by decide), if_neg (by decide), if_neg (by decide)]
    rcases hC i ha (by omega) with ⟨n4, hn⟩ | hn
    · rw [if_pos n4] at open24
      have nameGo : ∀ (q : Nat) (v : Int32), 5 ≤ q → q ≤ 7 → fX10_find (nI d) (nI i) S = some (nI 1, wA (wA S 9 i (nI q)) 10 i v) → RV G X2 M (wA (wA (wA S 9 i (nI q)) 10 i v) 8 d (nI (msum M a i + 0))) pd k lo nl ns a i → _ := fun q v q1 q2 hf hRV => go (wA (wA S 9 i (nI q)) 10 i v) 0 (mw4 n4) (FQ_trans hF (FQ_trans (FQ_A _ _ _ (by decide)) (FQ_A _ _ _ (by decide)))) (fun j h => ⟨updN _ _ h, updN _ _ h⟩) rfl hRV (fun g hg => by
        rw [open24, hf, zbd_r, if_neg one0, r65 (wA (wA S 9 i (nI q)) 10 i v) q hs (updS _ _ _) (by omega) (by omega) (by omega), hg])
      rcases hn with ⟨x4, kk, l, s, p1, p2, p3, p4, p5, p6, p7, p8, p9, p10, p11⟩ | ⟨x3, kk, p, p1, p2, p3, p4, p5, p6⟩ | ⟨x2, kk, e', p1, p2, p3, p4, p5, p6, p7⟩ | ⟨x8, x21, kk, p1, p2, p3, p4⟩
      · refine nameGo 7 (nI s) (by omega) (by omega) (m_find_let s11 hns hnl (by omega) p1 p3 (by rw [b11, a13]; exact chS _ _ _ p5) p4 (by rw [a22]; exact p6) (by rw [b16, b11]; exact p7) (fun s' u1 u2 => by rw [a22] at u2; rw [b16, b11]; exact p8 s' u1 u2)) ?_
        exact Or.inr (Or.inl ⟨x4, updS _ _ _, n4, l, s, p2, p3, p4, p6, p9, p10, p11, updS _ _ _⟩)
      · refine nameGo 6 (nI (p + 1)) (by omega) (by omega) ?_ ?_
        · rw [m_find_up s11 hns hnl (by omega) p1 (by rw [b11, a13]; exact chS _ _ _ p2)]
          exact m_87Y hd (by rw [hF.1 4 (by decide)]; exact h4) hpd (by omega) p3 (by rw [hF.2.2 5 (by decide), b11]; exact p5) (fun p' u => by rw [hF.2.2 5 (by decide), b11]; exact p6 p' u) p 0 zFU (by omega) (by rw [zFU_s]; omega)
        · exact Or.inr (Or.inr (Or.inl ⟨x3, updS _ _ _, n4, p, p3, p4, updS _ _ _⟩))
      · refine nameGo 5 (nI e') (by omega) (by omega) ?_ ?_
        · rw [m_find_up s11 hns hnl (by omega) p1 (by rw [b11, a13]; exact chS _ _ _ p2), m_87N hd (by rw [hF.1 4 (by decide)]; exact h4) hpd (by omega) (fun p' u => by rw [hF.2.2 5 (by decide), b11]; exact p3 p' u) pd 0 zFU (by omega) (by rw [zFU_s]; omega)]
          exact m_145Y (by rw [hF.2.1 8 (by decide)]; exact h8) hk (by omega) p4 (by rw [hF.2.2 3 (by decide), b11]; exact p6) (fun e2 u => by rw [hF.2.2 3 (by decide), b11]; exact p7 e2 u) e' 0 zFU (by omega) (by rw [zFU_s]; omega)
        · exact Or.inr (Or.inr (Or.inr ⟨x2, updS _ _ _, n4, e', p4, p5, updS _ _ _⟩))
      · right
        refine ⟨i, S, Nat.le_refl _, by omega, x8, x21, fun j q1 q2 => by omega, ?_, hF⟩
        rw [ef, open24, m_find_up s11 hns hnl (by omega) p1 (by rw [b11, a13]; exact chS _ _ _ p2), m_87N hd (by rw [hF.1 4 (by decide)]; exact h4) hpd (by omega) (fun p' u => by rw [hF.2.2 5 (by decide), b11]; exact p3 p' u) pd 0 zFU (by omega) (by rw [zFU_s]; omega), m_145N (by rw [hF.2.1 8 (by decide)]; exact h8) hk (by omega) (fun e2 u => by rw [hF.2.2 3 (by decide), b11]; exact p4 e2 u) k 0 zFU (by omega) (by rw [zFU_s]; omega), zbd_r, if_pos zer0, zld_n (by omega) (by omega), m_fail (M := S) (by rw [hF.2.1 6 (by decide)]; exact h6), zbd_r, hF.1 12 (by decide)]
    · rw [if_neg hn.1] at open24
      have hRV : ∀ v, RV G X2 M (wA S 8 d v) pd k lo nl ns a i := fun v => Or.inl ⟨hn, e9, e10⟩
      refine go S (mwt M i) rfl hF (fun j _ => ⟨rfl, rfl⟩) rfl (hRV _) (fun g hg => ?_)
      rw [open24, hg]
      unfold mwt
      by_cases c1 : zA M 9 i = nI 1
      · rw [if_pos c1]
        unfold fX10_resolve_65 fX10_resolve_102
        rw [zld_n (by omega) (by omega), hs, zld_n (by omega) (by omega), e9, if_pos c1, zck_n (by omega) (by omega), ncl (by omega), nadd, nadd]
      rw [if_neg c1]
      by_cases c2 : zA M 9 i = nI 2
      · rw [if_pos c2]
        unfold fX10_resolve_65 fX10_resolve_102
        rw [zld_n (by omega) (by omega), hs, zld_n (by omega) (by omega), e9, if_neg c1, zld_n (by omega) (by omega), e9, if_pos c2, zck_n (by omega) (by omega), ncl (by omega), nadd, nadd]
      rw [if_neg c2]
      by_cases c3 : zA M 9 i = nI 3
      · rw [if_pos c3]
        unfold fX10_resolve_65 fX10_resolve_102
        rw [zld_n (by omega) (by omega), hs, zld_n (by omega) (by omega), e9, if_neg c1, zld_n (by omega) (by omega), e9, if_neg c2, zld_n (by omega) (by omega), e9, if_pos c3, zck_n (by omega) (by omega), ncl (by omega), nadd, nadd]
      rw [if_neg c3]
      by_cases c8 : zA M 9 i = nI 8
      · rw [if_pos c8]
        have hD := hn.2.2
        unfold DR at hD
        obtain ⟨n, n1, n2, n3⟩ : ∃ n, 2 ≤ n ∧ n ≤ 10 ∧ zA M 10 i = nI n := by
          rcases hD with q | q | ⟨p, -, -, -, -, q, -⟩ | ⟨-, q, -⟩ | ⟨-, q, -⟩ | ⟨n, q1, q2, -, -, -, -, q⟩ | ⟨n, -, -, -, -, -, -, q, -⟩ | ⟨n, s, -, -, -, -, -, -, -, q, -⟩
          · rw [q.2.1] at c8; exact absurd c8 (by decide)
          · rw [q.2.2] at c8; exact absurd c8 (by decide)
          · rw [q] at c8; exact absurd c8 (by decide)
          · rw [q] at c8; exact absurd c8 (by decide)
          · rw [q] at c8; exact absurd c8 (by decide)
          · exact ⟨n, q1, q2, q⟩
          · rw [q] at c8; exact absurd c8 (by decide)
          · rw [q] at c8; exact absurd c8 (by decide)
        unfold fX10_resolve_65
        rw [zld_n (by omega) (by omega), hs, zld_n (by omega) (by omega), e9, if_neg c1, zld_n (by omega) (by omega), e9, if_neg c2, zld_n (by omega) (by omega), e9, if_neg c3, zld_n (by omega) (by omega), e9, if_pos c8, zld_n (by omega) (by omega), e10, n3, zck_n (by omega) (by omega), ncl (by omega), ncl (by omega), nsub (by omega), nadd, nadd]
      · rw [if_neg c8]
        unfold fX10_resolve_65
        rw [zld_n (by omega) (by omega), hs, zld_n (by omega) (by omega), e9, if_neg c1, zld_n (by omega) (by omega), e9, if_neg c2, zld_n (by omega) (by omega), e9, if_neg c3, zld_n (by omega) (by omega), e9, if_neg c8, zck_n (by omega) (by omega), ncl (by omega), nadd, nadd]
