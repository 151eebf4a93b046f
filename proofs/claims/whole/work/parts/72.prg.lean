/-- all NAMES of all DEFINITIONS -/
theorem res_out {G : Nat → Nat × Nat × Nat} {X2 M : zSt} {bs ls pd : Nat → Nat} {k ns : Nat} (hk : k ≤ 20) (h11 : zI M 11 = nI ns) (hns : ns ≤ 300) (h8 : zI M 8 = nI k) (h6 : zI M 6 = nI 0) (hA : ∀ d, d < k → zA M 6 d = nI (bs d) ∧ zA M 7 d = nI (bs (d + 1)) ∧ bs d ≤ bs (d + 1) ∧ bs (d + 1) ≤ bs k ∧ bs k ≤ 800 ∧ zA M 4 d = nI (pd d) ∧ pd d ≤ 8 ∧ ls (d + 1) ≤ 300) (hC : ∀ d, d < k → ∀ j, bs d ≤ j → j < bs (d + 1) → NC G X2 M d (pd d) k (ls d) (ls (d + 1)) ns j ∨ NN G X2 M (bs d) (ls d) (ls (d + 1)) ns j) : ∀ (c d f : Nat) (S : zSt), d + c = k → c < f → FQ [8, 9, 10] [] [] M S → (∀ j, bs d ≤ j → zA S 9 j = zA M 9 j ∧ zA S 10 j = zA M 10 j) → (∀ d', d' < d → zA S 8 d' = nI (msum M (bs d') (bs (d' + 1)))) → (∀ d', d' < d → ∀ j, bs d' ≤ j → j < bs (d' + 1) → j < bs d ∧ RV G X2 M S (pd d') k (ls d') (ls (d' + 1)) ns (bs d') j) →
    (∃ S', fX10_resolve_2L f (nI d, S) = fX10_resolve_145L zFU (nI 0, S') ∧ FQ [8, 9, 10] [] [] M S' ∧ (∀ d', d' < k → zA S' 8 d' = nI (msum M (bs d') (bs (d' + 1)))) ∧ (∀ d', d' < k → ∀ j, bs d' ≤ j → j < bs (d' + 1) → RV G X2 M S' (pd d') k (ls d') (ls (d' + 1)) ns (bs d') j))
    ∨ ∃ i0 S', bs d ≤ i0 ∧ i0 < bs k ∧ zA X2 17 i0 = nI 8 ∧ (∃ p, p ≤ 800 ∧ zA X2 21 i0 = nI p ∧ zA M 12 i0 = nI p) ∧ (∀ j, bs d ≤ j → j < i0 → ¬ zA X2 17 j = nI 8) ∧ fX10_resolve_2L f (nI d, S) = some ((), wI (wI S' 6 (nI 5)) 7 (zA M 12 i0)) ∧ FQ [8, 9, 10] [] [] M S' := by
  intro c
  induction c with
  | zero =>
    intro d f S hd hf hF hj h8s hR
    obtain ⟨f, rfl⟩ : ∃ n', f = n' + 1 := ⟨f - 1, by omega⟩
    have : d = k := by omega
    subst this
    left
    refine ⟨S, ?_, hF, h8s, fun d' q1 j q2 q3 => (hR d' q1 j q2 q3).2⟩
    show fX10_resolve_2 (fX10_resolve_2L f) (nI d) S = _
    unfold fX10_resolve_2
    rw [hF.2.1 8 (by decide), h8, if_pos (qle (by omega))]
  | succ c ih =>
    intro d f S hd hf hF hj h8s hR
    obtain ⟨f, rfl⟩ : ∃ n', f = n' + 1 := ⟨f - 1, by omega⟩
    obtain ⟨a1, a2, a3, a4, a5, a6, a7, a8⟩ := hA d (by omega)
    have e : fX10_resolve_2L (f + 1) (nI d, S) = fX10_resolve_24L (fX10_resolve_2L f) zFU (nI d, nI (bs d), wA S 8 d (nI 0)) := by
      show fX10_resolve_2 (fX10_resolve_2L f) (nI d) S = _
      unfold fX10_resolve_2
      rw [hF.2.1 8 (by decide), h8, if_neg (nlN (by omega)), zck_n (by omega) (by omega), zld_n (by omega) (by omega), hF.1 6 (by decide), a1, ncl (by omega)]
    rw [e]
    rcases res_in (k2 := fX10_resolve_2L f) (a := bs d) (show d < 20 by omega) a2 (by omega) h11 hns a8 a6 a7 h8 hk h6 (hC d (by omega)) (bs (d + 1) - bs d) (bs d) zFU (wA S 8 d (nI 0)) (by omega) (by rw [zFU_s]; omega) (Nat.le_refl _) (FQ_trans hF (FQ_A _ _ _ (by decide))) hj (by rw [msum_0 M _ _ (Nat.le_refl _)]; exact updS _ _ _) with ⟨S', r1, r2, r3, r4, r5, r6, r7⟩ | ⟨i0, S', r1, r2, r3, r4, r5, r6, r7⟩
    · rw [r1]
      have hRs : ∀ d', d' < d + 1 → ∀ j, bs d' ≤ j → j < bs (d' + 1) → j < bs (d + 1) ∧ RV G X2 M S' (pd d') k (ls d') (ls (d' + 1)) ns (bs d') j := fun d' q1 j q2 q3 => by
        by_cases z : d' = d
        · subst z
          exact ⟨q3, r5 j q2 q3⟩
        · obtain ⟨w1, w2⟩ := hR d' (by omega) j q2 q3
          refine ⟨by omega, ?_⟩
          obtain ⟨y1, y2⟩ := r4 j w1
          unfold RV at w2 ⊢
          rw [y1, y2]
          exact w2
      rcases ih (d + 1) f S' (by omega) (by omega) r2 r3 (fun d' q => by
        by_cases z : d' = d
        · rw [z]; exact r6
        · rw [r7 d' z]
          show upd (zA S 8) d (nI 0) d' = _
          rw [updN _ _ z]; exact h8s d' (by omega)) hRs with ⟨S2, t1, t2, t3, t4⟩ | ⟨i0, S2, t1, t2, t3, t4, t5, t6, t7⟩
      · left
        exact ⟨S2, t1, t2, t3, t4⟩
      · right
        refine ⟨i0, S2, by omega, t2, t3, t4, fun j q1 q2 => ?_, t6, t7⟩
        by_cases z : j < bs (d + 1)
        · exact RV_8 (r5 j q1 z)
        · exact t5 j (by omega) q2
    · right
      exact ⟨i0, S', r1, by omega, r3, r4, r5, r6, r7⟩
/-- the slots of a DEFINITION -/
def ow (M : zSt) (d : Nat) : Nat → Nat
  | 0 => 0
  | s + 1 => ow M d s + if zA M 23 s = nI d then 1 else 0
theorem sl_loop {M : zSt} {k ns : Nat} {v : Nat → Nat} (hk : k ≤ 20) (hns : ns ≤ 300) (h11 : zI M 11 = nI ns) (hO : ∀ s, s < ns → ∃ d, d < k ∧ zA M 23 s = nI d) : ∀ (c s f : Nat) (S : zSt), s + c = ns → c < f → FQ [8, 9, 10] [] [] M S → (∀ d, d < k → zA S 8 d = nI (v d + ow M d s)) → ∃ S', fX10_resolve_145L f (nI s, S) = some ((), S') ∧ FQ [8] [] [] S S' ∧ ∀ d, d < k → zA S' 8 d = nI (v d + ow M d ns) := by
  intro c
  induction c with
  | zero =>
    intro s f S hs hf hF h8
    obtain ⟨f, rfl⟩ : ∃ n', f = n' + 1 := ⟨f - 1, by omega⟩
    have : s = ns := by omega
    subst this
    refine ⟨S, ?_, FQ_refl _, h8⟩
    show fX10_resolve_145 (fX10_resolve_145L f) (nI s) S = _
    unfold fX10_resolve_145
    rw [hF.2.1 11 (by decide), h11, if_pos (qle (by omega))]
  | succ c ih =>
    intro s f S hs hf hF h8
    obtain ⟨f, rfl⟩ : ∃ n', f = n' + 1 := ⟨f - 1, by omega⟩
    obtain ⟨d, d1, d2⟩ := hO s (by omega)
    have e : fX10_resolve_145L (f + 1) (nI s, S) = fX10_resolve_145L f (nI (s + 1), wA S 8 d (nI (v d + ow M d s + 1))) := by
      show fX10_resolve_145 (fX10_resolve_145L f) (nI s) S = _
      unfold fX10_resolve_145
      rw [hF.2.1 11 (by decide), h11, if_neg (nlN (by omega)), zld_n (by omega) (by omega), hF.1 23 (by decide), d2, zld_n (by omega) (by omega), h8 d d1, zck_n (by omega) (by omega), ncl (by omega), nadd, nadd]
    rw [e]
    obtain ⟨S', r1, r2, r3⟩ := ih (s + 1) f (wA S 8 d (nI (v d + ow M d s + 1))) (by omega) (by omega) (FQ_trans hF (FQ_A _ _ _ (by decide))) (fun q hq => by
      show upd (zA S 8) d _ q = nI (v q + (ow M q s + if zA M 23 s = nI q then 1 else 0))
      by_cases z : q = d
      · subst z
        rw [updS, if_pos d2]; rfl
      · rw [updN _ _ z, h8 q hq, d2, if_neg (nq (by omega))]; rfl)
    exact ⟨S', r1, FQ_trans (FQ_A _ _ _ (by decide)) r2, r3⟩
theorem mono_k {f : Nat → Nat} {k : Nat} (h : ∀ d, d < k → f d ≤ f (d + 1)) : ∀ c d, d + c ≤ k → f d ≤ f (d + c) := by
  intro c
  induction c with
  | zero => intro d _; exact Nat.le_refl _
  | succ c ih =>
    intro d hd
    have h1 := ih d (by omega)
    have h2 := h (d + c) (by omega)
    exact Nat.le_trans h1 h2
theorem find_k {f : Nat → Nat} : ∀ k n, f 0 = 0 → n < f k → ∃ d, d < k ∧ f d ≤ n ∧ n < f (d + 1) := by
  intro k
  induction k with
  | zero => intro n h0 h; omega
  | succ k ih =>
    intro n h0 h
    by_cases z : n < f k
    · obtain ⟨d, h1, h2, h3⟩ := ih n h0 z
      exact ⟨d, by omega, h2, h3⟩
    · exact ⟨k, by omega, by omega, h⟩
theorem ow_eq {M : zSt} {k d : Nat} {ss : Nat → Nat} (hk : k ≤ 20) (h0 : ss 0 = 0) (hm : ∀ d, d < k → ss d ≤ ss (d + 1)) (hO : ∀ d, d < k → ∀ s, ss d ≤ s → s < ss (d + 1) → zA M 23 s = nI d) (hd : d < k) : ∀ n, n ≤ ss k → (n ≤ ss d → ow M d n = 0) ∧ (ss d ≤ n → n ≤ ss (d + 1) → ow M d n = n - ss d) ∧ (ss (d + 1) ≤ n → ow M d n = ss (d + 1) - ss d) := by
  intro n
  induction n with
  | zero =>
    intro _
    have := hm d hd
    exact ⟨fun _ => rfl, fun _ _ => by show 0 = _; omega, fun _ => by show 0 = _; omega⟩
  | succ n ih =>
    intro hn
    obtain ⟨i1, i2, i3⟩ := ih (by omega)
    obtain ⟨d', d1, d2, d3⟩ := find_k k n h0 (by omega)
    have h23 := hO d' d1 n d2 d3
    have hmd := hm d hd
    show (n + 1 ≤ ss d → ow M d n + (if zA M 23 n = nI d then 1 else 0) = 0) ∧ (ss d ≤ n + 1 → n + 1 ≤ ss (d + 1) → ow M d n + (if zA M 23 n = nI d then 1 else 0) = n + 1 - ss d) ∧ (ss (d + 1) ≤ n + 1 → ow M d n + (if zA M 23 n = nI d then 1 else 0) = ss (d + 1) - ss d)
    by_cases z : d' = d
    · subst z
      rw [if_pos h23]
      have := i2 d2 (by omega)
      exact ⟨fun q => by omega, fun q1 q2 => by omega, fun q => by omega⟩
    · rw [h23, if_neg (nq z)]
      by_cases y : d' < d
      · obtain ⟨c, rfl⟩ : ∃ c, d = d' + 1 + c := ⟨d - (d' + 1), by omega⟩
        have := mono_k hm c (d' + 1) (by omega)
        have := i1 (by omega)
        exact ⟨fun q => by omega, fun q1 q2 => by omega, fun q => by omega⟩
      · obtain ⟨c, rfl⟩ : ∃ c, d' = d + 1 + c := ⟨d' - (d + 1), by omega⟩
        have := mono_k hm c (d + 1) (by omega)
        have := i3 (by omega)
        exact ⟨fun q => by omega, fun q1 q2 => by omega, fun q => by omega⟩
/-- weights in both -/
theorem DR_w {G : Nat → Nat × Nat × Nat} {X M : zSt} {lo nl ns : Nat} {c : Int32} {o bg i : Nat} (h : DR G X M lo nl ns c o bg i) : wt X i = mwt M i + pw X i := by
  unfold DR at h
  unfold wt mwt pw
  rcases h with ⟨h1, h2, -⟩ | ⟨h1, -, h2⟩ | ⟨p, -, -, h1, -, h2, -⟩ | ⟨h1, h2, -⟩ | ⟨h1, h2, -⟩ | ⟨n, -, -, -, h1, h3, h2, h4⟩ | ⟨l, -, -, -, h1, -, -, h2, -⟩ | ⟨l, s, -, -, -, -, -, h1, -, h2, -⟩
  · rw [h1, h2, if_pos rfl, if_pos rfl, if_neg (by decide)]
  · rw [h1, h2, if_neg (by decide), if_pos (by decide), if_neg (by decide), if_pos (by decide), if_neg (by decide)]
  · rw [h1, h2, if_neg (by decide), if_pos (by decide), if_neg (by decide), if_neg (by decide), if_pos (by decide), if_neg (by decide)]
  · rw [h1, h2, if_neg (by decide), if_neg (by decide), if_neg (by decide), if_neg (by decide), if_neg (by decide), if_neg (by decide), if_neg (by decide), if_neg (by decide)]
  · rw [h1, h2, if_neg (by decide), if_neg (by decide), if_neg (by decide), if_neg (by decide), if_neg (by decide), if_neg (by decide), if_neg (by decide), if_neg (by decide)]
  · rw [h1, h2, h3, h4, if_neg (by decide), if_neg (by decide), if_pos (by decide), if_neg (by decide), if_neg (by decide), if_neg (by decide), if_pos (by decide), if_neg (by decide)]; rfl
  · rw [h1, h2, if_neg (by decide), if_neg (by decide), if_neg (by decide), if_pos (by decide), if_neg (by decide), if_neg (by decide), if_neg (by decide), if_neg (by decide)]; omega
  · rw [h1, h2, if_neg (by decide), if_neg (by decide), if_neg (by decide), if_neg (by decide), if_neg (by decide), if_neg (by decide), if_neg (by decide), if_neg (by decide)]
theorem SEG_w {G : Nat → Nat × Nat × Nat} {X M : zSt} {a e lo nl n0 ns dd : Nat} {c : Int32} {o bg : Nat} (h : SEG G X M a e lo nl n0 ns dd c o bg) : wsum X a e + n0 = msum M a e + ns := by
  obtain ⟨h1, -, -, -, h2, -, h3, -⟩ := h
  have key : ∀ b, a ≤ b → b ≤ e → wsum X a b = msum M a b + psum X a b := by
    intro b
    induction b with
    | zero => intro q1 q2; rfl
    | succ b ih =>
      intro q1 q2
      by_cases z : a ≤ b
      · rw [wsum_s X z, msum_s M z, psum_s X z, ih z (by omega), DR_w (h2 b z (by omega))]; omega
      · rw [wsum_0 X a (b + 1) (by omega), msum_0 M a (b + 1) (by omega), psum_0 X a (b + 1) (by omega)]
  rw [key e h1 (Nat.le_refl _)]
  omega
