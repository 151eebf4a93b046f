/-! sweep() and back(n) -/
theorem QS_PS {nd : Nat} {X M : zSt} {st ns : Nat} {a : Nat → Nat} (h : PS nd X M st ns a) : QS X := by
  have hsw := h.2.2.2.2.2.2.1
  have hle := h.2.2.2.2.2.2.2.1
  refine ⟨st, h.2.2.2.2.2.1, h.2.2.2.1, fun s hs => ?_⟩
  by_cases z : swp a ns s
  · obtain ⟨i, i1, i2⟩ := id z
    have := hle i i1
    exact Or.inr ⟨(hsw.2.2 s hs).1 z, by omega⟩
  · exact Or.inl ((hsw.2.2 s hs).2 z)
theorem swp_up {a : Nat → Nat} {ns st s : Nat} : swp (up a ns st) (ns + 1) s ↔ swp a ns s ∨ s = st := by
  constructor
  · rintro ⟨i, i1, i2⟩
    by_cases e : i = ns
    · rw [e, upS] at i2; exact Or.inr i2.symm
    · rw [upN a st e] at i2; exact Or.inl ⟨i, by omega, i2⟩
  · rintro (⟨i, i1, i2⟩ | e)
    · exact ⟨i, by omega, by rw [upN a st (by omega)]; exact i2⟩
    · exact ⟨ns, by omega, by rw [upS, e]⟩
theorem PS_sweep {nd : Nat} {X M : zSt} {st ns : Nat} {a : Nat → Nat} (h : PS nd X M st ns a) :
    ∃ g X' M', fX1_freeTheRest X = some (nI g, X') ∧ fX10_sweepAll M = some (nI g, M') ∧ g ≤ 400 ∧ FR [25, 26, 27, 36, 37, 38] [14, 17, 27] X X' ∧ FR [24, 35, 36] [15, 28] M M' ∧ (g = 0 → PS nd X' M' st ns a) ∧ (g ≠ 0 → PS nd (wA X' 10 st (nI 1)) (wI (wA M' 32 ns (nI st)) 25 (nI (ns + 1))) st (ns + 1) (up a ns st)) := by
  obtain ⟨h1, h2, h3, h4, h5, h6, h7, h8, h9, h10, T, C, h11, ⟨hh, hT, hs, B, b1, b2, b3, b4⟩⟩ := h
  obtain ⟨g, X', M', r1, r2, r3, r4, r5, r6, r7, r8, r9, r10⟩ := RE_sweep h1 h2
  have t1 : tX X X' := tX_FR r5 (by decide) (by decide)
  have t3 : tM M M' := tM_FR r6 (by decide) (by decide) (by decide)
  have hN := N3_sweep h3 r9 (r6.1 26 (by decide))
  refine ⟨g, X', M', r1, r2, r3, r5, r6, fun hg => ?_, fun hg => ?_⟩
  · obtain ⟨z1, z2⟩ := r10 hg
    have mA2 : ∀ k, k ∈ [24, 25, 26, 27, 28, 29, 30, 31] → zA M' k = zA M k := fun k hk => by
      by_cases e : k = 24
      · rw [e]; exact z1
      · exact r6.1 k (by simp only [List.mem_cons, List.not_mem_nil, or_false] at hk ⊢; omega)
    have mI2 : ∀ k, k ∈ [15, 16, 17, 18, 19] → zI M' k = zI M k := fun k hk => by
      by_cases e : k = 15
      · rw [e]; exact z2
      · exact r6.2.1 k (by simp only [List.mem_cons, List.not_mem_nil, or_false] at hk ⊢; omega)
    exact ⟨PRG_t t1 t3 h1, r4, hN, by rw [r5.2.1 21 (by decide)]; exact h4, by rw [r6.2.1 20 (by decide)]; exact h5, h6, SWP_a (r5.1 10 (by decide)) (r6.1 32 (by decide)) (r6.2.1 25 (by decide)) h7, h8, h9, fun _ => r7, T, C, tX_trans h11 t1, hh, hT, hs, B, b1, RE_c mA2 mI2 b2, b3, b4⟩
  · have nsw : ¬ swp a ns st := fun z => hg (r8 (h10 z))
    have eB : B = C st := by
      rcases b1 with ⟨z, -⟩ | ⟨-, z⟩
      · exact absurd z nsw
      · exact z
    rw [eB] at b2 b3 b4
    have hPC : PRG nd (C st) M := PRG_t (tX_trans (tX_symm h11) b3) (tM_refl M) h1
    obtain ⟨g', B', M'', q1, q2, q3, q4, q5, q6, q7, q8, q9, q10⟩ := RE_sweep hPC b2
    rw [r2] at q2
    have eM := (Prod.mk.inj (Option.some.inj q2)).2
    subst eM
    have tB : tX (C st) B' := tX_FR q5 (by decide) (by decide)
    have fX : FR [10] [] X' (wA X' 10 st (nI 1)) := FR_A _ _ _ (by decide)
    have fM : FR [32] [25] M' (wI (wA M' 32 ns (nI st)) 25 (nI (ns + 1))) := FR_trans (FR_A _ _ _ (by decide)) (FR_I _ _ (by decide))
    have mA2 : ∀ k, k ∈ [24, 25, 26, 27, 28, 29, 30, 31] → zA (wI (wA M' 32 ns (nI st)) 25 (nI (ns + 1))) k = zA M' k := fun k hk => fM.1 k (by simp only [List.mem_cons, List.not_mem_nil, or_false] at hk ⊢; omega)
    have mI2 : ∀ k, k ∈ [15, 16, 17, 18, 19] → zI (wI (wA M' 32 ns (nI st)) 25 (nI (ns + 1))) k = zI M' k := fun k hk => fM.2.1 k (by simp only [List.mem_cons, List.not_mem_nil, or_false] at hk ⊢; omega)
    obtain ⟨w1, w2, w3⟩ := h7
    refine ⟨PRG_t (tX_trans t1 (tX_FR fX (by decide) (by decide))) (M := M) (M' := wI (wA M' 32 ns (nI st)) 25 (nI (ns + 1))) ?_ h1, RE_c2 (fun k hk => fX.1 k (by simp only [List.mem_cons, List.not_mem_nil, or_false] at hk ⊢; omega)) (fun _ _ => rfl) mA2 mI2 r4, N3_c (fM.1 24 (by decide)) (fM.1 26 (by decide)) hN, ?_, ?_, h6, ⟨rfl, fun i hi => ?_, fun s hs' => ?_⟩, fun i hi => ?_, fun i j hij hj => ?_, fun _ => AE_c (fM.1 24 (by decide)) (fM.1 25 (by decide)) (fM.1 26 (by decide)) (fM.1 30 (by decide)) (fM.2.1 18 (by decide)) r7, T, C, tX_trans h11 (tX_trans t1 (tX_FR fX (by decide) (by decide))), ⟨hh.1, fun s hs' => ?_⟩, hT, hs, B', Or.inl ⟨swp_up.mpr (Or.inr rfl), nI g', q1⟩, RE_c mA2 mI2 q4, tX_trans b3 tB, by rw [q5.2.1 21 (by decide)]; exact b4⟩
    · exact ⟨fun k hk => (fM.1 k (by simp only [List.mem_cons, List.not_mem_nil, or_false] at hk ⊢; omega)).trans (t3.1 k hk), (fM.2.1 8 (by decide)).trans t3.2.1, (fM.2.1 11 (by decide)).trans t3.2.2.1, (fM.2.2.2 3).trans t3.2.2.2⟩
    · show zI X' 21 = _
      rw [r5.2.1 21 (by decide)]; exact h4
    · show zI M' 20 = _
      rw [r6.2.1 20 (by decide)]; exact h5
    · show upd (zA M' 32) ns (nI st) i = nI (up a ns st i)
      by_cases e : i = ns
      · rw [e, updS, upS]
      · rw [updN _ _ e, upN _ _ e, r6.1 32 (by decide)]; exact w2 i (by omega)
    · show (swp (up a ns st) (ns + 1) s → upd (zA X' 10) st (nI 1) s = nI 1) ∧ (¬ swp (up a ns st) (ns + 1) s → upd (zA X' 10) st (nI 1) s = nI 0)
      rw [swp_up, r5.1 10 (by decide)]
      by_cases e : s = st
      · rw [e, updS]
        exact ⟨fun _ => rfl, fun z => absurd (Or.inr rfl) z⟩
      · rw [updN _ _ e]
        exact ⟨fun z => (w3 s hs').1 (z.resolve_right e), fun z => (w3 s hs').2 (fun w => z (Or.inl w))⟩
    · by_cases e : i = ns
      · rw [e, upS]; exact Nat.le_refl _
      · rw [upN _ _ e]; exact h8 i (by omega)
    · by_cases e : j = ns
      · rw [e, upS, upN _ _ (by omega)]
        have h1 := h8 i (by omega)
        rcases Nat.lt_or_ge (a i) st with z | z
        · exact z
        · exact absurd ⟨i, by omega, by omega⟩ nsw
      · rw [upN _ _ e, upN _ _ (by omega)]; exact h9 i j hij (by omega)
    · obtain ⟨B2, y1, y2⟩ := hh.2 s hs'
      refine ⟨B2, ?_, y2⟩
      have e : ¬ s = st := by omega
      rcases y1 with ⟨z, w⟩ | ⟨z, w⟩
      · exact Or.inl ⟨swp_up.mpr (Or.inl z), w⟩
      · exact Or.inr ⟨fun q => z ((swp_up.mp q).resolve_right e), w⟩
theorem c_sweep {nc : Nat} {X M : zSt} (h : LV nc X M) (hnc : nc < 600) : CAL nc (fX9_sweep X) (fX10_sweep M) := by
  unfold fX9_sweep fX10_sweep
  rcases h.2.2.2.2 with ⟨a, b⟩ | hp
  · rw [if_pos (show zI X 0 = 0 from a), if_pos (show zI M 24 = 0 from b)]
    exact ⟨_, _, _, rfl, rfl, LV_0 h⟩
  · obtain ⟨h1, h2, -⟩ := hp.k
    rw [if_neg h1, if_neg h2]
    obtain ⟨p1, p2, nd, st, ns, a, p3, p4, p5, p6, p7, p8⟩ := hp
    have p3' := PS_FR (FR_refl (la := []) (li := []) X) (fr0 M) (by decide) (by decide) (by decide) (by decide) p3
    obtain ⟨g, X', M', r1, r2, r3, r4, r5, r6, r7⟩ := PS_sweep p3'
    have hst := p3.2.2.2.2.2.1
    have e21 : zI X' 21 = nI st := by rw [r4.2.1 21 (by decide)]; exact p3.2.2.2.1
    have e25 : zI M' 25 = nI ns := by rw [r5.2.1 25 (by decide)]; exact p3'.2.2.2.2.2.2.1.1
    have e20 : zI M' 20 = nI st := by rw [r5.2.1 20 (by decide)]; exact p3'.2.2.2.2.1
    unfold fX2_stepsDone
    rw [r1, r2, zbd_r, zbd_r, zbd_r, e21]
    obtain ⟨q1, q2, q3, q4, q5⟩ := h
    have frM1 : FR [24, 32, 35, 36] [0, 15, 21, 22, 25, 28] M M' := FR_trans (FR_mono (fr0 M) (by decide) (by decide)) (FR_mono r5 (by decide) (by decide))
    have frX1 : FR [10, 25, 26, 27, 36, 37, 38] [2, 3, 14, 17, 27] X X' := FR_mono r4 (by decide) (by decide)
    unfold fX9_sweep_50 fX10_sweep_47 fX9_goOn
    by_cases hg : g = 0
    · rw [if_pos (show nI g ≤ 0 from qle (b := 0) (by omega)), if_pos (show nI g ≤ 0 from qle (b := 0) (by omega)), zbd_r]
      have fx : FR [10, 25, 26, 27, 36, 37, 38] [2, 3, 14, 17, 27] X (wI (wI X' 2 (nI 0)) 3 (nI 0)) := FR_trans frX1 (FR_trans (FR_I _ _ (by decide)) (FR_I _ _ (by decide)))
      have fm : FR [24, 32, 35, 36] [0, 15, 21, 22, 25, 28] M (wI (wI M' 21 (nI 0)) 22 (nI 0)) := FR_trans frM1 (FR_trans (FR_I _ _ (by decide)) (FR_I _ _ (by decide)))
      have hps : PS nd (wI (wI X' 2 (nI 0)) 3 (nI 0)) (wI (wI M' 21 (nI 0)) 22 (nI 0)) st ns a := PS_FR (la := []) (li := [2, 3]) (la' := []) (li' := [21, 22]) (FR_trans (FR_I _ _ (by decide)) (FR_I _ _ (by decide))) (FR_trans (FR_I _ _ (by decide)) (FR_I _ _ (by decide))) (by decide) (by decide) (by decide) (by decide) (r6 hg)
      refine ⟨_, _, _, rfl, rfl, TP_FR fx fm (by decide) (by decide) (by decide) (by decide) q1, WT_FR fx fm q2, ?_, QS_PS hps, Or.inr ⟨by rw [fx.2.1 0 (by decide)]; exact p1, by rw [fm.2.1 24 (by decide)]; exact p2, nd, st, ns, a, hps, by omega, rfl, rfl, ?_, ?_⟩⟩
      · rw [fx.2.1 1 (by decide), fm.2.1 6 (by decide)]; exact q3
      · rw [fx.2.1 4 (by decide), fm.2.1 23 (by decide)]; exact p7
      · rw [fx.2.1 4 (by decide)]; exact p8
    · rw [if_neg (show ¬ nI g ≤ 0 from nl (b := 0) (by omega)), if_neg (show ¬ nI g ≤ 0 from nl (b := 0) (by omega)), if_neg (nneg (by omega)), if_neg (nl (by omega)), zck_n (by omega) (by omega), zbd_r, e25, zck_n (by omega) (by omega), ncl (by omega), ncl (by omega), nadd, e20, show vp_nar .boolean (nI 1) = nI 1 from rfl]
      have fx : FR [10, 25, 26, 27, 36, 37, 38] [2, 3, 14, 17, 27] X (wI (wI (wA X' 10 st (nI 1)) 2 (nI 0)) 3 (nI 0)) := FR_trans frX1 (FR_trans (FR_A _ _ _ (by decide)) (FR_trans (FR_I _ _ (by decide)) (FR_I _ _ (by decide))))
      have fm : FR [24, 32, 35, 36] [0, 15, 21, 22, 25, 28] M (wI (wI (wI (wA M' 32 ns (nI st)) 25 (nI (ns + 1))) 21 (nI 0)) 22 (nI 0)) := FR_trans frM1 (FR_trans (FR_A _ _ _ (by decide)) (FR_trans (FR_I _ _ (by decide)) (FR_trans (FR_I _ _ (by decide)) (FR_I _ _ (by decide)))))
      have hps : PS nd (wI (wI (wA X' 10 st (nI 1)) 2 (nI 0)) 3 (nI 0)) (wI (wI (wI (wA M' 32 ns (nI st)) 25 (nI (ns + 1))) 21 (nI 0)) 22 (nI 0)) st (ns + 1) (up a ns st) := PS_FR (la := []) (li := [2, 3]) (la' := []) (li' := [21, 22]) (FR_trans (FR_I _ _ (by decide)) (FR_I _ _ (by decide))) (FR_trans (FR_I _ _ (by decide)) (FR_I _ _ (by decide))) (by decide) (by decide) (by decide) (by decide) (r7 hg)
      refine ⟨_, _, _, rfl, rfl, TP_FR fx fm (by decide) (by decide) (by decide) (by decide) q1, WT_FR fx fm q2, ?_, QS_PS hps, Or.inr ⟨by rw [fx.2.1 0 (by decide)]; exact p1, by rw [fm.2.1 24 (by decide)]; exact p2, nd, st, ns + 1, up a ns st, hps, by omega, rfl, rfl, ?_, ?_⟩⟩
      · rw [fx.2.1 1 (by decide), fm.2.1 6 (by decide)]; exact q3
      · rw [fx.2.1 4 (by decide), fm.2.1 23 (by decide)]; exact p7
      · rw [fx.2.1 4 (by decide)]; exact p8
theorem forgetL {st : Nat} (hst : st ≤ 5000) : ∀ (m s f : Nat) (X : zSt), s + m = st + 1 → m < f → zI X 21 = nI st → ∃ X', fX9_forgetSweeps_2L f (nI s, X) = some ((), X') ∧ FR [10] [] X X' ∧ (∀ i, i < s → zA X' 10 i = zA X 10 i) ∧ (∀ i, s ≤ i → i ≤ st → zA X' 10 i = nI 0) ∧ ∀ i, st < i → zA X' 10 i = zA X 10 i := by
  intro m
  induction m with
  | zero =>
    intro s f X hs hf h21
    obtain ⟨f, rfl⟩ : ∃ n', f = n' + 1 := ⟨f - 1, by omega⟩
    refine ⟨X, ?_, FR_refl _, fun _ _ => rfl, fun i h1 h2 => by omega, fun _ _ => rfl⟩
    rw [show fX9_forgetSweeps_2L (f + 1) (nI s, X) = fX9_forgetSweeps_2 (fX9_forgetSweeps_2L f) (nI s) X from rfl]
    unfold fX9_forgetSweeps_2 fX2_stepsDone
    rw [if_neg (nneg (by omega)), zbd_r, h21, if_pos (pt (by omega))]
  | succ m ih =>
    intro s f X hs hf h21
    obtain ⟨f, rfl⟩ : ∃ n', f = n' + 1 := ⟨f - 1, by omega⟩
    obtain ⟨X', r1, r2, r3, r4, r5⟩ := ih (s + 1) f (wA X 10 s (nI 0)) (by omega) (by omega) h21
    refine ⟨X', ?_, FR_trans (FR_A _ _ _ (by decide)) r2, fun i hi => ?_, fun i h1 h2 => ?_, fun i hi => ?_⟩
    · rw [show fX9_forgetSweeps_2L (f + 1) (nI s, X) = fX9_forgetSweeps_2 (fX9_forgetSweeps_2L f) (nI s) X from rfl]
      unfold fX9_forgetSweeps_2 fX2_stepsDone
      rw [if_neg (nneg (by omega)), zbd_r, h21, if_neg (nt (by omega)), if_neg (nl (by omega)), zck_n (by omega) (by omega), ncl (by omega), nadd]
      exact r1
    · rw [r3 i (by omega)]
      exact updN _ _ (by omega)
    · by_cases e : i = s
      · rw [e, r3 s (by omega)]
        exact updS _ _ _
      · exact r4 i (by omega) h2
    · rw [r5 i hi]
      exact updN _ _ (by omega)
theorem manyL {ns due n : Nat} {a : Nat → Nat} {M : zSt} (hns : ns ≤ 600) (h25 : zI M 25 = nI ns) (h32 : ∀ i, i < ns → zA M 32 i = nI (a i)) (ha : ∀ i, i < ns → a i ≤ 5000) (hdue : due ≤ 5000) (hinc : ∀ i j, i < j → j < ns → a i < a j) : ∀ (m k f : Nat), k + m = ns → m < f → (∀ i, i < k → a i ≤ due) → ∃ k', k' ≤ ns ∧ (∀ i, i < k' → a i ≤ due) ∧ (∀ i, k' ≤ i → i < ns → due < a i) ∧ fX10_back_38L f (nI n, nI due, nI k, M) = fX10_back_62 (nI n) (nI due) (nI k') M := by
  intro m
  induction m with
  | zero =>
    intro k f hk hf hle
    obtain ⟨f, rfl⟩ : ∃ n', f = n' + 1 := ⟨f - 1, by omega⟩
    refine ⟨k, by omega, hle, fun i h1 h2 => by omega, ?_⟩
    rw [show fX10_back_38L (f + 1) (nI n, nI due, nI k, M) = fX10_back_38 (fX10_back_38L f) (nI n) (nI due) (nI k) M from rfl]
    unfold fX10_back_38
    rw [h25, if_pos (qle (by omega))]
  | succ m ih =>
    intro k f hk hf hle
    obtain ⟨f, rfl⟩ : ∃ n', f = n' + 1 := ⟨f - 1, by omega⟩
    rw [show fX10_back_38L (f + 1) (nI n, nI due, nI k, M) = fX10_back_38 (fX10_back_38L f) (nI n) (nI due) (nI k) M from rfl]
    unfold fX10_back_38
    have hk5 := ha k (by omega)
    rw [h25, if_neg (nl (by omega)), zld_n (by omega) (by omega), h32 k (by omega)]
    by_cases e : due < a k
    · rw [if_pos (pt e)]
      refine ⟨k, by omega, hle, fun i h1 h2 => ?_, rfl⟩
      by_cases z : i = k
      · rw [z]; exact e
      · have := hinc k i (by omega) h2; omega
    · rw [if_neg (nt (by omega)), nadd]
      refine ih (k + 1) f (by omega) (by omega) (fun i hi => ?_)
      by_cases z : i = k
      · rw [z]; omega
      · exact hle i (by omega)
theorem HI_pre {T : zSt} {sw sw' : Nat → Prop} {t t' : Nat} {C : Nat → zSt} (h : HI T sw t C) (ht : t' ≤ t) (hs : ∀ s, s < t' → (sw s ↔ sw' s)) : HI T sw' t' C := by
  refine ⟨h.1, fun s hs' => ?_⟩
  obtain ⟨B, b1, b2⟩ := h.2 s (by omega)
  refine ⟨B, ?_, b2⟩
  rcases b1 with ⟨z, w⟩ | ⟨z, w⟩
  · exact Or.inl ⟨(hs s hs').mp z, w⟩
  · exact Or.inr ⟨fun q => z ((hs s hs').mpr q), w⟩
theorem c_back {nc : Nat} {X M : zSt} (h : LV nc X M) (hnc : nc < 600) (v : Int32) : CAL nc (fX9_back v X) (fX10_back v M) := by
  unfold fX9_back fX10_back
  rcases h.2.2.2.2 with ⟨a, b⟩ | hp
  · rw [if_pos (show zI X 0 = 0 from a), if_pos (show zI M 24 = 0 from b)]
    exact ⟨_, _, _, rfl, rfl, LV_0 h⟩
  · obtain ⟨h1, h2, -⟩ := hp.k
    rw [if_neg h1, if_neg h2]
    obtain ⟨p1, p2, nd, st, ns, a, p3, p4, p5, p6, p7, p8⟩ := hp
    have hst := p3.2.2.2.2.2.1
    have e21 := p3.2.2.2.1
    have e20 := p3.2.2.2.2.1
    unfold fX2_stepsDone fX9_goOn
    rw [zbd_r, e21, e20, m_in, zbd_r, zbd_r]
    by_cases v0 : v < 0
    · have hin : ¬ (nI 0 ≤ v ∧ v ≤ nI st) := fun z => (ilt _ _).mp v0 z.1
      rw [if_pos v0, if_neg hin, if_pos nI_0]
      exact ⟨_, _, _, rfl, rfl, LV_0 h⟩
    · rw [if_neg v0]
      have v0' : nI 0 ≤ v := Decidable.byContradiction (fun z => v0 ((ilt _ _).mpr z))
      rcases i3 v (st + 1) (by omega) with q | ⟨-, q⟩ | ⟨n, n1, n2⟩
      · exact absurd q v0
      · -- more than were done
        have hin : ¬ (nI 0 ≤ v ∧ v ≤ nI st) := fun z => by
          have hz := z.2
          rw [Int32.le_iff_toInt_le, nI_toInt (by omega)] at hz
          rw [Int32.le_iff_toInt_le, nI_toInt (by omega)] at q
          omega
        have hneg : ¬ 0 ≤ nI st - v := fun z => by
          rw [Int32.le_iff_toInt_le] at z q v0'
          rw [nI_toInt (by omega)] at q v0'
          rw [Int32.toInt_sub] at z
          have e2 : (0 : Int32).toInt = 0 := by decide
          have e3 : (nI st).toInt = st := nI_toInt (by omega)
          have hv := Int32.toInt_lt v
          rw [e2, e3, Int.bmod_eq_of_le (by omega) (by omega)] at z
          omega
        rw [if_neg hneg, if_neg hin, if_pos nI_0]
        exact ⟨_, _, _, rfl, rfl, LV_0 h⟩
      · have hin : nI 0 ≤ v ∧ v ≤ nI st := by rw [n2]; exact ⟨qle (by omega), qle (by omega)⟩
        rw [if_pos hin, if_neg (show ¬ nI 1 = 0 by decide), n2, nsub (by omega), if_pos (show (0 : Int32) ≤ nI (st - n) from qle (a := 0) (by omega)), show zI (wI M 0 (nI 0)) 20 = nI st from e20, nsub (by omega)]
        have pM0 := PS_FR (FR_refl (la := []) (li := []) X) (fr0 M) (by decide) (by decide) (by decide) (by decide) p3
        obtain ⟨a1, a2, a3, a4, a5, a6, ⟨w1, w2, w3⟩, a8, a9, a10, T, C, a11, ⟨hh, hT, hs, B, b1, b2, b3, b4⟩⟩ := pM0
        obtain ⟨q1, q2, q3, q4, q5⟩ := h
        obtain ⟨k', k1, k2, k3, k4⟩ := manyL (n := n) (due := st - n) (M := wI M 0 (nI 0)) (by omega) w1 w2 (fun i hi => by have := a8 i hi; omega) (by omega) a9 ns 0 zFU (by omega) (by rw [zFU_s]; omega) (fun i hi => absurd hi (Nat.not_lt_zero _))
        rw [k4]
        unfold fX10_back_62 fX10_back_157
        by_cases n0 : n = 0
        · -- nothing to take back
          rw [n0, if_pos nI_0, if_pos (show nI 0 ≤ 0 by decide), Nat.sub_zero, show zI (wI M 0 (nI 0)) 20 = nI st from e20]
          have fx : FR [] [2, 3] X (wI (wI X 2 (nI 0)) 3 (nI 0)) := FR_trans (FR_I _ _ (by decide)) (FR_I _ _ (by decide))
          have fm : FR [] [0, 21, 22] M (wI (wI (wI M 0 (nI 0)) 21 (nI 0)) 22 (nI 0)) := FR_trans (FR_I _ _ (by decide)) (FR_trans (FR_I _ _ (by decide)) (FR_I _ _ (by decide)))
          exact ⟨_, _, _, rfl, rfl, TP_FR fx fm (by decide) (by decide) (by decide) (by decide) q1, WT_FR fx fm q2, q3, QS_FR fx (by decide) (by decide) q4, Or.inr ⟨p1, p2, nd, st, ns, a, PS_FR fx fm (by decide) (by decide) (by decide) (by decide) p3, by omega, rfl, rfl, p7, p8⟩⟩
        · have hn0 : ¬ nI n = 0 := nq (b := 0) n0
          rw [if_neg hn0, if_neg (show ¬ nI n ≤ 0 from nl (b := 0) (by omega)), nadd]
          -- the class forgets
          obtain ⟨X1, x1, x2, x3, x4, x5⟩ := forgetL hst (st - (st - n)) (st - n + 1) zFU (wI (wI X 2 (nI 0)) 3 (nI 0)) (by omega) (by rw [zFU_s]; omega) e21
          unfold fX9_forgetSweeps
          rw [x1, zbd_r]
          have fx1 : FR [10] [2, 3] X X1 := FR_trans (FR_trans (FR_I _ _ (by decide)) (FR_I _ _ (by decide))) (FR_mono x2 (by decide) (by decide))
          have tX1 : tX X X1 := tX_FR fx1 (by decide) (by decide)
          have hP1 : PRG nd X1 (wI M 0 (nI 0)) := PRG_t tX1 (tM_refl _) a1
          obtain ⟨X2, M2, y1, y2, y3, y4, y5, y6, y7, y8, y9⟩ := begin_sim hP1
          rw [y1, y2, zbd_r, zbd_r]
          have tX2 : tX X1 X2 := tX_FR y4 (by decide) (by decide)
          have fM3 : FR [24, 25, 26, 27, 28, 29, 30, 31, 33, 34] [0, 15, 16, 17, 18, 19, 20, 21, 22, 25, 26, 27] M (wI M2 25 (nI k')) := FR_trans (FR_mono (fr0 M) (by decide) (by decide)) (FR_trans (FR_mono (la := [24, 25, 26, 27, 28, 29, 30, 31, 33, 34]) (li := [15, 16, 17, 18, 19, 20, 21, 22, 26, 27]) y5 (by decide) (by decide)) (FR_I _ _ (by decide)))
          have tM3 : tM (wI M 0 (nI 0)) (wI M2 25 (nI k')) := tM_FR (la := [24, 25, 26, 27, 28, 29, 30, 31, 33, 34]) (li := [15, 16, 17, 18, 19, 20, 21, 22, 25, 26, 27]) (FR_trans (FR_mono (la := [24, 25, 26, 27, 28, 29, 30, 31, 33, 34]) (li := [15, 16, 17, 18, 19, 20, 21, 22, 26, 27]) y5 (by decide) (by decide)) (FR_I _ _ (by decide))) (by decide) (by decide) (by decide)
          -- where the life began
          obtain ⟨⟨X0, z1, z2⟩, hh2⟩ := hh
          have hP0 : PRG nd X0 (wI M 0 (nI 0)) := PRG_t (tX_trans (tX_symm a11) z1) (tM_refl _) a1
          obtain ⟨C0, M2', u1, u2, u3, u4, u5, u6, u7, u8, u9⟩ := begin_sim hP0
          rw [y2] at u2
          have eM := (Prod.mk.inj (Option.some.inj u2)).2
          subst eM
          rw [z2] at u1
          have eC := (Prod.mk.inj (Option.some.inj u1)).2
          subst eC
          have hsw : ∀ s, swp a k' s ↔ swp a ns s ∧ s ≤ st - n := fun s => by
            constructor
            · rintro ⟨i, i1, i2⟩
              exact ⟨⟨i, by omega, i2⟩, by have := k2 i i1; omega⟩
            · rintro ⟨⟨i, i1, i2⟩, i3⟩
              refine ⟨i, ?_, i2⟩
              rcases Nat.lt_or_ge i k' with z | z
              · exact z
              · have := k3 i z i1; omega
          have hHI : HI T (swp a k') (st - n) C := HI_pre (t := st) (sw := swp a ns) ⟨⟨X0, z1, z2⟩, hh2⟩ (by omega) (fun s hs' => by rw [hsw]; exact ⟨fun z => ⟨z, by omega⟩, fun z => z.1⟩)
          have hN2 : N3 M2 := by
            have hN : ∀ n', n' < 400 → zA M2 24 n' ≠ nI 7 → zA M2 26 n' = -3 := fun n' hn' h7 => by
              obtain ⟨M', v1, v2, v3, v4⟩ : ∃ M', fX10_begin (wI M 0 (nI 0)) = some ((), M') ∧ bM M' nd ∧ True ∧ True := by
                obtain ⟨c1, c2, c3, c4, c5, ⟨m, m1, m2, m3, m4⟩, c7⟩ := hP1
                obtain ⟨M1, d1, d2, d3⟩ := m_begin2 400 0 zFU (wI M 0 (nI 0)) (by omega) (by rw [zFU_s]; omega) (fun n hn => absurd hn (Nat.not_lt_zero _))
                obtain ⟨M1', d4, d5, d6⟩ := m_begin40 20 0 zFU M1 (by omega) (by rw [zFU_s]; omega) (fun d hd => absurd hd (Nat.not_lt_zero _))
                have d3' : bM M1' 0 := by
                  unfold bM at d3 ⊢
                  rw [d5.1 24 (by decide), d5.1 25 (by decide), d5.1 26 (by decide), d5.1 27 (by decide), d5.2.1 15 (by decide), d5.2.1 16 (by decide), d5.2.1 17 (by decide)]
                  exact d3
                have e3 : zB M1' 3 = zB (wI M 0 (nI 0)) 3 := (d5.2.2.2 3).trans (d2.2.2.2 3)
                obtain ⟨M', f1, f2, f3, f4⟩ := m_begin70 c2.1 m1 nd 0 zFU M1' (by omega) (by have := c2.1; rw [zFU_s]; omega) (by rw [d5.2.1 8 (by decide), d2.2.1 8 (by decide)]; exact c4) (by rw [e3]; exact m2) (by rw [e3]; exact m4) d3'
                rw [if_neg (Nat.not_lt_zero _)] at f1
                exact ⟨M', by unfold fX10_begin; rw [d1, d4]; exact f1, f3, trivial, trivial⟩
              rw [y2] at v1
              have eM' := (Prod.mk.inj (Option.some.inj v1)).2
              subst eM'
              rcases Nat.lt_or_ge n' nd with z | z
              · exact (v2.2.1 n' z).2.2.1
              · exact absurd (v2.1 n' hn' z) h7
            intro n' hn'
            by_cases z : zA M2 24 n' = nI 7
            · exact Or.inl z
            · exact Or.inr (Or.inr (Or.inr (hN n' hn' z)))
          have fM25 : FR [] [25] M2 (wI M2 25 (nI k')) := FR_I _ _ (by decide)
          have mA2 : ∀ k, k ∈ [24, 25, 26, 27, 28, 29, 30, 31] → zA (wI M2 25 (nI k')) k = zA M2 k := fun _ _ => rfl
          have mI2 : ∀ k, k ∈ [15, 16, 17, 18, 19] → zI (wI M2 25 (nI k')) k = zI M2 k := fun k hk => fM25.2.1 k (by simp only [List.mem_cons, List.not_mem_nil, or_false] at hk ⊢; omega)
          have hSW : SWP X2 (wI M2 25 (nI k')) k' a := by
            refine ⟨rfl, fun i hi => ?_, fun s hs' => ?_⟩
            · show zA M2 32 i = _
              rw [y5.1 32 (by decide)]
              exact w2 i (by omega)
            · rw [y4.1 10 (by decide), hsw]
              have hx10 : zA (wI (wI X 2 (nI 0)) 3 (nI 0)) 10 = zA X 10 := rfl
              by_cases g1 : s ≤ st - n
              · rw [x3 s (by omega), hx10]
                exact ⟨fun z => (w3 s hs').1 z.1, fun z => (w3 s hs').2 (fun w => z ⟨w, g1⟩)⟩
              · refine ⟨fun z => absurd z.2 g1, fun _ => ?_⟩
                by_cases g2 : s ≤ st
                · exact x4 s (by omega) g2
                · rw [x5 s (by omega), hx10]
                  refine (w3 s hs').2 (fun w => ?_)
                  obtain ⟨i, i1, i2⟩ := w
                  have := a8 i i1
                  omega
          have tT1 : tX T X2 := tX_trans a11 (tX_trans tX1 tX2)
          have tC0 : tX T (C 0) := tX_trans z1 (tX_FR u4 (by decide) (by decide))
          obtain ⟨X', M', r1, r2, r3, r4, r5, r6, r7, r8, r9, r10, r11, r12, r13⟩ := replay (nd := nd) (due := st - n) (ns := k') (T := T) (C := C) (a := a) hHI (fun i j h1 h2 => a9 i j h1 (by omega)) (by omega) (by omega) (st - n) 0 0 zFU zFU X2 (wI M2 25 (nI k')) (by omega) (by rw [zFU_s]; omega) (by rw [zFU_s]; omega) (Nat.zero_le _) (fun i hi => absurd hi (Nat.not_lt_zero _)) (fun i _ _ => Nat.zero_le _) k2 (PRG_t (tX_trans tX1 tX2) tM3 a1) (RE_c mA2 mI2 ⟨nd, 1, 1, fun _ => 0, y3⟩) (RE_c mA2 mI2 ⟨nd, 1, 1, fun _ => 0, u3⟩) tT1 tC0 (N3_I hN2) y6 u6 y7 hSW
          rw [r1, r2]
          have fx : FR [10, 25, 26, 27, 28, 29, 30, 31, 32, 33, 34, 35, 36, 37, 38] [2, 3, 14, 15, 16, 17, 18, 19, 20, 21, 22, 23, 24, 25, 26, 27] X X' := FR_trans (FR_mono fx1 (by decide) (by decide)) (FR_trans (FR_mono (la := [25, 26, 27, 28, 29, 30, 31, 32, 33, 34, 35]) (li := [14, 15, 16, 17, 18, 19, 20, 21, 22, 23, 24, 25, 26]) y4 (by decide) (by decide)) (FR_mono r12 (by decide) (by decide)))
          have fm : FR [24, 25, 26, 27, 28, 29, 30, 31, 33, 34, 35, 36] [0, 15, 16, 17, 18, 19, 20, 21, 22, 25, 26, 27, 28] M (wI (wI M' 21 (nI 0)) 22 (nI 0)) := FR_trans (FR_mono fM3 (by decide) (by decide)) (FR_trans (FR_mono r13 (by decide) (by decide)) (FR_trans (FR_I _ _ (by decide)) (FR_I _ _ (by decide))))
          have hps : PS nd X' M' (st - n) k' a := ⟨r3, r4, r5, r6, r7, by omega, r8, k2, fun i j h1 h2 => a9 i j h1 (by omega), r9, T, C, r10, r11⟩
          have hps2 : PS nd X' (wI (wI M' 21 (nI 0)) 22 (nI 0)) (st - n) k' a := PS_FR (FR_refl (la := []) (li := []) X') (la' := []) (li' := [21, 22]) (FR_trans (FR_I _ _ (by decide)) (FR_I _ _ (by decide))) (by decide) (by decide) (by decide) (by decide) hps
          have f23 : FR [25, 26, 27, 28, 29, 30, 31, 32, 33, 34, 35, 36, 37, 38] [14, 15, 16, 17, 18, 19, 20, 21, 22, 23, 24, 25, 26, 27] X1 X' := FR_trans (FR_mono (la := [25, 26, 27, 28, 29, 30, 31, 32, 33, 34, 35]) (li := [14, 15, 16, 17, 18, 19, 20, 21, 22, 23, 24, 25, 26]) y4 (by decide) (by decide)) r12
          refine ⟨_, _, _, rfl, rfl, TP_FR fx fm (by decide) (by decide) (by decide) (by decide) q1, WT_FR fx fm q2, ?_, QS_PS hps2, Or.inr ⟨by rw [fx.2.1 0 (by decide)]; exact p1, by rw [fm.2.1 24 (by decide)]; exact p2, nd, st - n, k', a, hps2, by omega, ?_, ?_, ?_, ?_⟩⟩
          · rw [fx.2.1 1 (by decide), fm.2.1 6 (by decide)]; exact q3
          · rw [f23.2.1 2 (by decide), x2.2.1 2 (by decide)]; rfl
          · rw [f23.2.1 3 (by decide), x2.2.1 3 (by decide)]; rfl
          · rw [fx.2.1 4 (by decide), fm.2.1 23 (by decide)]; exact p7
          · rw [fx.2.1 4 (by decide)]; exact p8
