/-! read(): all DEFINITIONS, then what the NAMES mean -/
theorem prog_loop {b : Nat → Nat} {tl : Nat} : ∀ (mm k fx fm : Nat) (G : Nat → Nat × Nat × Nat) (bs ls ss pd : Nat → Nat) (Y Z : Nat → zSt) (pl nd nl ns : Nat) (X M : zSt), k + mm = 20 → mm + 1 < fx → mm + 1 < fm → 0 < k → RD b tl k G bs ls ss pd Y Z pl nd nl ns X M →
    (∃ (X' M' : zSt) (k' pl' nd' nl' ns' : Nat) (G' : Nat → Nat × Nat × Nat) (bs' ls' ss' pd' : Nat → Nat) (Y' Z' : Nat → zSt), 0 < k' ∧ fX5_readProgram_31L fx (nI 1, nI k, X) = fX5_readProgram_62 (nI 1) X' ∧ fX10_read_48L fm M = fX10_read_69 M' ∧ RD b tl k' G' bs' ls' ss' pd' Y' Z' pl' nd' nl' ns' X' M' ∧ rX X X' ∧ rN M M')
    ∨ ∃ X' M', fX5_readProgram_31L fx (nI 1, nI k, X) = some ((), X') ∧ fX10_read_48L fm M = fX10_read_69 M' ∧ FL X' M' ∧ rX X X' ∧ rN M M' ∧ ∃ q, q ≤ 20 ∧ zI M' 8 = nI q := by
  intro mm
  induction mm with
  | zero =>
    intro k fx fm G bs ls ss pd Y Z pl nd nl ns X M hk hfx hfm hk0 h
    obtain ⟨fx, rfl⟩ : ∃ n', fx = n' + 1 + 1 := ⟨fx - 2, by omega⟩
    obtain ⟨fm, rfl⟩ : ∃ n', fm = n' + 1 + 1 := ⟨fm - 2, by omega⟩
    obtain ⟨x, m, k1, k2, k3, -⟩ := TK_kp h.1
    unfold KP at k3
    have e6 : zI M 6 = nI 0 := h.1.2.2.2.2.2.2.1
    have ex : fX5_readProgram_31L (fx + 1 + 1) (nI 1, nI k, X) = fX5_readProgram_31 (fX5_readProgram_31L (fx + 1)) (nI 1) (nI k) X := rfl
    have em : fX10_read_48L (fm + 1 + 1) M = fX10_read_48 (fX10_read_48L (fm + 1)) M := rfl
    rw [ex, em]
    unfold fX5_readProgram_31 fX8_kind fX10_read_48
    rw [if_neg one0, if_neg (nt (by omega)), zbd_r, k1, if_pos (show zI M 6 = 0 from e6), k2]
    by_cases hx : x = 0
    · have hm : m = 0 := by omega
      rw [if_pos (show nI x = 0 by rw [hx]; rfl), if_pos (show nI m = 0 by rw [hm]; rfl)]
      left
      exact ⟨X, M, k, pl, nd, nl, ns, G, bs, ls, ss, pd, Y, Z, hk0, rfl, rfl, h, FQ_refl _, FQ_refl _⟩
    · rw [if_neg (show ¬ nI x = 0 from nq (b := 0) hx), if_neg (show ¬ nI m = 0 from nq (b := 0) (by omega))]
      rcases def_sim h with ⟨X', M', pl', nd', nl', ns', G', bs', ls', ss', pd', Y', Z', r0, -⟩ | ⟨X', M', r1, r2, r3, r4, r5, r6⟩
      · omega
      · rw [r1, zbd_r, r2, zbd_r]
        right
        refine ⟨X', M', ?_, ?_, r3, r4, r5, r6⟩
        · show fX5_readProgram_31 (fX5_readProgram_31L fx) (nI 0) (nI k + nI 1) X' = _
          unfold fX5_readProgram_31 fX5_readProgram_62
          rw [if_pos zer0, if_pos zer0]
        · show fX10_read_48 (fX10_read_48L fm) M' = _
          unfold fX10_read_48
          rw [if_neg r3.2.1]
  | succ mm ih =>
    intro k fx fm G bs ls ss pd Y Z pl nd nl ns X M hk hfx hfm hk0 h
    obtain ⟨fx, rfl⟩ : ∃ n', fx = n' + 1 + 1 := ⟨fx - 2, by omega⟩
    obtain ⟨fm, rfl⟩ : ∃ n', fm = n' + 1 + 1 := ⟨fm - 2, by omega⟩
    obtain ⟨x, m, k1, k2, k3, -⟩ := TK_kp h.1
    unfold KP at k3
    have e6 : zI M 6 = nI 0 := h.1.2.2.2.2.2.2.1
    have ex : fX5_readProgram_31L (fx + 1 + 1) (nI 1, nI k, X) = fX5_readProgram_31 (fX5_readProgram_31L (fx + 1)) (nI 1) (nI k) X := rfl
    have em : fX10_read_48L (fm + 1 + 1) M = fX10_read_48 (fX10_read_48L (fm + 1)) M := rfl
    rw [ex, em]
    unfold fX5_readProgram_31 fX8_kind fX10_read_48
    rw [if_neg one0, if_neg (nt (by omega)), zbd_r, k1, if_pos (show zI M 6 = 0 from e6), k2]
    by_cases hx : x = 0
    · have hm : m = 0 := by omega
      rw [if_pos (show nI x = 0 by rw [hx]; rfl), if_pos (show nI m = 0 by rw [hm]; rfl)]
      left
      exact ⟨X, M, k, pl, nd, nl, ns, G, bs, ls, ss, pd, Y, Z, hk0, rfl, rfl, h, FQ_refl _, FQ_refl _⟩
    · rw [if_neg (show ¬ nI x = 0 from nq (b := 0) hx), if_neg (show ¬ nI m = 0 from nq (b := 0) (by omega))]
      rcases def_sim h with ⟨X', M', pl', nd', nl', ns', G', bs', ls', ss', pd', Y', Z', r0, r1, r2, r3, r4, r5⟩ | ⟨X', M', r1, r2, r3, r4, r5, r6⟩
      · rw [r1, zbd_r, r2, zbd_r, nadd]
        rcases ih (k + 1) (fx + 1) (fm + 1) G' bs' ls' ss' pd' Y' Z' pl' nd' nl' ns' X' M' (by omega) (by omega) (by omega) (by omega) r3 with ⟨X2, M2, k2', a1, a2, a3, a4, a5, a6, a7, a8, a9, a10, a11, a12, a13, a14, a15, a16, a17⟩ | ⟨X2, M2, q1, q2, q3, q4, q5, q6⟩
        · left
          exact ⟨X2, M2, k2', a1, a2, a3, a4, a5, a6, a7, a8, a9, a10, a11, a12, a13, a14, a15, FQ_trans r4 a16, FQ_trans r5 a17⟩
        · right
          exact ⟨X2, M2, q1, q2, q3, FQ_trans r4 q4, FQ_trans r5 q5, q6⟩
      · rw [r1, zbd_r, r2, zbd_r]
        right
        refine ⟨X', M', ?_, ?_, r3, r4, r5, r6⟩
        · show fX5_readProgram_31 (fX5_readProgram_31L fx) (nI 0) (nI k + nI 1) X' = _
          unfold fX5_readProgram_31 fX5_readProgram_62
          rw [if_pos zer0, if_pos zer0]
        · show fX10_read_48 (fX10_read_48L fm) M' = _
          unfold fX10_read_48
          rw [if_neg r3.2.1]
theorem tell_def {nd k : Nat} (hnd : nd ≤ 800) (hk : k ≤ 20) : ∀ (c j f : Nat) (X : zSt), j + c = k → c < f → zI X 7 = nI nd → zI X 6 = nI k → ∃ X', fX4_tellDefinitions_2L f (nI j, X) = some ((), X') ∧ FQ [17, 18] [] [] X X' ∧ TB X X' 0 nd (fun j => zB X 12 j) 0 j k (nI 2) := by
  intro c
  induction c with
  | zero =>
    intro j f X hj hf h7 h6
    obtain ⟨f, rfl⟩ : ∃ n', f = n' + 1 := ⟨f - 1, by omega⟩
    have : j = k := by omega
    subst this
    refine ⟨X, ?_, FQ_refl _, TB_nil _ _ _ _ _ _ _⟩
    show fX4_tellDefinitions_2 (fX4_tellDefinitions_2L f) (nI j) X = _
    unfold fX4_tellDefinitions_2
    rw [h6, if_pos (qle (by omega))]
  | succ c ih =>
    intro j f X hj hf h7 h6
    obtain ⟨f, rfl⟩ : ∃ n', f = n' + 1 := ⟨f - 1, by omega⟩
    obtain ⟨X1, r1, r2, r3, r4⟩ := x_tell (a := 0) (nm := zB X 12 j) (dk := nI 2) (v := nI j) hnd (Nat.zero_le _) h7
    obtain ⟨X', q1, q2, q4⟩ := ih (j + 1) f X1 (by omega) (by omega) (by rw [r2.2.1 7 (by decide)]; exact h7) (by rw [r2.2.1 6 (by decide)]; exact h6)
    refine ⟨X', ?_, FQ_trans r2 q2, ?_⟩
    · show fX4_tellDefinitions_2 (fX4_tellDefinitions_2L f) (nI j) X = _
      unfold fX4_tellDefinitions_2
      rw [h6, if_neg (nl (by omega)), if_neg (nl (by omega)), zld_n (by omega) (by omega), r1, zbd_r, nadd]
      exact q1
    · rw [r2.2.2 12 (by decide)] at q4
      exact TB_step (by decide) (by omega) (r2.2.2 20 (by decide)) (by rw [show 0 + j = j by omega]; exact r4) q4
theorem x_untY {X : zSt} {nd i0 : Nat} (h7 : zI X 7 = nI nd) (hnd : nd ≤ 800) (hi : i0 < nd) (he : zA X 17 i0 = nI 8) : ∀ (c i f : Nat), i + c = i0 → c < f → (∀ j, i ≤ j → j < i0 → ¬ zA X 17 j = nI 8) → fX4_firstUntold_2L f (nI i, X) = some (zA X 21 i0, X) := by
  intro c
  induction c with
  | zero =>
    intro i f hi' hf _
    obtain ⟨f, rfl⟩ : ∃ n', f = n' + 1 := ⟨f - 1, by omega⟩
    have : i = i0 := by omega
    subst this
    show fX4_firstUntold_2 (fX4_firstUntold_2L f) (nI i) X = _
    unfold fX4_firstUntold_2
    rw [h7, if_neg (nl (by omega)), if_neg (nl (by omega)), zld_n (by omega) (by omega), if_pos he, zld_n (by omega) (by omega)]
  | succ c ih =>
    intro i f hi' hf hn
    obtain ⟨f, rfl⟩ : ∃ n', f = n' + 1 := ⟨f - 1, by omega⟩
    show fX4_firstUntold_2 (fX4_firstUntold_2L f) (nI i) X = _
    unfold fX4_firstUntold_2
    rw [h7, if_neg (nl (by omega)), if_neg (nl (by omega)), zld_n (by omega) (by omega), if_neg (hn i (Nat.le_refl _) (by omega)), nadd]
    exact ih (i + 1) f (by omega) (by omega) (fun j h1 h2 => hn j (by omega) h2)
theorem x_untN {X : zSt} {nd : Nat} (h7 : zI X 7 = nI nd) (hnd : nd ≤ 800) (hn : ∀ j, j < nd → ¬ zA X 17 j = nI 8) : ∀ (c i f : Nat), i + c = nd → c < f → fX4_firstUntold_2L f (nI i, X) = some (-1, X) := by
  intro c
  induction c with
  | zero =>
    intro i f hi' hf
    obtain ⟨f, rfl⟩ : ∃ n', f = n' + 1 := ⟨f - 1, by omega⟩
    show fX4_firstUntold_2 (fX4_firstUntold_2L f) (nI i) X = _
    unfold fX4_firstUntold_2
    rw [h7, if_pos (qle (by omega))]
  | succ c ih =>
    intro i f hi' hf
    obtain ⟨f, rfl⟩ : ∃ n', f = n' + 1 := ⟨f - 1, by omega⟩
    show fX4_firstUntold_2 (fX4_firstUntold_2L f) (nI i) X = _
    unfold fX4_firstUntold_2
    rw [h7, if_neg (nl (by omega)), if_neg (nl (by omega)), zld_n (by omega) (by omega), if_neg (hn i (by omega)), nadd]
    exact ih (i + 1) f (by omega) (by omega)
/-- find, of the reference -/
theorem m_14N {k7 : Int32 × Int32 × Int32 × zSt → Option (Int32 × zSt)} {S : zSt} {d : Int32} {i l ns : Nat} (h11 : zI S 11 = nI ns) (hns : ns ≤ 300) (hl : l < 300) (hi : i < 1700) (hn : ∀ s, s < ns → zA S 22 s = nI l → zB S 16 s ≠ zB S 11 i) : ∀ (c s f : Nat), s + c = ns → c < f → fX10_find_14L k7 f (d, nI i, nI l, nI s, S) = k7 (d, nI i, zA S 14 l, S) := by
  intro c
  induction c with
  | zero =>
    intro s f hs hf
    obtain ⟨f, rfl⟩ : ∃ n', f = n' + 1 := ⟨f - 1, by omega⟩
    show fX10_find_14 k7 (fX10_find_14L k7 f) d (nI i) (nI l) (nI s) S = _
    unfold fX10_find_14
    rw [h11, if_pos (qle (by omega)), zld_n hl (by omega)]
  | succ c ih =>
    intro s f hs hf
    obtain ⟨f, rfl⟩ : ∃ n', f = n' + 1 := ⟨f - 1, by omega⟩
    show fX10_find_14 k7 (fX10_find_14L k7 f) d (nI i) (nI l) (nI s) S = _
    unfold fX10_find_14
    rw [h11, if_neg (nl (by omega)), zld_n (by omega) (by omega), nadd]
    by_cases z : zA S 22 s = nI l
    · rw [if_pos z, zld_n (by omega) (by omega), zld_n hi (by omega), if_neg (fun q => hn s (by omega) z ((lgc0 _ _).mp q))]
      exact ih (s + 1) f (by omega) (by omega)
    · rw [if_neg z]
      exact ih (s + 1) f (by omega) (by omega)
theorem m_14Y {k7 : Int32 × Int32 × Int32 × zSt → Option (Int32 × zSt)} {S : zSt} {d : Int32} {i l ns s0 : Nat} (h11 : zI S 11 = nI ns) (hns : ns ≤ 300) (hi : i < 1700) (hs0 : s0 < ns) (ho : zA S 22 s0 = nI l) (he : zB S 16 s0 = zB S 11 i) (hn : ∀ s, s < s0 → zA S 22 s = nI l → zB S 16 s ≠ zB S 11 i) : ∀ (c s f : Nat), s + c = s0 → c < f → fX10_find_14L k7 f (d, nI i, nI l, nI s, S) = some (nI 1, wA (wA S 9 i (nI 7)) 10 i (nI s0)) := by
  intro c
  induction c with
  | zero =>
    intro s f hs hf
    obtain ⟨f, rfl⟩ : ∃ n', f = n' + 1 := ⟨f - 1, by omega⟩
    have : s = s0 := by omega
    subst this
    show fX10_find_14 k7 (fX10_find_14L k7 f) d (nI i) (nI l) (nI s) S = _
    unfold fX10_find_14
    rw [h11, if_neg (nl (by omega)), zld_n (by omega) (by omega), if_pos ho, zld_n (by omega) (by omega), zld_n hi (by omega), if_pos ((lgc0 _ _).mpr he), zck_n hi (by omega), zck_n hi (by omega), ncl (by omega)]
  | succ c ih =>
    intro s f hs hf
    obtain ⟨f, rfl⟩ : ∃ n', f = n' + 1 := ⟨f - 1, by omega⟩
    show fX10_find_14 k7 (fX10_find_14L k7 f) d (nI i) (nI l) (nI s) S = _
    unfold fX10_find_14
    rw [h11, if_neg (nl (by omega)), zld_n (by omega) (by omega), nadd]
    by_cases z : zA S 22 s = nI l
    · rw [if_pos z, zld_n (by omega) (by omega), zld_n hi (by omega), if_neg (fun q => hn s (by omega) z ((lgc0 _ _).mp q))]
      exact ih (s + 1) f (by omega) (by omega)
    · rw [if_neg z]
      exact ih (s + 1) f (by omega) (by omega)
theorem m_chain {S : zSt} {d : Int32} {i lo nl ns : Nat} (h11 : zI S 11 = nI ns) (hns : ns ≤ 300) (hnl : nl ≤ 300) (hi : i < 1700) : ∀ (kk f : Nat) (c c' : Int32), CH S lo nl ns (zB S 11 i) kk c c' → fX10_find_7L (f + kk) (d, nI i, c, S) = fX10_find_7L f (d, nI i, c', S) := by
  intro kk
  induction kk with
  | zero => intro f c c' h; rw [show c = c' from h]; rfl
  | succ kk ih =>
    intro f c c' h
    obtain ⟨l, h1, h2, h3, h4, h5⟩ := h
    have e : fX10_find_7L (f + (kk + 1)) (d, nI i, c, S) = fX10_find_7 (fX10_find_7L (f + kk)) d (nI i) c S := rfl
    rw [e]
    unfold fX10_find_7
    rw [h3, if_neg (nneg (by omega)), m_14N h11 hns (by omega) hi h4 ns 0 zFU (by omega) (by rw [zFU_s]; omega)]
    exact ih f _ _ h5
theorem m_find_let {S : zSt} {d : Int32} {i lo nl ns kk l s0 : Nat} (h11 : zI S 11 = nI ns) (hns : ns ≤ 300) (hnl : nl ≤ 300) (hi : i < 1700) (hk : kk ≤ 12) (hl : l < nl) (hC : CH S lo nl ns (zB S 11 i) kk (zA S 13 i) (nI l)) (hs0 : s0 < ns) (ho : zA S 22 s0 = nI l) (he : zB S 16 s0 = zB S 11 i) (hn : ∀ s, s < s0 → zA S 22 s = nI l → zB S 16 s ≠ zB S 11 i) : fX10_find d (nI i) S = some (nI 1, wA (wA S 9 i (nI 7)) 10 i (nI s0)) := by
  unfold fX10_find
  obtain ⟨n, hn'⟩ : ∃ n, zFU = n + 1 + kk := ⟨zFU - 1 - kk, by rw [zFU_s]; omega⟩
  rw [zld_n hi (by omega)]
  have e := m_chain (d := d) h11 hns hnl hi kk (n + 1) _ _ hC
  rw [← hn'] at e
  rw [e]
  show fX10_find_7 (fX10_find_7L n) d (nI i) (nI l) S = _
  unfold fX10_find_7
  rw [if_neg (nneg (by omega))]
  exact m_14Y h11 hns hi hs0 ho he hn s0 0 zFU (by omega) (by rw [zFU_s]; omega)
theorem m_87N {S : zSt} {d i pd : Nat} (hd : d < 20) (h4 : zA S 4 d = nI pd) (hpd : pd ≤ 8) (hi : i < 1700) (hn : ∀ p, p < pd → zB S 5 (8 * d + p) ≠ zB S 11 i) : ∀ (c p f : Nat), p + c = pd → c < f → fX10_find_87L f (nI d, nI i, nI p, S) = fX10_find_145L zFU (nI i, nI 0, S) := by
  intro c
  induction c with
  | zero =>
    intro p f hp hf
    obtain ⟨f, rfl⟩ : ∃ n', f = n' + 1 := ⟨f - 1, by omega⟩
    show fX10_find_87 (fX10_find_87L f) (nI d) (nI i) (nI p) S = _
    unfold fX10_find_87
    rw [zld_n (by omega) (by omega), h4, if_pos (qle (by omega))]
  | succ c ih =>
    intro p f hp hf
    obtain ⟨f, rfl⟩ : ∃ n', f = n' + 1 := ⟨f - 1, by omega⟩
    show fX10_find_87 (fX10_find_87L f) (nI d) (nI i) (nI p) S = _
    unfold fX10_find_87
    rw [zld_n (by omega) (by omega), h4, if_neg (nl (by omega)), k8 ⟨d, by omega⟩, nadd, zld_n (by omega) (by omega), zld_n hi (by omega), if_neg (fun q => hn p (by omega) ((lgc0 _ _).mp q)), nadd]
    exact ih (p + 1) f (by omega) (by omega)
theorem m_87Y {S : zSt} {d i pd p0 : Nat} (hd : d < 20) (h4 : zA S 4 d = nI pd) (hpd : pd ≤ 8) (hi : i < 1700) (hp0 : p0 < pd) (he : zB S 5 (8 * d + p0) = zB S 11 i) (hn : ∀ p, p < p0 → zB S 5 (8 * d + p) ≠ zB S 11 i) : ∀ (c p f : Nat), p + c = p0 → c < f → fX10_find_87L f (nI d, nI i, nI p, S) = some (nI 1, wA (wA S 9 i (nI 6)) 10 i (nI (p0 + 1))) := by
  intro c
  induction c with
  | zero =>
    intro p f hp hf
    obtain ⟨f, rfl⟩ : ∃ n', f = n' + 1 := ⟨f - 1, by omega⟩
    have : p = p0 := by omega
    subst this
    show fX10_find_87 (fX10_find_87L f) (nI d) (nI i) (nI p) S = _
    unfold fX10_find_87
    rw [zld_n (by omega) (by omega), h4, if_neg (nl (by omega)), k8 ⟨d, by omega⟩, nadd, zld_n (by omega) (by omega), zld_n hi (by omega), if_pos ((lgc0 _ _).mpr he), zck_n hi (by omega), zck_n hi (by omega), ncl (by omega), nadd]
  | succ c ih =>
    intro p f hp hf
    obtain ⟨f, rfl⟩ : ∃ n', f = n' + 1 := ⟨f - 1, by omega⟩
    show fX10_find_87 (fX10_find_87L f) (nI d) (nI i) (nI p) S = _
    unfold fX10_find_87
    rw [zld_n (by omega) (by omega), h4, if_neg (nl (by omega)), k8 ⟨d, by omega⟩, nadd, zld_n (by omega) (by omega), zld_n hi (by omega), if_neg (fun q => hn p (by omega) ((lgc0 _ _).mp q)), nadd]
    exact ih (p + 1) f (by omega) (by omega)
theorem m_145N {S : zSt} {i k : Nat} (h8 : zI S 8 = nI k) (hk : k ≤ 20) (hi : i < 1700) (hn : ∀ e, e < k → zB S 3 e ≠ zB S 11 i) : ∀ (c e f : Nat), e + c = k → c < f → fX10_find_145L f (nI i, nI e, S) = some (nI 0, S) := by
  intro c
  induction c with
  | zero =>
    intro e f he hf
    obtain ⟨f, rfl⟩ : ∃ n', f = n' + 1 := ⟨f - 1, by omega⟩
    show fX10_find_145 (fX10_find_145L f) (nI i) (nI e) S = _
    unfold fX10_find_145
    rw [h8, if_pos (qle (by omega))]
  | succ c ih =>
    intro e f he hf
    obtain ⟨f, rfl⟩ : ∃ n', f = n' + 1 := ⟨f - 1, by omega⟩
    show fX10_find_145 (fX10_find_145L f) (nI i) (nI e) S = _
    unfold fX10_find_145
    rw [h8, if_neg (nl (by omega)), zld_n (by omega) (by omega), zld_n hi (by omega), if_neg (fun q => hn e (by omega) ((lgc0 _ _).mp q)), nadd]
    exact ih (e + 1) f (by omega) (by omega)
theorem m_145Y {S : zSt} {i k e0 : Nat} (h8 : zI S 8 = nI k) (hk : k ≤ 20) (hi : i < 1700) (he0 : e0 < k) (hq : zB S 3 e0 = zB S 11 i) (hn : ∀ e, e < e0 → zB S 3 e ≠ zB S 11 i) : ∀ (c e f : Nat), e + c = e0 → c < f → fX10_find_145L f (nI i, nI e, S) = some (nI 1, wA (wA S 9 i (nI 5)) 10 i (nI e0)) := by
  intro c
  induction c with
  | zero =>
    intro e f he hf
    obtain ⟨f, rfl⟩ : ∃ n', f = n' + 1 := ⟨f - 1, by omega⟩
    have : e = e0 := by omega
    subst this
    show fX10_find_145 (fX10_find_145L f) (nI i) (nI e) S = _
    unfold fX10_find_145
    rw [h8, if_neg (nl (by omega)), zld_n (by omega) (by omega), zld_n hi (by omega), if_pos ((lgc0 _ _).mpr hq), zck_n hi (by omega), zck_n hi (by omega), ncl (by omega)]
  | succ c ih =>
    intro e f he hf
    obtain ⟨f, rfl⟩ : ∃ n', f = n' + 1 := ⟨f - 1, by omega⟩
    show fX10_find_145 (fX10_find_145L f) (nI i) (nI e) S = _
    unfold fX10_find_145
    rw [h8, if_neg (nl (by omega)), zld_n (by omega) (by omega), zld_n hi (by omega), if_neg (fun q => hn e (by omega) ((lgc0 _ _).mp q)), nadd]
    exact ih (e + 1) f (by omega) (by omega)
theorem m_find_up {S : zSt} {d i lo nl ns kk : Nat} (h11 : zI S 11 = nI ns) (hns : ns ≤ 300) (hnl : nl ≤ 300) (hi : i < 1700) (hk : kk ≤ 12) (hC : CH S lo nl ns (zB S 11 i) kk (zA S 13 i) (-1)) : fX10_find (nI d) (nI i) S = fX10_find_87L zFU (nI d, nI i, nI 0, S) := by
  unfold fX10_find
  obtain ⟨n, hn'⟩ : ∃ n, zFU = n + 1 + kk := ⟨zFU - 1 - kk, by rw [zFU_s]; omega⟩
  rw [zld_n hi (by omega)]
  have e := m_chain (d := nI d) h11 hns hnl hi kk (n + 1) _ _ hC
  rw [← hn'] at e
  rw [e]
  show fX10_find_7 (fX10_find_7L n) (nI d) (nI i) (-1) S = _
  unfold fX10_find_7
  rw [if_pos (by decide)]
