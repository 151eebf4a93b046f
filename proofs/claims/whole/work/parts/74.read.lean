/-! read() -/
theorem m_84T {S : zSt} {k : Nat} (h8 : zI S 8 = nI k) (hk : k ≤ 20) : ∀ (c d f : Nat), d + c = k → c < f → fX10_read_84L f (nI 1, nI d, S) = fX10_read_144 S := by
  intro c
  induction c with
  | zero =>
    intro d f hd hf
    obtain ⟨f, rfl⟩ : ∃ n', f = n' + 1 := ⟨f - 1, by omega⟩
    show fX10_read_84 (fX10_read_84L f) (nI 1) (nI d) S = _
    unfold fX10_read_84
    rw [h8, if_pos (qle (by omega)), if_neg one0]
  | succ c ih =>
    intro d f hd hf
    obtain ⟨f, rfl⟩ : ∃ n', f = n' + 1 := ⟨f - 1, by omega⟩
    show fX10_read_84 (fX10_read_84L f) (nI 1) (nI d) S = _
    unfold fX10_read_84
    rw [h8, if_neg (nl (by omega)), if_neg one0, nadd]
    exact ih (d + 1) f (by omega) (by omega)
theorem m_84Y {S : zSt} {k : Nat} (h8 : zI S 8 = nI k) (hk : k ≤ 20) : ∀ (c d f : Nat), d + c = k → c < f → (∃ m, d ≤ m ∧ m < k ∧ zB S 3 m = 1835100526 ∧ zA S 4 m = nI 0) → fX10_read_84L f (nI 0, nI d, S) = fX10_read_144 S := by
  intro c
  induction c with
  | zero =>
    intro d f hd hf h
    obtain ⟨m, h1, h2, -⟩ := h
    omega
  | succ c ih =>
    intro d f hd hf h
    obtain ⟨f, rfl⟩ : ∃ n', f = n' + 1 := ⟨f - 1, by omega⟩
    obtain ⟨m, h1, h2, h3, h4⟩ := h
    show fX10_read_84 (fX10_read_84L f) (nI 0) (nI d) S = _
    unfold fX10_read_84
    rw [h8, if_neg (nl (by omega)), if_pos zer0, zld_n (by omega) (by omega), nadd]
    have nx : d ≠ m → fX10_read_84L f (nI 0, nI (d + 1), S) = fX10_read_144 S := fun z => ih (d + 1) f (by omega) (by omega) ⟨m, by omega, h2, h3, h4⟩
    by_cases z : zB S 3 d = 1835100526
    · rw [if_pos ((lgc0 _ _).mpr z), zld_n (by omega) (by omega)]
      by_cases y : zA S 4 d = 0
      · rw [if_pos y]; exact m_84T h8 hk c (d + 1) f (by omega) (by omega)
      · rw [if_neg y]; exact nx (fun w => y (by rw [w]; exact h4))
    · rw [if_neg (fun q => z ((lgc0 _ _).mp q))]; exact nx (fun w => z (by rw [w]; exact h3))
theorem m_84N {S : zSt} {k : Nat} (h8 : zI S 8 = nI k) (hk : k ≤ 20) (hn : ∀ m, m < k → zB S 3 m = 1835100526 → ¬ zA S 4 m = 0) : ∀ (c d f : Nat), d + c = k → c < f → fX10_read_84L f (nI 0, nI d, S) = zbd (fX10_fail (nI 6) (zI S 1) S) (fun _ S10 => fX10_read_144 S10) := by
  intro c
  induction c with
  | zero =>
    intro d f hd hf
    obtain ⟨f, rfl⟩ : ∃ n', f = n' + 1 := ⟨f - 1, by omega⟩
    show fX10_read_84 (fX10_read_84L f) (nI 0) (nI d) S = _
    unfold fX10_read_84
    rw [h8, if_pos (qle (by omega)), if_pos zer0]
  | succ c ih =>
    intro d f hd hf
    obtain ⟨f, rfl⟩ : ∃ n', f = n' + 1 := ⟨f - 1, by omega⟩
    show fX10_read_84 (fX10_read_84L f) (nI 0) (nI d) S = _
    unfold fX10_read_84
    rw [h8, if_neg (nl (by omega)), if_pos zer0, zld_n (by omega) (by omega), nadd]
    by_cases z : zB S 3 d = 1835100526
    · rw [if_pos ((lgc0 _ _).mpr z), zld_n (by omega) (by omega), if_neg (hn d (by omega) z)]
      exact ih (d + 1) f (by omega) (by omega)
    · rw [if_neg (fun q => z ((lgc0 _ _).mp q))]
      exact ih (d + 1) f (by omega) (by omega)
/-- after a fault -/
theorem m_84F {S : zSt} (h6 : ¬ zI S 6 = 0) : ∀ (c d f : Nat) (x : Int32) (k : Nat), zI S 8 = nI k → k ≤ 21 → d + c = k → c < f → fX10_read_84L f (x, nI d, S) = fX10_read_144 S := by
  intro c
  induction c with
  | zero =>
    intro d f x k h8 hk hd hf
    obtain ⟨f, rfl⟩ : ∃ n', f = n' + 1 := ⟨f - 1, by omega⟩
    show fX10_read_84 (fX10_read_84L f) x (nI d) S = _
    unfold fX10_read_84 fX10_fail
    rw [h8, if_pos (qle (by omega)), if_neg h6, zbd_r]
    by_cases z : x = 0
    · rw [if_pos z]
    · rw [if_neg z]
  | succ c ih =>
    intro d f x k h8 hk hd hf
    obtain ⟨f, rfl⟩ : ∃ n', f = n' + 1 := ⟨f - 1, by omega⟩
    show fX10_read_84 (fX10_read_84L f) x (nI d) S = _
    unfold fX10_read_84
    have nx := fun x => ih (d + 1) f x k h8 hk (by omega) (by omega)
    rw [h8, if_neg (nl (by omega)), zld_n (by omega) (by omega), zld_n (by omega) (by omega), nadd, nx, nx]
    by_cases z : x = 0
    · rw [if_pos z]
      by_cases y : lg_cmp (zB S 3 d) 1835100526 = 0
      · rw [if_pos y]
        by_cases w : zA S 4 d = 0
        · rw [if_pos w]
        · rw [if_neg w]
      · rw [if_neg y]
    · rw [if_neg z]
/-- what readProgram comes to, and what the reference has when it looks for a fault -/
def PGM (k : Nat) (X M X' M' : zSt) : Prop := (∃ tl, zI M' 1 = nI tl ∧ zI X' 5 = nI tl) ∧ rX X X' ∧ rN M M' ∧ ((FL X' M') ∨ (zI X' 8 = nI 0 ∧ zI M' 6 = nI 0 ∧ PRG k X' M'))
theorem read_sim {X M : zSt} (hT : TP X M) (hW : WT X M) (h8k : True) :
    ∃ X' M' k, fX5_readProgram X = some ((), X') ∧ fX10_read M = fX10_read_144 M' ∧ PGM k X M X' M' := by
  obtain ⟨tl, t1, t2, t3, t4⟩ := hT
  have hb : ∀ i, ∃ c, i < tl → c < 256 ∧ zA X 11 i &&& nI 255 = nI c ∧ zA M 1 i = nI c := fun i => by
    by_cases z : i < tl
    · obtain ⟨c, hc⟩ := t4 i z
      exact ⟨c, fun _ => hc⟩
    · exact ⟨0, fun q => absurd q z⟩
  have hb2 := Classical.axiomOfChoice hb
  obtain ⟨b, hb⟩ := hb2
  unfold fX5_readProgram fX8_begin fX4_clear fX10_read
  rw [zbd_r]
  generalize hX0 : wI (wI (wI (wI (wI X 8 (nI 0)) 9 (nI 0)) 6 (nI 0)) 7 (nI 0)) 10 (nI 0) = X0
  generalize hM0 : wI (wI (wI (wI (wI (wI (wI (wI M 0 (nI 0)) 8 (nI 0)) 9 (nI 0)) 10 (nI 0)) 11 (nI 0)) 13 (nI 0)) 4 (nI 0)) 6 (nI 0) = M0
  have fX0 : FQ [] [6, 7, 8, 9, 10] [] X X0 := by rw [← hX0]; exact FQ_trans (FQ_trans (FQ_trans (FQ_trans (FQ_I _ _ (by decide)) (FQ_I _ _ (by decide))) (FQ_I _ _ (by decide))) (FQ_I _ _ (by decide))) (FQ_I _ _ (by decide))
  have fM0 : FQ [] [0, 4, 6, 8, 9, 10, 11, 13] [] M M0 := by rw [← hM0]; exact FQ_trans (FQ_trans (FQ_trans (FQ_trans (FQ_trans (FQ_trans (FQ_trans (FQ_I _ _ (by decide)) (FQ_I _ _ (by decide))) (FQ_I _ _ (by decide))) (FQ_I _ _ (by decide))) (FQ_I _ _ (by decide))) (FQ_I _ _ (by decide))) (FQ_I _ _ (by decide))) (FQ_I _ _ (by decide))
  have hBX : BX b tl X0 := BX_c ⟨t1, t2, fun i hi => ⟨(hb i hi).1, (hb i hi).2.1⟩⟩ fX0 (by decide) (by decide)
  have hBM : BM b tl M0 := BM_c ⟨t1, t3, fun i hi => ⟨(hb i hi).1, (hb i hi).2.2⟩⟩ fM0 (by decide) (by decide)
  obtain ⟨pl, X1, M1, r1, r2, r3, r4, r5, r6⟩ := advance_sim (a := 0) hBX hBM (by unfold WT at hW ⊢; rw [fX0.2.2 24 (by decide), fM0.2.2 2 (by decide)]; exact hW) (by rw [← hX0]; rfl) (by rw [← hM0]; rfl) (Nat.zero_le _) (by rw [← hX0]; rfl) (by rw [← hM0]; rfl)
  rw [r2, zbd_r, zbd_r, r3, zbd_r]
  have rX1 : rX X X1 := FQ_trans (FQ_mono fX0 (by decide) (by decide) (by decide)) (FQ_mono r5 (by decide) (by decide) (by decide))
  have rM1 : rN M M1 := FQ_trans (FQ_mono fM0 (by decide) (by decide) (by decide)) (FQ_mono r6 (by decide) (by decide) (by decide))
  have hRD : RD b tl 0 (fun _ => (0, 0, 0)) (fun _ => 0) (fun _ => 0) (fun _ => 0) (fun _ => 0) (fun _ => X1) (fun _ => X1) pl 0 0 0 X1 M1 := ⟨r4, by omega, ⟨by rw [r5.2.1 6 (by decide), ← hX0]; rfl, by rw [r6.2.1 8 (by decide), ← hM0]; rfl, by rw [r5.2.1 7 (by decide), ← hX0]; rfl, by rw [r6.2.1 9 (by decide), ← hM0]; rfl, by rw [r6.2.1 10 (by decide), ← hM0]; rfl, by rw [r6.2.1 11 (by decide), ← hM0]; rfl, by rw [r6.2.1 13 (by decide), ← hM0]; rfl⟩, ⟨by omega, by omega, by omega⟩, ⟨rfl, rfl, rfl, rfl, rfl, rfl⟩, fun s hs => by omega, fun d hd => by omega, fun d d' _ hd => by omega, fun d hd => by omega⟩
  -- a fault: nothing more is done
  have bad : ∀ X' M', FL X' M' → rX X X' → rN M M' → (∃ k, k ≤ 21 ∧ zI M' 8 = nI k) → ∃ X'' M'' k, some ((), X') = some ((), X'') ∧ fX10_read_69 M' = fX10_read_144 M'' ∧ PGM k X M X'' M'' := fun X' M' hf hx hm ⟨k, k1, k2⟩ => by
    refine ⟨X', M', 0, rfl, ?_, ⟨tl, by rw [hm.2.1 1 (by decide)]; exact t3, by rw [hx.2.1 5 (by decide)]; exact t2⟩, hx, hm, Or.inl hf⟩
    unfold fX10_read_69 fX10_read_80
    rw [if_neg hf.2.1]
    exact m_84F hf.2.1 k 0 zFU (nI 0) k k2 k1 (by omega) (by rw [zFU_s]; omega)
  rcases def_sim hRD with ⟨Xa, Ma, pla, nda, nla, nsa, Ga, bsa, lsa, ssa, pda, Ya, Za, -, a1, a2, a3, a4, a5⟩ | ⟨Xa, Ma, a1, a2, a3, a4, a5, qa, qa1, qa2⟩
  · rw [a1, zbd_r, a2, zbd_r]
    rcases prog_loop 19 1 zFU zFU Ga bsa lsa ssa pda Ya Za pla nda nla nsa Xa Ma (by omega) (by rw [zFU_s]; omega) (by rw [zFU_s]; omega) (by omega) a3 with ⟨X', M', k, pl', nd, nl', ns, G, bs, ls, ss, pd, Y, Z, k0, b1, b2, b3, b4, b5⟩ | ⟨X', M', b1, b2, b3, b4, b5, qb, qb1, qb2⟩
    · rw [b1, b2]
      have rXX : rX X X' := FQ_trans rX1 (FQ_trans a4 b4)
      have rMM : rN M M' := FQ_trans rM1 (FQ_trans a5 b5)
      obtain ⟨o1, o2, o3, o4, o5, o6⟩ := RD_own b3
      obtain ⟨hT0, hk, ⟨g1, g2, g3, g4, g5, g6, g7⟩, ⟨g8, g9, g10⟩, ⟨g11, g12, g13, g14, g15, g16⟩, hO, hN, hQ, hD⟩ := id b3
      have e6 : zI M' 6 = nI 0 := hT0.2.2.2.2.2.2.1
      have e8 : zI X' 8 = nI 0 := hT0.2.2.2.2.2.1
      have e1 : zI M' 1 = nI tl := hT0.2.1.2.1
      have e5 : zI X' 5 = nI tl := hT0.1.2.1
      obtain ⟨X2, c1, c2, c3⟩ := tell_def (nd := nd) (k := k) o5 hk k 0 zFU X' (by omega) (by rw [zFU_s]; omega) g3 g1
      unfold fX5_readProgram_62 fX5_checkNames fX4_tellDefinitions fX4_firstUntold
      rw [if_neg one0, c1, zbd_r]
      have x7 : zI X2 7 = nI nd := by rw [c2.2.1 7 (by decide)]; exact g3
      have x6 : zI X2 6 = nI k := by rw [c2.2.1 6 (by decide)]; exact g1
      have hC : ∀ d, d < k → ∀ j, bs d ≤ j → j < bs (d + 1) → NC G X2 M' d (pd d) k (ls d) (ls (d + 1)) ns j ∨ NN G X2 M' (bs d) (ls d) (ls (d + 1)) ns j := fun d hd j q1 q2 => by
        obtain ⟨⟨w1, w2, w3, w4⟩, w5⟩ := hD d hd
        exact cls w5 c2 c3 hN w2 w4 (by omega) (o6 d hd) q1 q2
      unfold fX10_read_69 fX10_resolve
      rw [if_pos (show zI M' 6 = 0 from e6)]
      have hbk : bs k ≤ 800 := by omega
      rcases res_out (G := G) (X2 := X2) (bs := bs) (ls := ls) (pd := pd) hk g6 (by omega) g2 e6 (fun d hd => by
        obtain ⟨⟨w1, w2, w3, w4⟩, ⟨v1, v2, v3, v4, v5, v6, v7, v8⟩, -⟩ := hD d hd
        exact ⟨v7, v8, w1, by omega, hbk, v2, v3, by omega⟩) hC k 0 zFU M' (by omega) (by rw [zFU_s]; omega) (FQ_refl _) (fun _ _ => ⟨rfl, rfl⟩) (fun d' q => by omega) (fun d' q => by omega) with ⟨S, s1, s2, s3, s4⟩ | ⟨i0, S, s1, s2, s3, s4, s5, s6, s7⟩
      · -- every NAME means something
        have hun : ∀ j, j < nd → ¬ zA X2 17 j = nI 8 := fun j hj => by
          obtain ⟨d, d1, d2, d3⟩ := find_k (f := bs) k j g14 (by omega)
          exact RV_8 (s4 d d1 j d2 d3)
        rw [s1]
        obtain ⟨S', f1, f2, f3⟩ := sl_loop (M := M') (v := fun d => msum M' (bs d) (bs (d + 1))) hk (by omega) g6 (fun s hs => by
          obtain ⟨d, d1, d2, d3⟩ := find_k (f := ss) k s g16 (by omega)
          exact ⟨d, d1, (o2 d d1 s d2 d3).1⟩) ns 0 zFU S (by omega) (by rw [zFU_s]; omega) s2 (fun d hd => by rw [s3 d hd]; rfl)
        rw [f1, zbd_r]
        have fS' : FQ [8, 9, 10] [] [] M' S' := FQ_trans s2 (FQ_mono f2 (by decide) (by decide) (by decide))
        have hR' : ∀ d', d' < k → ∀ j, bs d' ≤ j → j < bs (d' + 1) → RV G X2 M' S' (pd d') k (ls d') (ls (d' + 1)) ns (bs d') j := fun d' q1 j q2 q3 => by
          have := s4 d' q1 j q2 q3
          unfold RV at this ⊢
          rw [f2.1 9 (by decide), f2.1 10 (by decide)]
          exact this
        rw [x_untN x7 o5 hun nd 0 zFU (by omega) (by rw [zFU_s]; omega), zbd_r]
        have h8' : zI S' 8 = nI k := by rw [fS'.2.1 8 (by decide)]; exact g2
        have rXX2 : rX X X2 := FQ_trans rXX (FQ_mono c2 (by decide) (by decide) (by decide))
        have rMS : rN M S' := FQ_trans rMM (FQ_mono fS' (by decide) (by decide) (by decide))
        unfold fX10_read_80
        have h12 : ∀ d, d < k → zB X2 12 d = zB M' 3 d := fun d hd => by rw [c2.2.2 12 (by decide)]; exact hN d hd
        by_cases hm : ∃ m, m < k ∧ zB M' 3 m = 1835100526
        · obtain ⟨m, m1, m2⟩ := hm
          have huni : ∀ d, d < k → zB M' 3 d = 1835100526 → d = m := fun d hd z => by
            rcases Nat.lt_trichotomy d m with y | y | y
            · exact absurd (z.trans m2.symm) (hQ d m y m1)
            · exact y
            · exact absurd (m2.trans z.symm) (hQ m d y hd)
          obtain ⟨⟨v1, v2, v3, -⟩, -⟩ := (hD m m1).2
          rw [x_def x6 (by omega) m1 (by rw [h12 m m1]; exact m2) (fun d hd z => by
            rw [h12 d (by omega)] at z
            have := huni d (by omega) z
            omega), zbd_r, if_pos rfl, if_neg (nne (by omega) (by decide))]
          unfold fX4_parametersOf fX4_isDefinition
          rw [if_neg (nneg (by omega)), if_neg (nlN (by omega)), zbd_r, if_neg one0, zld_n (by omega) (by omega), zbd_r, c2.1 13 (by decide), v1]
          by_cases p0 : pd m = 0
          · rw [if_pos (show nI (pd m) ≤ 0 by rw [p0]; decide), zbd_r]
            refine ⟨X2, S', k, rfl, ?_, ⟨tl, by rw [fS'.2.1 1 (by decide)]; exact e1, by rw [c2.2.1 5 (by decide)]; exact e5⟩, rXX2, rMS, Or.inr ⟨by rw [c2.2.1 8 (by decide)]; exact e8, by rw [fS'.2.1 6 (by decide)]; exact e6, prg_of b3 k0 c2 c3 fS' f3 hR' ⟨m, m1, m2, by rw [v2, p0]⟩⟩⟩
            exact m_84Y h8' hk k 0 zFU (by omega) (by rw [zFU_s]; omega) ⟨m, Nat.zero_le _, m1, by rw [fS'.2.2 3 (by decide)]; exact m2, by rw [fS'.1 4 (by decide), v2, p0]⟩
          · rw [if_neg (show ¬ nI (pd m) ≤ 0 from nlN (b := 0) (by omega))]
            unfold fX5_checkNames_57 fX8_end fX7_size
            rw [zbd_r, zbd_r, x_fail, zbd_r, zbd_r, m_84N h8' hk (fun d hd z => by
              rw [fS'.2.2 3 (by decide)] at z
              rw [huni d hd z, fS'.1 4 (by decide), v2]
              exact nq (b := 0) p0) k 0 zFU (by omega) (by rw [zFU_s]; omega), m_fail (M := S') (by rw [fS'.2.1 6 (by decide)]; exact e6), zbd_r]
            exact ⟨_, _, k, rfl, rfl, ⟨tl, by show zI S' 1 = _; rw [fS'.2.1 1 (by decide)]; exact e1, by show zI X2 5 = _; rw [c2.2.1 5 (by decide)]; exact e5⟩, FQ_trans rXX2 (FQ_trans (FQ_I _ _ (by decide)) (FQ_I _ _ (by decide))), FQ_trans rMS (FQ_trans (FQ_I _ _ (by decide)) (FQ_I _ _ (by decide))), Or.inl (FL_of (by decide) (by rw [c2.2.1 5 (by decide), e5, fS'.2.1 1 (by decide), e1]))⟩
        · have hm' : ∀ d, d < k → zB M' 3 d ≠ 1835100526 := fun d hd z => hm ⟨d, hd, z⟩
          rw [x_defN x6 (by omega) (fun d hd => by rw [h12 d hd]; exact hm' d hd), zbd_r, if_pos rfl, if_pos rfl]
          unfold fX5_checkNames_57 fX8_end fX7_size
          rw [zbd_r, zbd_r, x_fail, zbd_r, zbd_r, m_84N h8' hk (fun d hd z => by
            rw [fS'.2.2 3 (by decide)] at z
            exact absurd z (hm' d hd)) k 0 zFU (by omega) (by rw [zFU_s]; omega), m_fail (M := S') (by rw [fS'.2.1 6 (by decide)]; exact e6), zbd_r]
          exact ⟨_, _, k, rfl, rfl, ⟨tl, by show zI S' 1 = _; rw [fS'.2.1 1 (by decide)]; exact e1, by show zI X2 5 = _; rw [c2.2.1 5 (by decide)]; exact e5⟩, FQ_trans rXX2 (FQ_trans (FQ_I _ _ (by decide)) (FQ_I _ _ (by decide))), FQ_trans rMS (FQ_trans (FQ_I _ _ (by decide)) (FQ_I _ _ (by decide))), Or.inl (FL_of (by decide) (by rw [c2.2.1 5 (by decide), e5, fS'.2.1 1 (by decide), e1]))⟩
      · -- a NAME that nothing tells
        have hi0 : i0 < nd := by omega
        rw [x_untY x7 o5 hi0 s3 i0 0 zFU (by omega) (by rw [zFU_s]; omega) (fun j _ q => s5 j (by rw [g14]; omega) q), zbd_r, s6, zbd_r]
        have hdef : ∃ r, fX4_definitionOf 1835100526 X2 = some (r, X2) := by
          by_cases hm : ∃ m, m < k ∧ zB X2 12 m = 1835100526
          · obtain ⟨m, m1, m2, m3⟩ := min_ex k hm
            exact ⟨_, x_def x6 (by omega) m1 m2 m3⟩
          · exact ⟨_, x_defN x6 (by omega) (fun d hd z => hm ⟨d, hd, z⟩)⟩
        obtain ⟨rr, hrr⟩ := hdef
        rw [hrr, zbd_r]
        obtain ⟨pp, pp1, pp2, pp3⟩ := s4
        have hpos : ¬ zA X2 21 i0 = (-1 : Int32) := by rw [pp2]; exact nne (by omega) (by decide)
        rw [if_neg hpos, x_fail, zbd_r, zbd_r]
        unfold fX10_read_80
        refine ⟨_, _, k, rfl, m_84F (S := wI (wI S 6 (nI 5)) 7 (zA M' 12 i0)) (show ¬ nI 5 = 0 by decide) k 0 zFU (nI 0) k (by show zI S 8 = _; rw [s7.2.1 8 (by decide)]; exact g2) (by omega) (by omega) (by rw [zFU_s]; omega), ⟨tl, by show zI S 1 = _; rw [s7.2.1 1 (by decide)]; exact e1, by show zI X2 5 = _; rw [c2.2.1 5 (by decide)]; exact e5⟩, FQ_trans rXX (FQ_trans (FQ_mono c2 (by decide) (by decide) (by decide)) (FQ_trans (FQ_I _ _ (by decide)) (FQ_I _ _ (by decide)))), FQ_trans rMM (FQ_trans (FQ_mono s7 (by decide) (by decide) (by decide)) (FQ_trans (FQ_I _ _ (by decide)) (FQ_I _ _ (by decide)))), Or.inl (FL_of (by decide) (pp2.trans pp3.symm))⟩
    · rw [b1, b2]
      exact bad X' M' b3 (FQ_trans rX1 (FQ_trans a4 b4)) (FQ_trans rM1 (FQ_trans a5 b5)) ⟨qb, by omega, qb2⟩
  · rw [a1, zbd_r, a2, zbd_r]
    have ex : fX5_readProgram_31L zFU (nI 0, nI 1, Xa) = some ((), Xa) := by
      rw [zFU_s]
      show fX5_readProgram_31 (fX5_readProgram_31L 999999) (nI 0) (nI 1) Xa = _
      unfold fX5_readProgram_31 fX5_readProgram_62
      rw [if_pos zer0, if_pos zer0]
    have em : fX10_read_48L zFU Ma = fX10_read_69 Ma := by
      rw [zFU_s]
      show fX10_read_48 (fX10_read_48L 999999) Ma = _
      unfold fX10_read_48
      rw [if_neg a3.2.1]
    rw [ex, em]
    exact bad Xa Ma a3 (FQ_trans rX1 a4) (FQ_trans rM1 a5) ⟨qa, by omega, qa2⟩
