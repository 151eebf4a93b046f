theorem fol_c {M M' : zSt} (h4 : zA M' 24 = zA M 24) (h5 : zA M' 25 = zA M 25) : ∀ j n, folF M' j n = folF M j n := by
  intro j
  induction j with
  | zero => intro n; rfl
  | succ j ih => intro n; unfold folF; rw [h4, h5, ih]
theorem vl_c {M M' : zSt} (h4 : zA M' 24 = zA M 24) (h5 : zA M' 25 = zA M 25) (hp : zA M' 4 = zA M 4) : ∀ f k t, vlF M' f k t = vlF M f k t := by
  have ht : ∀ k t, tst M' k t = tst M k t := by intro k t; unfold tst; rw [h4, h5, hp]
  intro f
  induction f with
  | zero => intro k t; unfold vlF; rw [h4, ht]
  | succ f ih =>
    intro k t
    unfold vlF
    rw [h4, ht, h5]
    have e : fol M' (zA M 25 k).toNatClampNeg = fol M (zA M 25 k).toNatClampNeg := fol_c h4 h5 401 _
    rw [e]
    cases fol M (zA M 25 k).toNatClampNeg with
    | none => rfl
    | some r => dsimp only; rw [ih]
theorem low_c {M M' : zSt} {bs : Nat → Nat} (h : zA M' 30 = zA M 30) : ∀ c j v, lowR M' bs c j v = lowR M bs c j v := by
  intro c
  induction c with
  | zero => intro j v; rfl
  | succ c ih => intro j v; unfold lowR; rw [h, ih]
theorem mL_id (M : zSt) (n e : Int32) : zA (mL M n e) = zA M ∧ zI (mL M n e) 27 = e ∧ zI (mL M n e) 26 = n := ⟨rfl, rfl, rfl⟩
theorem m_iterL {nd : Nat} {X M : zSt} {pl sk p many k n : Nat} {bs : Nat → Nat} {v : Int32} (hW : Wg nd M) (hp : Pp nd X M) (h : MS M pl sk bs) (hp1 : p < 13) (hp7 : p ≠ 7) (hp8 : p ≠ 8) (hk : k ≤ many) (hm : many ≤ 2) (hh : k < pl - bs (sk - 1)) (hA : zA M 24 (en M (pl - 1 - k)) = nI 1) :
    fX10_lookPrimitive_22L (n + 1) (nI p, nI many, nI k, mL M v 0) = match fol M (tn M pl k) with
      | none => some (nI 7, mL M v (nI 5))
      | some r => if vl M r then (if srt p (zA M 24 r) then fX10_lookPrimitive_22L n (nI p, nI many, nI (k + 1), mL M v 0) else some (nI 7, mL M v (nI 2)))
        else if lowR M bs sk 0 (nI r) then some (nI 7, mL M (nI r) (nI 5)) else some (nI 3, mL M (nI r) 0) := by
  have e := m_iter (M := mL M v 0) (X := X) (n := n) (k := k) (many := many) hW hp h hp1 hp7 hp8 hk hm hh hA rfl
  rw [e]
  have e1 : fol (mL M v 0) (tn (mL M v 0) pl k) = fol M (tn M pl k) := fol_c (M := M) (M' := mL M v 0) rfl rfl 401 _
  rw [e1]
  cases fol M (tn M pl k) with
  | none => dsimp only; rw [mL_e]
  | some r =>
    dsimp only
    rw [show vl (mL M v 0) r = vl M r from vl_c (M := M) (M' := mL M v 0) rfl rfl rfl 9 r 0, low_c (M := M) (M' := mL M v 0) rfl, mL_e, mL_e, mL_n, mL_n]
    rfl
theorem m_finL {nd : Nat} {M : zSt} {pl sk p n r1 r2 : Nat} {bs : Nat → Nat} {v : Int32} (hW : Wg nd M) (h : MS M pl sk bs) (hp : p < 13) (many : Nat) (hm : many ≤ 2)
    (h1 : (p = 9 ∨ p = 10) → 1 < pl - bs (sk - 1) ∧ zA M 24 (en M (pl - 1 - 1)) = nI 1 ∧ fol M (tn M pl 1) = some r1) (h2 : p = 3 → 2 < pl - bs (sk - 1) ∧ zA M 24 (en M (pl - 1 - 2)) = nI 1 ∧ fol M (tn M pl 2) = some r2) :
    fX10_lookPrimitive_22L (n + 1) (nI p, nI many, nI (many + 1), mL M v 0) = some (if p = 3 ∧ zA M 25 r2 = 0 then (nI 7, mL M v (nI 3)) else if (p = 9 ∨ p = 10) ∧ zA M 24 r1 = nI 5 then (nI 7, mL M v (nI 4)) else (nI 4, mL M v 0)) := by
  have e := m_fin (M := mL M v 0) (n := n) (r1 := r1) (r2 := r2) hW h hp rfl many hm (fun q => ⟨(h1 q).1, (h1 q).2.1, (fol_c (M := M) (M' := mL M v 0) rfl rfl 401 _).trans (h1 q).2.2⟩) (fun q => ⟨(h2 q).1, (h2 q).2.1, (fol_c (M := M) (M' := mL M v 0) rfl rfl 401 _).trans (h2 q).2.2⟩)
  rw [e, mL_e, mL_e]
  rfl
theorem prim_sim {nd : Nat} {X M : zSt} {pl sk p : Nat} {bs : Nat → Nat} {n0 f0 s0 : Int32} (hW : Wg nd M) (hR : Rg X M) (hp : Pp nd X M) (h : MS M pl sk bs) (hS : Rs X M pl sk) (hp1 : p < 13) (hp8 : p ≠ 8) (hw : wnt p < pl - bs (sk - 1)) (hA : ∀ i, bs (sk - 1) ≤ i → i + 1 < pl → zA M 24 (en M i) = nI 1)
    (k3 : zA M 24 (en M (pl - 1)) = nI 3) (kp : zA M 25 (en M (pl - 1)) = nI p) :
    ∃ c e n nM f s, fX2_lookAtThings (nI p) (xL X 0 n0 f0 s0) = some (nI c, xL X e n f s) ∧ fX10_lookPrimitive (nI p) (mL M (-1) 0) = some (nI c, mL M nM e) ∧ c < 8 ∧ LK nd M pl sk bs c e n nM f s := by
  have hml := mny_le p hp1 hp8
  have hA1 : ∀ k, 1 ≤ k → k ≤ wnt p → k < pl - bs (sk - 1) ∧ zA M 24 (en M (pl - 1 - k)) = nI 1 := fun k h1 h2 => ⟨by omega, hA _ (by omega) (by omega)⟩
  unfold fX2_lookAtThings
  rw [x_wants hp1, zbd_r, mny_wants p hp1 hp8]
  unfold fX10_lookPrimitive
  by_cases h7 : p = 7
  · subst h7
    rw [if_pos rfl]
    refine ⟨4, 0, n0, -1, f0, s0, ?_, rfl, by omega, ?_⟩
    · rw [zFU_s]
      show fX2_lookAtThings_7 (fX2_lookAtThings_7L 999999) (nI 7) (nI 0) (nI 1) (xL X 0 n0 f0 s0) = _
      unfold fX2_lookAtThings_7
      rw [if_pos (by decide), x_fin (X := xL X 0 n0 f0 s0) (M := M) (r1 := 0) (r2 := 0) hR (by omega) (by omega) (by omega), zbd_r]
      rfl
    · exact Or.inr (Or.inr (Or.inr (Or.inr (Or.inl ⟨rfl, rfl, 7, k3, kp, by omega, by omega, hw, fun q => absurd q (by decide), fun q => absurd q (by decide)⟩))))
  · rw [if_neg (nq h7)]
    have hm2 : mny p ≤ 2 := by unfold mny; split <;> (try split) <;> omega
    have hm1 : 1 ≤ mny p := by unfold mny; rw [if_neg h7]; split <;> omega
    have hM : (if nI 6 ≤ nI p then fX10_lookPrimitive_22L zFU (nI p, nI 1, nI 1, mL M (-1) 0) else fX10_lookPrimitive_22L zFU (nI p, nI 2, nI 1, mL M (-1) 0)) = fX10_lookPrimitive_22L zFU (nI p, nI (mny p), nI 1, mL M (-1) 0) := by
      unfold mny
      by_cases h6 : p < 6
      · rw [if_neg (nl (by omega)), if_pos h6]
      · rw [if_pos (qle (by omega)), if_neg h6, if_neg h7]
    rw [hM, zFU_s]
    obtain ⟨a1, a2⟩ := hA1 1 (by omega) (by have := wnt_pos p; omega)
    rw [x_iter (X := xL X 0 n0 f0 s0) (n := 999999) hW hR hp h hS hp1 h7 hp8 hm1 hm2 a1 a2, m_iterL (n := 999999) hW hp h hp1 h7 hp8 hm1 hm2 a1 a2]
    cases hf : fol M (tn M pl 1) with
    | none => exact ⟨7, nI 5, n0, -1, f0, s0, by dsimp only; rw [xL_e], rfl, by omega, Or.inr (Or.inr (Or.inr (Or.inr (Or.inr (Or.inr (Or.inr rfl))))))⟩
    | some r1 =>
      have he := h.ent (i := pl - 1 - 1) (by omega)
      have ht := (hW.p1 he.1 a2).2.lt
      have hr1 := fol_live hW ht.1 ht.2.2 hf
      dsimp only
      cases hv : vl M r1 with
      | false =>
        rw [if_neg Bool.false_ne_true, if_neg Bool.false_ne_true, xL_n, xL_e]
        cases hlo : lowR M bs sk 0 (nI r1) with
        | true => exact ⟨7, nI 5, nI r1, nI r1, f0, s0, rfl, rfl, by omega, Or.inr (Or.inr (Or.inr (Or.inr (Or.inr (Or.inr (Or.inr rfl))))))⟩
        | false => exact ⟨3, 0, nI r1, nI r1, f0, s0, rfl, rfl, by omega, Or.inr (Or.inr (Or.inr (Or.inl ⟨rfl, rfl, p, 1, r1, k3, kp, hp1, hp8, hw, by omega, hm1, hf, hv, rfl, rfl⟩)))⟩
      | true =>
        rw [if_pos (show true = true from rfl), if_pos (show true = true from rfl)]
        cases hs : srt p (zA M 24 r1) with
        | false => exact ⟨7, nI 2, n0, -1, f0, s0, by rw [if_neg Bool.false_ne_true, xL_e], by rw [if_neg Bool.false_ne_true], by omega, Or.inr (Or.inr (Or.inr (Or.inr (Or.inr (Or.inr (Or.inr rfl))))))⟩
        | true =>
          rw [if_pos (show true = true from rfl), if_pos (show true = true from rfl), if_pos (show 1 = 1 from rfl), xL_f]
          by_cases h6 : p < 6
          · have hmp : mny p = 2 := by unfold mny; rw [if_pos h6]
            obtain ⟨b1, b2⟩ := hA1 2 (by omega) (by omega)
            rw [hmp, x_iter (X := xL X 0 n0 (nI r1) s0) (n := 999998) hW hR hp h hS hp1 h7 hp8 (by omega) (by omega) b1 b2, m_iterL (n := 999998) hW hp h hp1 h7 hp8 (by omega) (by omega) b1 b2]
            cases hf2 : fol M (tn M pl 2) with
            | none => exact ⟨7, nI 5, n0, -1, nI r1, s0, by dsimp only; rw [xL_e], rfl, by omega, Or.inr (Or.inr (Or.inr (Or.inr (Or.inr (Or.inr (Or.inr rfl))))))⟩
            | some r2 =>
              have he2 := h.ent (i := pl - 1 - 2) (by omega)
              have ht2 := (hW.p1 he2.1 b2).2.lt
              have hr2 := fol_live hW ht2.1 ht2.2.2 hf2
              dsimp only
              cases hv2 : vl M r2 with
              | false =>
                rw [if_neg Bool.false_ne_true, if_neg Bool.false_ne_true, xL_n, xL_e]
                cases hlo : lowR M bs sk 0 (nI r2) with
                | true => exact ⟨7, nI 5, nI r2, nI r2, nI r1, s0, rfl, rfl, by omega, Or.inr (Or.inr (Or.inr (Or.inr (Or.inr (Or.inr (Or.inr rfl))))))⟩
                | false => exact ⟨3, 0, nI r2, nI r2, nI r1, s0, rfl, rfl, by omega, Or.inr (Or.inr (Or.inr (Or.inl ⟨rfl, rfl, p, 2, r2, k3, kp, hp1, hp8, hw, by omega, by omega, hf2, hv2, rfl, rfl⟩)))⟩
              | true =>
                rw [if_pos (show true = true from rfl), if_pos (show true = true from rfl)]
                cases hs2 : srt p (zA M 24 r2) with
                | false => exact ⟨7, nI 2, n0, -1, nI r1, s0, by rw [if_neg Bool.false_ne_true, xL_e], by rw [if_neg Bool.false_ne_true], by omega, Or.inr (Or.inr (Or.inr (Or.inr (Or.inr (Or.inr (Or.inr rfl))))))⟩
                | true =>
                  rw [if_pos (show true = true from rfl), if_pos (show true = true from rfl), if_neg (show ¬ 2 = 1 by omega), xL_s, m_finL (n := 999997) (r1 := r1) (r2 := r2) hW h hp1 2 (by omega) (fun q => absurd q (by omega)) (fun q => ⟨b1, b2, hf2⟩)]
                  have ex : fX2_lookAtThings_7L 999998 (nI p, nI 2, nI (2 + 1), xL X 0 n0 (nI r1) (nI r2)) = zbd (fX2_lookAtValues (nI p) (xL X 0 n0 (nI r1) (nI r2))) (fun r3 S4 => some (r3, S4)) := by
                    show fX2_lookAtThings_7 (fX2_lookAtThings_7L 999997) (nI p) (nI 2) (nI 3) _ = _
                    unfold fX2_lookAtThings_7
                    rw [if_pos (by decide)]
                  rw [ex, x_fin (X := xL X 0 n0 (nI r1) (nI r2)) (M := M) (r1 := r1) (r2 := r2) hR hp1 (fun q => absurd q (by omega)) (fun q => ⟨rfl, hr2.1, hr2.2.1⟩)]
                  by_cases q3 : p = 3 ∧ zA M 25 r2 = 0
                  · rw [if_pos q3, if_pos q3, xL_e, zbd_r]
                    exact ⟨7, nI 3, n0, -1, nI r1, nI r2, rfl, rfl, by omega, Or.inr (Or.inr (Or.inr (Or.inr (Or.inr (Or.inr (Or.inr rfl))))))⟩
                  · have n9 : ¬ ((p = 9 ∨ p = 10) ∧ zA M 24 r1 = nI 5) := fun z => by omega
                    rw [if_neg q3, if_neg q3, if_neg n9, if_neg n9, zbd_r]
                    exact ⟨4, 0, n0, -1, nI r1, nI r2, rfl, rfl, by omega, Or.inr (Or.inr (Or.inr (Or.inr (Or.inl ⟨rfl, rfl, p, k3, kp, hp1, hp8, hw, fun _ => ⟨r1, hf, hv, hs, rfl, fun q => absurd q (by omega)⟩, fun _ => ⟨r2, hf2, hv2, hs2, rfl, fun q z => q3 ⟨q, z⟩⟩⟩))))⟩
          · have hmp : mny p = 1 := by unfold mny; rw [if_neg h6, if_neg h7]
            rw [hmp, m_finL (n := 999998) (r1 := r1) (r2 := 0) hW h hp1 1 (by omega) (fun q => ⟨a1, a2, hf⟩) (fun q => absurd q (by omega))]
            have ex : fX2_lookAtThings_7L 999999 (nI p, nI 1, nI (1 + 1), xL X 0 n0 (nI r1) s0) = zbd (fX2_lookAtValues (nI p) (xL X 0 n0 (nI r1) s0)) (fun r3 S4 => some (r3, S4)) := by
              show fX2_lookAtThings_7 (fX2_lookAtThings_7L 999998) (nI p) (nI 1) (nI 2) _ = _
              unfold fX2_lookAtThings_7
              rw [if_pos (by decide)]
            rw [ex, x_fin (X := xL X 0 n0 (nI r1) s0) (M := M) (r1 := r1) (r2 := 0) hR hp1 (fun q => ⟨rfl, hr1.1, hr1.2.1⟩) (fun q => absurd q (by omega))]
            have n3 : ¬ (p = 3 ∧ zA M 25 0 = 0) := fun z => by omega
            rw [if_neg n3, if_neg n3]
            by_cases q5 : (p = 9 ∨ p = 10) ∧ zA M 24 r1 = nI 5
            · rw [if_pos q5, if_pos q5, xL_e, zbd_r]
              exact ⟨7, nI 4, n0, -1, nI r1, s0, rfl, rfl, by omega, Or.inr (Or.inr (Or.inr (Or.inr (Or.inr (Or.inr (Or.inr rfl))))))⟩
            · rw [if_neg q5, if_neg q5, zbd_r]
              exact ⟨4, 0, n0, -1, nI r1, s0, rfl, rfl, by omega, Or.inr (Or.inr (Or.inr (Or.inr (Or.inl ⟨rfl, rfl, p, k3, kp, hp1, hp8, hw, fun _ => ⟨r1, hf, hv, hs, rfl, fun q z => q5 ⟨q, z⟩⟩, fun q => absurd q (by omega)⟩))))⟩
theorem look_sim {nd : Nat} {X M : zSt} {pl sk : Nat} {bs : Nat → Nat} (hW : Wg nd M) (hR : Rg X M) (hp : Pp nd X M) (h : MS M pl sk bs) (hS : Rs X M pl sk) (hA : ∀ i, bs (sk - 1) ≤ i → i + 1 < pl → zA M 24 (en M i) = nI 1) :
    ∃ c e n nM f s, fX2_look X = some (nI c, xL X e n f s) ∧ fX10_look M = some (nI c, mL M nM e) ∧ c < 8 ∧ LK nd M pl sk bs c e n nM f s := by
  have h0 := h.skle
  have hb := h.2.2.2.2.2.2.2.1
  have hsk := h.2.2.1
  have hpl := h.2.2.2.1
  have ht := h.ent (i := pl - 1) (by omega)
  have hr := hR.live ht.1 ht.2.2
  have ex : fX2_look X = zbd (some (zA X 25 (en M (pl - 1)), wI X 22 (nI 0))) (fun r7 S8 =>
      if r7 = (nI 1) then some ((nI 1), S8)
      else if r7 = (nI 2) then zbd (fX4_parametersOf (zA X 26 (en M (pl - 1))) S8) (fun r9 S10 => if (nI (pl - bs (sk - 1)) - (nI 1)) < r9 then zbd (fX2_valueOnTop S10) (fun r11 S12 => some (r11, S12)) else some ((nI 2), S10))
      else if r7 = (nI 3) then zbd (fX2_needsOf (zA X 26 (en M (pl - 1))) S8) (fun r13 S14 => if (nI (pl - bs (sk - 1)) - (nI 1)) < r13 then zbd (fX2_valueOnTop S14) (fun r15 S16 => some (r15, S16)) else zbd (fX2_lookAtThings (zA X 26 (en M (pl - 1))) S14) (fun r17 S18 => some (r17, S18)))
      else if r7 = (nI 6) then some ((nI 0), S8)
      else if (nI (pl - bs (sk - 1)) - (nI 1)) = 0 then zbd (fX2_valueOnTop S8) (fun r29 S30 => some (r29, S30)) else zbd (fX2_failing (nI 1) S8) (fun r27 S28 => some (r27, S28))) := by
    unfold fX2_look
    rw [x_fromTop (X := wI X 22 (nI 0)) (k := 0) (h.xs hS) (by omega), zbd_r, show zA (wI X 22 (nI 0)) 29 = zA X 29 from rfl, hS.2.2.1 _ (by omega), show pl - 1 - 0 = pl - 1 from rfl, ht.2.1, x_first ht.1, zbd_r, x_height (X := wI X 22 (nI 0)) (h.xs hS), zbd_r, x_kind ht.1]
    rfl
  have em : fX10_look M = zld 400 (nI (en M (pl - 1))) (zA M 24) (fun v5 => 
      if v5 = (nI 1) then some ((nI 1), mL M (-1) 0)
      else if v5 = (nI 2) then zld 400 (nI (en M (pl - 1))) (zA M 25) (fun v6 => zld 21 v6 (zA M 4) (fun v7 => if (nI (pl - bs (sk - 1)) - (nI 1)) < v7 then (if (zI M 19) ≤ (nI 1) then some ((nI 6), mL M (-1) 0) else some ((nI 5), mL M (-1) 0)) else some ((nI 2), mL M (-1) 0)))
      else if v5 = (nI 3) then zld 400 (nI (en M (pl - 1))) (zA M 25) (fun v8 => zbd (fX10_wants v8 (mL M (-1) 0)) (fun r9 S10 => if (nI (pl - bs (sk - 1)) - (nI 1)) < r9 then (if (zI S10 19) ≤ (nI 1) then some ((nI 6), S10) else some ((nI 5), S10)) else zld 400 (nI (en M (pl - 1))) (zA S10 25) (fun v11 => zbd (fX10_lookPrimitive v11 S10) (fun r12 S13 => some (r12, S13)))))
      else if v5 = (nI 6) then some ((nI 0), mL M (-1) 0)
      else if (nI (pl - bs (sk - 1)) - (nI 1)) ≤ 0 then (if (zI M 19) ≤ (nI 1) then some ((nI 6), mL M (-1) 0) else some ((nI 5), mL M (-1) 0)) else some ((nI 7), wI (mL M (-1) 0) 27 (nI 1))) := by
    unfold fX10_look
    rw [m_topNode h, zbd_r, m_size h, zbd_r]
    rfl
  rw [ex, em, zbd_r, zld_n ht.1 (by omega), hr.1, hr.2.1, nsub (by omega)]
  have x0 : wI X 22 (nI 0) = xL X 0 (zI X 23) (zI X 24) (zI X 25) := xL0 X 0
  rw [x0]
  have xv : ∀ n f s, fX2_valueOnTop (xL X 0 n f s) = some (if sk - 1 = 0 then nI 6 else nI 5, xL X 0 n f s) := fun n f s => x_valueOnTop (X := xL X 0 n f s) (dp := sk - 1) hS.2.1 (by omega)
  have mv : (if (zI M 19) ≤ (nI 1) then some ((nI 6), mL M (-1) 0) else some ((nI 5), mL M (-1) 0)) = some (if sk - 1 = 0 then nI 6 else nI 5, mL M (-1) 0) := by
    rw [h.2.1]
    by_cases q : sk - 1 = 0
    · rw [if_pos (qle (by omega)), if_pos q]
    · rw [if_neg (nl (by omega)), if_neg q]
  have vres : ∀ n f s, ∃ c e n' nM f' s', some (if sk - 1 = 0 then nI 6 else nI 5, xL X 0 n f s) = some (nI c, xL X e n' f' s') ∧ some (if sk - 1 = 0 then nI 6 else nI 5, mL M (-1) 0) = some (nI c, mL M nM e) ∧ c < 8 ∧ LK nd M pl sk bs c e n' nM f' s' := by
    intro n f s
    by_cases q : sk - 1 = 0
    · rw [if_pos q]
      exact ⟨6, 0, n, -1, f, s, rfl, rfl, by omega, Or.inr (Or.inr (Or.inr (Or.inr (Or.inr (Or.inr (Or.inl ⟨rfl, rfl, by omega⟩))))))⟩
    · rw [if_neg q]
      exact ⟨5, 0, n, -1, f, s, rfl, rfl, by omega, Or.inr (Or.inr (Or.inr (Or.inr (Or.inr (Or.inl ⟨rfl, rfl, by omega⟩)))))⟩
  have dflt : zA M 24 (en M (pl - 1)) = nI 0 ∨ zA M 24 (en M (pl - 1)) = nI 4 ∨ zA M 24 (en M (pl - 1)) = nI 5 → ∃ c e n nM f s, (if nI (pl - bs (sk - 1) - 1) = 0 then zbd (fX2_valueOnTop (xL X 0 (zI X 23) (zI X 24) (zI X 25))) (fun r29 S30 => some (r29, S30)) else zbd (fX2_failing (nI 1) (xL X 0 (zI X 23) (zI X 24) (zI X 25))) (fun r27 S28 => some (r27, S28))) = some (nI c, xL X e n f s) ∧ (if nI (pl - bs (sk - 1) - 1) ≤ 0 then (if (zI M 19) ≤ (nI 1) then some ((nI 6), mL M (-1) 0) else some ((nI 5), mL M (-1) 0)) else some ((nI 7), wI (mL M (-1) 0) 27 (nI 1))) = some (nI c, mL M nM e) ∧ c < 8 ∧ LK nd M pl sk bs c e n nM f s := by
    intro _
    by_cases q : pl - bs (sk - 1) - 1 = 0
    · rw [if_pos (by rw [q]; rfl), if_pos (by rw [q]; decide), xv, zbd_r, mv]
      exact vres _ _ _
    · rw [if_neg (show ¬ nI _ = 0 from nq (b := 0) q), if_neg (show ¬ nI _ ≤ 0 from nl (b := 0) (by omega))]
      exact ⟨7, nI 1, _, -1, _, _, by unfold fX2_failing; rw [zbd_r, xL_e], by rw [mL_e], by omega, Or.inr (Or.inr (Or.inr (Or.inr (Or.inr (Or.inr (Or.inr rfl))))))⟩
  rcases hW _ ht.1 ht.2.2 with q | ⟨q, -⟩ | ⟨q, d, hd, e⟩ | ⟨q, p, hp1, hp8, e⟩ | ⟨q, -⟩ | q | ⟨q, -⟩
  · have := dflt (Or.inl q)
    rw [q]
    simpa [show ¬ nI 0 = nI 1 by decide, show ¬ nI 0 = nI 2 by decide, show ¬ nI 0 = nI 3 by decide, show ¬ nI 0 = nI 6 by decide] using this
  · rw [q, if_pos rfl, if_pos rfl]
    exact ⟨1, 0, _, -1, _, _, rfl, rfl, by omega, Or.inr (Or.inl ⟨rfl, rfl, q⟩)⟩
  · obtain ⟨z, hz, e2⟩ := (hp.2 d hd).2
    have hnd := hp.1
    rw [q, if_neg (by decide), if_pos rfl, if_neg (by decide), if_pos rfl, e, x_params (by omega), zbd_r, zld_n ht.1 (by omega), e, zld_n (by omega) (by omega), show zA (xL X 0 (zI X 23) (zI X 24) (zI X 25)) 13 d = zA X 13 d from rfl, (hp.2 d hd).1, e2]
    by_cases qq : pl - bs (sk - 1) - 1 < z
    · rw [if_pos (pt qq), if_pos (pt qq), xv, zbd_r, mv]
      exact vres _ _ _
    · rw [if_neg (nt (by omega)), if_neg (nt (by omega))]
      exact ⟨2, 0, _, -1, _, _, rfl, rfl, by omega, Or.inr (Or.inr (Or.inl ⟨rfl, rfl, d, z, q, e, hd, e2, by omega⟩))⟩
  · rw [q, if_neg (by decide), if_neg (by decide), if_pos rfl, if_neg (by decide), if_neg (by decide), if_pos rfl, e, x_needs hp1, zbd_r, zld_n ht.1 (by omega), e, m_wants hp1, zbd_r, wnt_needs p hp1 hp8]
    have hwp := wnt_pos p
    by_cases qq : pl - bs (sk - 1) - 1 < wnt p
    · rw [if_pos (pt qq), if_pos (pt qq), xv, zbd_r, show zI (mL M (-1) 0) 19 = zI M 19 from rfl, mv]
      exact vres _ _ _
    · rw [if_neg (nt (by omega)), if_neg (nt (by omega)), zld_n ht.1 (by omega), show zA (mL M (-1) 0) 25 = zA M 25 from rfl, e]
      obtain ⟨c, e', n, nM, f, s, g1, g2, g3, g4⟩ := prim_sim (n0 := zI X 23) (f0 := zI X 24) (s0 := zI X 25) hW hR hp h hS hp1 hp8 (by omega) hA q e
      exact ⟨c, e', n, nM, f, s, by rw [g1, zbd_r], by rw [g2, zbd_r], g3, g4⟩
  · have := dflt (Or.inr (Or.inl q))
    rw [q]
    simpa [show ¬ nI 4 = nI 1 by decide, show ¬ nI 4 = nI 2 by decide, show ¬ nI 4 = nI 3 by decide, show ¬ nI 4 = nI 6 by decide] using this
  · have := dflt (Or.inr (Or.inr q))
    rw [q]
    simpa [show ¬ nI 5 = nI 1 by decide, show ¬ nI 5 = nI 2 by decide, show ¬ nI 5 = nI 3 by decide, show ¬ nI 5 = nI 6 by decide] using this
  · rw [q, if_neg (by decide), if_neg (by decide), if_neg (by decide), if_pos rfl, if_neg (by decide), if_neg (by decide), if_neg (by decide), if_pos rfl]
    exact ⟨0, 0, _, -1, _, _, rfl, rfl, by omega, Or.inl ⟨rfl, rfl, q⟩⟩
