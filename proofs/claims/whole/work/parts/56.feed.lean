/-! THE TAPE -/
theorem by_and (w : Int32) : vp_nar .byte (w.toInt8.toInt32) &&& nI 255 = w &&& nI 255 := by
  have h1 : vp_nar .byte (w.toInt8.toInt32) = w.toInt8.toInt32 := by
    show (w.toInt8.toInt32).toInt8.toInt32 = w.toInt8.toInt32
    rw [Int8.toInt8_toInt32]
  rw [h1]
  apply Int32.toBitVec_inj.mp
  rw [Int32.toBitVec_and, Int32.toBitVec_and]
  have e1 : (nI 255).toBitVec = 255#32 := by decide
  rw [e1, Int8.toBitVec_toInt32, Int32.toBitVec_toInt8]
  apply BitVec.eq_of_getLsbD_eq
  intro i hi
  rw [BitVec.getLsbD_and, BitVec.getLsbD_and]
  by_cases h : i < 8
  · rw [BitVec.getLsbD_signExtend]
    simp [h, hi, BitVec.getElem_signExtend]
  · have : (255#32).getLsbD i = false := by
      have h2 : ∀ j : Fin 32, 8 ≤ j.val → (255#32).getLsbD j.val = false := by decide
      exact h2 ⟨i, hi⟩ (by simpa using h)
    rw [this, Bool.and_false, Bool.and_false]
theorem and_b (w : Int32) : ∃ b, b < 256 ∧ w &&& nI 255 = nI b := by
  refine ⟨(w &&& nI 255).toBitVec.toNat, ?_, ?_⟩
  · rw [Int32.toBitVec_and, BitVec.toNat_and]
    have e1 : (nI 255).toBitVec.toNat = 255 := by decide
    rw [e1]
    have := Nat.and_le_right (n := w.toBitVec.toNat) (m := 255)
    omega
  · apply Int32.toBitVec_inj.mp
    apply BitVec.eq_of_toNat_eq
    have hlt := (w &&& nI 255).toBitVec.isLt
    show _ = (Int32.ofNat _).toBitVec.toNat
    rw [Int32.toBitVec_ofNat']
    rw [BitVec.toNat_ofNat, Nat.mod_eq_of_lt hlt]
theorem put_it {f t s : Nat} {v : Int32} {X : zSt} (h5 : zI X 5 = nI t) (ht : t < 800) (hs : s ≤ 100) : fX7_put_3L (f + 1) (v, nI s, X) = fX7_put_3L f (v, nI s + (-8 : Int32), wI (wA X 11 t (vp_nar .byte ((v >>> (nI s &&& 31)).toInt8.toInt32))) 5 (nI (t + 1))) := by
  rw [show fX7_put_3L (f + 1) (v, nI s, X) = fX7_put_3 (fX7_put_3L f) v (nI s) X from rfl]
  unfold fX7_put_3
  rw [if_neg (nneg (by omega)), h5, if_neg (nl (by omega)), zck_n ht (by omega), ncl (by omega), nadd]
theorem put_end {f : Nat} {v x : Int32} {X : zSt} (hx : x < 0) : fX7_put_3L (f + 1) (v, x, X) = some ((), X) := by
  rw [show fX7_put_3L (f + 1) (v, x, X) = fX7_put_3 (fX7_put_3L f) v x X from rfl]
  unfold fX7_put_3
  rw [if_pos hx]
theorem x_put {t : Nat} {v : Int32} {X : zSt} (h5 : zI X 5 = nI t) (ht : t + 4 ≤ 800) : ∃ X', fX7_put v X = some ((), X') ∧ FR [11] [5] X X' ∧ zI X' 5 = nI (t + 4) ∧ (∀ i, i < t → zA X' 11 i = zA X 11 i) ∧ ∀ j, j < 4 → zA X' 11 (t + j) &&& nI 255 = (v >>> (nI (24 - 8 * j) &&& 31)) &&& nI 255 := by
  obtain ⟨z, hz⟩ : ∃ z, zFU = z + 1 + 1 + 1 + 1 + 1 := ⟨999995, rfl⟩
  unfold fX7_put
  rw [hz, put_it h5 (by omega) (by omega), show nI 24 + (-8 : Int32) = nI 16 by decide]
  generalize hA : wI (wA X 11 t (vp_nar .byte ((v >>> (nI 24 &&& 31)).toInt8.toInt32))) 5 (nI (t + 1)) = A
  have fA : FR [11] [5] X A := by rw [← hA]; exact FR_trans (FR_A _ _ _ (by decide)) (FR_I _ _ (by decide))
  have a5 : zI A 5 = nI (t + 1) := by rw [← hA]; rfl
  have a11 : zA A 11 = upd (zA X 11) t (vp_nar .byte ((v >>> (nI 24 &&& 31)).toInt8.toInt32)) := by rw [← hA]; rfl
  rw [put_it a5 (by omega) (by omega), show nI 16 + (-8 : Int32) = nI 8 by decide]
  generalize hB : wI (wA A 11 (t + 1) (vp_nar .byte ((v >>> (nI 16 &&& 31)).toInt8.toInt32))) 5 (nI (t + 1 + 1)) = B
  have fB : FR [11] [5] X B := by rw [← hB]; exact FR_trans fA (FR_trans (FR_A _ _ _ (by decide)) (FR_I _ _ (by decide)))
  have b5 : zI B 5 = nI (t + 1 + 1) := by rw [← hB]; rfl
  have b11 : zA B 11 = upd (zA A 11) (t + 1) (vp_nar .byte ((v >>> (nI 16 &&& 31)).toInt8.toInt32)) := by rw [← hB]; rfl
  rw [put_it b5 (by omega) (by omega), show nI 8 + (-8 : Int32) = nI 0 by decide]
  generalize hC : wI (wA B 11 (t + 1 + 1) (vp_nar .byte ((v >>> (nI 8 &&& 31)).toInt8.toInt32))) 5 (nI (t + 1 + 1 + 1)) = C
  have fC : FR [11] [5] X C := by rw [← hC]; exact FR_trans fB (FR_trans (FR_A _ _ _ (by decide)) (FR_I _ _ (by decide)))
  have c5 : zI C 5 = nI (t + 1 + 1 + 1) := by rw [← hC]; rfl
  have c11 : zA C 11 = upd (zA B 11) (t + 1 + 1) (vp_nar .byte ((v >>> (nI 8 &&& 31)).toInt8.toInt32)) := by rw [← hC]; rfl
  rw [put_it c5 (by omega) (by omega), put_end (show nI 0 + (-8 : Int32) < 0 by decide)]
  refine ⟨_, rfl, FR_trans fC (FR_trans (FR_A _ _ _ (by decide)) (FR_I _ _ (by decide))), rfl, fun i hi => ?_, fun j hj => ?_⟩
  · show upd (zA C 11) (t + 1 + 1 + 1) _ i = _
    rw [updN _ _ (by omega), c11, updN _ _ (by omega), b11, updN _ _ (by omega), a11, updN _ _ (by omega)]
  · show upd (zA C 11) (t + 1 + 1 + 1) _ (t + j) &&& _ = _
    have : j = 0 ∨ j = 1 ∨ j = 2 ∨ j = 3 := by omega
    rcases this with e | e | e | e <;> subst e
    · rw [updN _ _ (by omega), c11, updN _ _ (by omega), b11, updN _ _ (by omega), a11, show t + 0 = t from rfl, updS]
      exact by_and _
    · rw [updN _ _ (by omega), c11, updN _ _ (by omega), b11, updS]
      exact by_and _
    · rw [updN _ _ (by omega), c11, show t + 2 = t + 1 + 1 from rfl, updS]
      exact by_and _
    · rw [show t + 3 = t + 1 + 1 + 1 from rfl, updS]
      exact by_and _
def sel (a b c d e : Int32) (k : Nat) : Int32 := if k < 4 then a else if k < 8 then b else if k < 12 then c else if k < 16 then d else e
theorem feed_sh : ∀ k : Fin 20, (nI 24) - ((nI 8) * (nI k.val - nI k.val / (nI 4) * (nI 4))) = nI (24 - 8 * (k.val % 4)) := by decide
theorem m_feedL {a b c d e : Int32} {t : Nat} (ht : t + 20 ≤ 800) : ∀ (m k f : Nat) (S : zSt), k + m = 20 → m < f → zI S 1 = nI t → ∃ S', fX10_feed_24L f (a, b, c, d, e, nI k, S) = some (nI (t + 20), S') ∧ FR [1] [1] S S' ∧ zI S' 1 = nI (t + 20) ∧ (∀ i, i < t + k → zA S' 1 i = zA S 1 i) ∧ ∀ j, k ≤ j → j < 20 → zA S' 1 (t + j) = (sel a b c d e j >>> (nI (24 - 8 * (j % 4)) &&& 31)) &&& nI 255 := by
  intro m
  induction m with
  | zero =>
    intro k f S hk hf h1
    obtain ⟨f, rfl⟩ : ∃ n', f = n' + 1 := ⟨f - 1, by omega⟩
    refine ⟨wI S 1 (nI (t + 20)), ?_, FR_I _ _ (by decide), rfl, fun _ _ => rfl, fun j h2 h3 => by omega⟩
    rw [show fX10_feed_24L (f + 1) (a, b, c, d, e, nI k, S) = fX10_feed_24 (fX10_feed_24L f) a b c d e (nI k) S from rfl]
    unfold fX10_feed_24
    rw [if_pos (qle (by omega)), h1, nadd]
  | succ m ih =>
    intro k f S hk hf h1
    obtain ⟨f, rfl⟩ : ∃ n', f = n' + 1 := ⟨f - 1, by omega⟩
    obtain ⟨S', r1, r2, r3, r4, r5⟩ := ih (k + 1) f (wA S 1 (t + k) ((sel a b c d e k >>> (nI (24 - 8 * (k % 4)) &&& 31)) &&& nI 255)) (by omega) (by omega) h1
    refine ⟨S', ?_, FR_trans (FR_A _ _ _ (by decide)) r2, r3, fun i hi => ?_, fun j h2 h3 => ?_⟩
    · rw [show fX10_feed_24L (f + 1) (a, b, c, d, e, nI k, S) = fX10_feed_24 (fX10_feed_24L f) a b c d e (nI k) S from rfl]
      unfold fX10_feed_24
      have h77 : ∀ v : Int32, v = sel a b c d e k → fX10_feed_77 (fX10_feed_24L f) a b c d e (nI k) v S = some (nI (t + 20), S') := fun v hv => by
        unfold fX10_feed_77
        rw [h1, nadd, zck_n (by omega) (by omega), ncl (by omega), nadd, feed_sh ⟨k, by omega⟩, hv]
        exact r1
      rw [if_neg (nl (by omega))]
      by_cases k4 : k < 4
      · rw [if_neg (nl (by omega)), h77 a (by unfold sel; rw [if_pos k4])]
      rw [if_pos (qle (by omega))]
      by_cases k8 : k < 8
      · rw [if_neg (nl (by omega)), h77 b (by unfold sel; rw [if_neg k4, if_pos k8])]
      rw [if_pos (qle (by omega))]
      by_cases k12 : k < 12
      · rw [if_neg (nl (by omega)), h77 c (by unfold sel; rw [if_neg k4, if_neg k8, if_pos k12])]
      rw [if_pos (qle (by omega))]
      by_cases k16 : k < 16
      · rw [if_neg (nl (by omega)), h77 d (by unfold sel; rw [if_neg k4, if_neg k8, if_neg k12, if_pos k16])]
      rw [if_pos (qle (by omega)), h77 e (by unfold sel; rw [if_neg k4, if_neg k8, if_neg k12, if_neg k16])]
    · rw [r4 i (by omega)]
      exact updN _ _ (by omega)
    · by_cases z : j = k
      · rw [z, r4 (t + k) (by omega)]
        exact updS _ _ _
      · exact r5 j (by omega) h3
theorem c_feed {nc : Nat} {X M : zSt} (h : LV nc X M) (a b c d e : Int32) : CAL nc (fX9_feed a b c d e X) (fX10_feed a b c d e M) := by
  unfold fX9_feed fX10_feed
  obtain ⟨tl, t1, t2, t3, t4⟩ := h.1
  unfold fX7_size
  rw [zbd_r, t2, t3, nadd]
  by_cases hf : tl ≤ 780
  · rw [if_pos (qle hf), if_pos (qle (by omega))]
    obtain ⟨X1, p1, p2, p3, p4, p5⟩ := x_put (v := a) t2 (by omega)
    obtain ⟨X2, q1, q2, q3, q4, q5⟩ := x_put (v := b) p3 (by omega)
    obtain ⟨X3, r1, r2, r3, r4, r5⟩ := x_put (v := c) q3 (by omega)
    obtain ⟨X4, s1, s2, s3, s4, s5⟩ := x_put (v := d) r3 (by omega)
    obtain ⟨X5, u1, u2, u3, u4, u5⟩ := x_put (v := e) s3 (by omega)
    obtain ⟨M', m1, m2, m3, m4, m5⟩ := m_feedL (a := a) (b := b) (c := c) (d := d) (e := e) (t := tl) (by omega) 20 0 zFU (wI M 0 (nI 0)) (by omega) (by rw [zFU_s]; omega) t3
    rw [p1, zbd_r, q1, zbd_r, r1, zbd_r, s1, zbd_r, u1, zbd_r, zbd_r, u3, m1]
    have e5 : tl + 4 + 4 + 4 + 4 + 4 = tl + 20 := by omega
    have fx : FR [11] [5] X X5 := FR_trans p2 (FR_trans q2 (FR_trans r2 (FR_trans s2 u2)))
    have fm : FR [1] [0, 1] M M' := FR_trans (FR_mono (fr0 M) (by decide) (by decide)) (FR_mono m2 (by decide) (by decide))
    obtain ⟨w1, w2, w3, w4, w5⟩ := h
    refine ⟨_, _, _, rfl, by rw [e5], ⟨tl + 20, by omega, by rw [u3, e5], m3, fun i hi => ?_⟩, WT_FR fx fm w2, ?_, QS_FR fx (by decide) (by decide) w4, ?_⟩
    · by_cases hi0 : i < tl
      · rw [u4 i (by omega), s4 i (by omega), r4 i (by omega), q4 i (by omega), p4 i hi0, m4 i (by omega)]
        exact t4 i hi0
      · obtain ⟨k, hk⟩ : ∃ k, i = tl + k := ⟨i - tl, by omega⟩
        subst hk
        rw [m5 k (by omega) (by omega)]
        have key : zA X5 11 (tl + k) &&& nI 255 = (sel a b c d e k >>> (nI (24 - 8 * (k % 4)) &&& 31)) &&& nI 255 := by
          unfold sel
          by_cases k4 : k < 4
          · rw [if_pos k4, u4 _ (by omega), s4 _ (by omega), r4 _ (by omega), q4 _ (by omega), p5 k k4, Nat.mod_eq_of_lt k4]
          rw [if_neg k4]
          by_cases k8 : k < 8
          · have ek : tl + k = tl + 4 + (k - 4) := by omega
            have em : k % 4 = k - 4 := by omega
            rw [if_pos k8, ek, u4 _ (by omega), s4 _ (by omega), r4 _ (by omega), q5 (k - 4) (by omega), em]
          rw [if_neg k8]
          by_cases k12 : k < 12
          · have ek : tl + k = tl + 4 + 4 + (k - 8) := by omega
            have em : k % 4 = k - 8 := by omega
            rw [if_pos k12, ek, u4 _ (by omega), s4 _ (by omega), r5 (k - 8) (by omega), em]
          rw [if_neg k12]
          by_cases k16 : k < 16
          · have ek : tl + k = tl + 4 + 4 + 4 + (k - 12) := by omega
            have em : k % 4 = k - 12 := by omega
            rw [if_pos k16, ek, u4 _ (by omega), s5 (k - 12) (by omega), em]
          · have ek : tl + k = tl + 4 + 4 + 4 + 4 + (k - 16) := by omega
            have em : k % 4 = k - 16 := by omega
            rw [if_neg k16, ek, u5 (k - 16) (by omega), em]
        obtain ⟨b', b1, b2⟩ := and_b (sel a b c d e k >>> (nI (24 - 8 * (k % 4)) &&& 31))
        exact ⟨b', b1, by rw [key]; exact b2, b2⟩
    · rw [fx.2.1 1 (by decide), fm.2.1 6 (by decide)]; exact w3
    · rcases w5 with ⟨y1, y2⟩ | w5
      · exact Or.inl ⟨by rw [fx.2.1 0 (by decide)]; exact y1, by rw [fm.2.1 24 (by decide)]; exact y2⟩
      · exact Or.inr (PV_FR fx fm (by decide) (by decide) (by decide) (by decide) w5)
  · rw [if_neg (nl (by omega)), if_neg (nl (by omega))]
    exact ⟨_, _, _, rfl, rfl, LV_0 h⟩
