/-! sweeping -/
theorem cnt_free (f : Nat → Int32) (q : Nat) (hf : f q ≠ nI 7) : ∀ n, q < n → cnt (upd f q (nI 7)) n + 1 = cnt f n := by
  intro n
  induction n with
  | zero => intro h; omega
  | succ n ih =>
    intro h
    unfold cnt
    by_cases e : q = n
    · subst e
      rw [cnt_upd_ge f q _ q (Nat.le_refl _), updS, if_pos rfl, if_neg hf]
    · have := ih (by omega)
      rw [updN f _ (show n ≠ q by omega)]
      omega
theorem pit_keep {M M' : zSt} {K : Nat → Prop} (hK : ∀ u v, K u → ed M u v → K v) (hs : ∀ n, K n → zA M' 24 n = zA M 24 n ∧ zA M' 25 n = zA M 25 n) : ∀ (c a : Nat), K a → (∀ x, x < c → zA M 24 (pit M x a) = nI 6) → pit M' c a = pit M c a ∧ ∀ x, x < c → zA M' 24 (pit M' x a) = nI 6 := by
  intro c
  induction c with
  | zero => intro a _ _; exact ⟨rfl, fun x hx => absurd hx (Nat.not_lt_zero _)⟩
  | succ c ih =>
    intro a hKa ha
    have h6 : zA M 24 a = nI 6 := ha 0 (by omega)
    have h0 := hs a hKa
    have e : (zA M' 25 a).toNatClampNeg = (zA M 25 a).toNatClampNeg := by rw [h0.2]
    obtain ⟨i1, i2⟩ := ih (fs M a) (hK a _ hKa (Or.inr ⟨h6, rfl⟩)) (fun x hx => ha (x + 1) (by omega))
    constructor
    · show pit M' c (zA M' 25 a).toNatClampNeg = pit M c (zA M 25 a).toNatClampNeg
      rw [e]; exact i1
    · intro x hx
      cases x with
      | zero => show zA M' 24 a = nI 6; rw [h0.1]; exact h6
      | succ x =>
        show zA M' 24 (pit M' x (zA M' 25 a).toNatClampNeg) = nI 6
        rw [e]; exact i2 x (by omega)
theorem chn_keep {M M' : zSt} {K : Nat → Prop} (hK : ∀ u v, K u → ed M u v → K v) (hs : ∀ n, K n → zA M' 24 n = zA M 24 n ∧ zA M' 25 n = zA M 25 n) {a b : Nat} (ha : K a) (hc : chn M a b) : chn M' a b := by
  obtain ⟨c, h1, h2⟩ := hc
  obtain ⟨i1, i2⟩ := pit_keep hK hs c a ha h1
  exact ⟨c, i2, by rw [i1]; exact h2⟩
theorem x_free {X : zSt} {q l s : Nat} (hq : q < 400) (hf : zA X 25 q ≠ -1) (hl : zI X 14 = nI l) (hl1 : 1 ≤ l) (hs : zI X 17 = nI s) (hs4 : s ≤ 400) : fX0_free (nI q) X = some ((), wI (wI (wA (wA (wA X 25 q (-1)) 26 q (nI 0)) 27 q (-3)) 14 (nI (l - 1))) 17 (nI (if s ≤ q then s else q))) := by
  unfold fX0_free fX0_isFree
  rw [x_kind hq, zbd_r, if_neg hf, zbd_r, if_pos nI_0, x_become hq, zbd_r, show zI (wA (wA (wA X 25 q (-1)) 26 q (nI 0)) 27 q (-3)) 17 = nI s from hs, show zI (wA (wA (wA X 25 q (-1)) 26 q (nI 0)) 27 q (-3)) 14 = nI l from hl, nsub hl1]
  by_cases e : s ≤ q
  · rw [if_pos (qle e), if_pos e]
  · rw [if_neg (nl (by omega)), if_neg e]
def JS (K : Nat → Prop) (X1 M1 : zSt) (l : Nat) (k g : Nat) (X M : zSt) : Prop :=
  FR [25, 26, 27] [14, 17] X1 X ∧ FR [24] [] M1 M ∧ Rg X M ∧ (∀ n, n < 400 → zA M 24 n = nI 7 ∨ ∃ k, k < 7 ∧ zA M 24 n = nI k) ∧ zI X 14 = nI (l - g) ∧ l - g = cnt (zA M 24) 400 ∧ g ≤ l ∧ g ≤ k ∧ (∃ s, s ≤ 400 ∧ zI X 17 = nI s ∧ ∀ i, i < s → zA M 24 i ≠ nI 7)
  ∧ (∀ n, K n → zA M 24 n = zA M1 24 n) ∧ (∀ n, n < k → ¬ K n → zA M 24 n = nI 7) ∧ (∀ n, k ≤ n → zA M 24 n = zA M1 24 n) ∧ ((∀ n, n < 400 → zA M1 24 n ≠ nI 7 → K n) → g = 0) ∧ (g = 0 → zA M 24 = zA M1 24)
theorem sweep_loop {K : Nat → Prop} {X1 M1 : zSt} {l : Nat} (hX : ∀ n, n < 400 → (zA X1 37 n = 0 ↔ ¬ K n)) (hM : ∀ n, n < 400 → (zA M1 35 n = 0 ↔ ¬ K n)) : ∀ (m k nx nm g : Nat) (X M : zSt), k + m = 400 → m < nx → m < nm → JS K X1 M1 l k g X M →
    ∃ g' X' M', fX1_freeTheRest_8L nx (nI g, nI k, X) = some (nI g', X') ∧ fX10_sweepAll_9L nm (nI g, nI k, M) = some (nI g', wI M' 15 (zI M1 15 - nI g')) ∧ JS K X1 M1 l 400 g' X' M' := by
  intro m
  induction m with
  | zero =>
    intro k nx nm g X M hk hnx hnm hJ
    obtain ⟨nx, rfl⟩ : ∃ n', nx = n' + 1 := ⟨nx - 1, by omega⟩
    obtain ⟨nm, rfl⟩ : ∃ n', nm = n' + 1 := ⟨nm - 1, by omega⟩
    have e4 : k = 400 := by omega
    refine ⟨g, X, M, ?_, ?_, by rw [e4] at hJ; exact hJ⟩
    · rw [show fX1_freeTheRest_8L (nx + 1) (nI g, nI k, X) = fX1_freeTheRest_8 (fX1_freeTheRest_8L nx) (nI g) (nI k) X from rfl]
      unfold fX1_freeTheRest_8
      rw [if_pos (qle (by omega))]
    · rw [show fX10_sweepAll_9L (nm + 1) (nI g, nI k, M) = fX10_sweepAll_9 (fX10_sweepAll_9L nm) (nI g) (nI k) M from rfl]
      unfold fX10_sweepAll_9
      rw [if_pos (qle (by omega)), hJ.2.1.2.1 15 (by decide)]
  | succ m ih =>
    intro k nx nm g X M hk hnx hnm hJ
    obtain ⟨nx, rfl⟩ : ∃ n', nx = n' + 1 := ⟨nx - 1, by omega⟩
    obtain ⟨nm, rfl⟩ : ∃ n', nm = n' + 1 := ⟨nm - 1, by omega⟩
    rw [show fX1_freeTheRest_8L (nx + 1) (nI g, nI k, X) = fX1_freeTheRest_8 (fX1_freeTheRest_8L nx) (nI g) (nI k) X from rfl, show fX10_sweepAll_9L (nm + 1) (nI g, nI k, M) = fX10_sweepAll_9 (fX10_sweepAll_9L nm) (nI g) (nI k) M from rfl]
    unfold fX1_freeTheRest_8 fX10_sweepAll_9
    have J0 := hJ
    obtain ⟨j1, j2, j3, j4, j5, j6, j7, j7', ⟨s, s1, s2, s3⟩, j8, j9, j10, j11, j12⟩ := hJ
    have hk4 : k < 400 := by omega
    have e37 : zA X 37 = zA X1 37 := j1.1 37 (by decide)
    have e35 : zA M 35 = zA M1 35 := j2.1 35 (by decide)
    have hfr : zA X 25 k = -1 ↔ zA M 24 k = nI 7 := by
      rcases j3 k hk4 with ⟨a, b⟩ | ⟨a, b, -⟩
      · exact ⟨fun _ => b, fun _ => a⟩
      · constructor
        · intro q
          rcases j4 k hk4 with z | ⟨y, hy, z⟩
          · exact z
          · rw [b, z] at q; exact absurd q (nne (by omega) (by decide))
        · intro q; exact absurd q a
    -- the node stays
    have stay : (K k ∨ zA M 24 k = nI 7) → JS K X1 M1 l (k + 1) g X M := fun hz => ⟨j1, j2, j3, j4, j5, j6, j7, by omega, ⟨s, s1, s2, s3⟩, j8, fun n hn hK => by
        by_cases e : n = k
        · rcases hz with z | z
          · rw [e] at hK; exact absurd z hK
          · rw [e]; exact z
        · exact j9 n (by omega) hK, fun n hn => j10 n (by omega), j11, j12⟩
    rw [if_neg (nl (by omega)), if_neg (nl (by omega)), zld_n hk4 (by omega), zld_n hk4 (by omega), e37]
    simp only [nadd]
    by_cases hK : K k
    · have x0 : ¬ zA X1 37 k = 0 := fun z => (hX k hk4).mp z hK
      have m0 : ¬ zA M1 35 k = 0 := fun z => (hM k hk4).mp z hK
      rw [if_neg x0]
      have : (if zA M 24 k = nI 7 then fX10_sweepAll_9L nm (nI g, nI (k + 1), M) else zld 400 (nI k) (zA M 35) (fun v4 => if v4 = 0 then zck 400 (nI k) (fX10_sweepAll_9L nm (nI (g + 1), nI (k + 1), wA M 24 ((nI k).toNatClampNeg) (nI 7))) else fX10_sweepAll_9L nm (nI g, nI (k + 1), M))) = fX10_sweepAll_9L nm (nI g, nI (k + 1), M) := by
        by_cases e : zA M 24 k = nI 7
        · rw [if_pos e]
        · rw [if_neg e, zld_n hk4 (by omega), e35, if_neg m0]
      rw [this]
      exact ih (k + 1) nx nm g X M (by omega) (by omega) (by omega) (stay (Or.inl hK))
    · have x0 : zA X1 37 k = 0 := (hX k hk4).mpr hK
      have m0 : zA M1 35 k = 0 := (hM k hk4).mpr hK
      rw [if_pos x0]
      unfold fX0_isFree
      rw [x_kind hk4, zbd_r]
      by_cases e : zA M 24 k = nI 7
      · rw [if_pos (hfr.mpr e), zbd_r, if_neg (by decide), if_pos e]
        exact ih (k + 1) nx nm g X M (by omega) (by omega) (by omega) (stay (Or.inr e))
      · have ex : ¬ zA X 25 k = -1 := fun z => e (hfr.mp z)
        have hcnt := cnt_free (zA M 24) k e 400 hk4
        rw [if_neg ex, zbd_r, if_pos nI_0, if_neg e, zld_n hk4 (by omega), e35, if_pos m0, zck_n hk4 (by omega), ncl (by omega), x_free hk4 ex j5 (by omega) s2 s1, zbd_r]
        refine ih (k + 1) nx nm (g + 1) _ _ (by omega) (by omega) (by omega) ?_
        refine ⟨FR_trans j1 (FR_trans (FR_trans (FR_trans (FR_trans (FR_A _ _ _ (by decide)) (FR_A _ _ _ (by decide))) (FR_A _ _ _ (by decide))) (FR_I _ _ (by decide))) (FR_I _ _ (by decide))), FR_trans j2 (FR_A _ _ _ (by decide)), fun n hn => ?_, fun n hn => ?_, ?_, ?_, by omega, by omega, ⟨if s ≤ k then s else k, by split <;> omega, rfl, fun i hi => ?_⟩, fun n hn => ?_, fun n hn hK2 => ?_, fun n hn => ?_, fun hz => ?_, fun z => by omega⟩
        · show (upd (zA X 25) k (-1) n = -1 ∧ upd (zA M 24) k (nI 7) n = nI 7) ∨ (upd (zA M 24) k (nI 7) n ≠ nI 7 ∧ upd (zA X 25) k (-1) n = upd (zA M 24) k (nI 7) n ∧ upd (zA X 26) k (nI 0) n = zA M 25 n ∧ upd (zA X 27) k (-3) n = zA M 26 n ∧ zA X 28 n = zA M 27 n)
          by_cases z : n = k
          · rw [z, updS, updS]; exact Or.inl ⟨rfl, rfl⟩
          · rw [updN _ _ z, updN _ _ z, updN _ _ z, updN _ _ z]; exact j3 n hn
        · show upd (zA M 24) k (nI 7) n = nI 7 ∨ ∃ k', k' < 7 ∧ upd (zA M 24) k (nI 7) n = nI k'
          by_cases z : n = k
          · rw [z, updS]; exact Or.inl rfl
          · rw [updN _ _ z]; exact j4 n hn
        · show nI (l - g - 1) = nI (l - (g + 1))
          rw [Nat.sub_sub]
        · show l - (g + 1) = cnt (upd (zA M 24) k (nI 7)) 400
          omega
        · show upd (zA M 24) k (nI 7) i ≠ nI 7
          have : i < s ∧ i < k := by split at hi <;> omega
          rw [updN _ _ (by omega)]; exact s3 i this.1
        · show upd (zA M 24) k (nI 7) n = zA M1 24 n
          by_cases z : n = k
          · rw [z] at hn; exact absurd hn hK
          · rw [updN _ _ z]; exact j8 n hn
        · show upd (zA M 24) k (nI 7) n = nI 7
          by_cases z : n = k
          · rw [z, updS]
          · rw [updN _ _ z]; exact j9 n (by omega) hK2
        · show upd (zA M 24) k (nI 7) n = zA M1 24 n
          rw [updN _ _ (by omega)]; exact j10 n (by omega)
        · have e2 : zA M1 24 k ≠ nI 7 := by rw [← j10 k (Nat.le_refl _)]; exact e
          exact absurd (hz k hk4 e2) hK
/-- all that lives is kept -/
def AK (nd : Nat) (M : zSt) (pl : Nat) : Prop := ∀ n, n < 400 → zA M 24 n ≠ nI 7 → Kp nd M pl n
theorem sweep_sim {nd : Nat} {X M : zSt} {l pl sk : Nat} {bs : Nat → Nat} (hP : PRG nd X M) (H : RK nd X M l pl sk bs) :
    ∃ g X' M', fX1_freeTheRest X = some (nI g, X') ∧ fX10_sweepAll M = some (nI g, M') ∧ g ≤ 400 ∧ RK nd X' M' (l - g) pl sk bs ∧ FR [25, 26, 27, 36, 37, 38] [14, 17, 27] X X' ∧ FR [24, 35, 36] [15, 28] M M' ∧ AK nd M' pl ∧ (AK nd M pl → g = 0) ∧ (∀ n, n < 400 → zA M' 24 n = nI 7 ∨ zA M' 24 n = zA M 24 n) ∧ (g = 0 → zA M' 24 = zA M 24 ∧ zI M' 15 = zI M 15) := by
  have hnd := hP.2.1.1
  obtain ⟨g1, g2, g3, g4, g5, g6, g7, g8⟩ := H
  obtain ⟨X1, f, len, par, c, c0, x1, x2, x3, x4⟩ := x_findKept g2 g1.1 g3 g4 hnd g7 hP.2.2.1
  obtain ⟨M1, f', c', m1, m2⟩ := m_findKept g2 g3 hnd g7 hP.2.2.2.1
  obtain ⟨k1, k2, k3, k4, k5, k6, k7, k8⟩ := m2
  have frX := x2.2.2.2.2.2.2.2.2.2.2.2.2
  obtain ⟨a1, a2, a3, a4, a5, a6, a7, s, s1, s2, s3⟩ := g1
  have hx37 : ∀ n, n < 400 → (zA X1 37 n = 0 ↔ ¬ Kp nd M pl n) := fun n hn => by
    rw [x2.2.2.1 n hn]
    constructor
    · intro z hk
      obtain ⟨j, j1, j2⟩ := (x4 n).mpr hk
      have h1 := x2.2.2.2.1 j j1
      have hc := x2.c400
      rw [j2] at h1
      exact absurd z (show ¬ nI (len n) = 0 from nq (b := 0) (by omega))
    · intro hk
      by_cases z : len n = 0
      · rw [z]; rfl
      · exact absurd ((x4 n).mp (x2.2.2.2.2.1 n hn z)) hk
  have hm35 : ∀ n, n < 400 → (zA M1 35 n = 0 ↔ ¬ Kp nd M pl n) := fun n hn => by
    constructor
    · intro z hk
      rw [k7 n hn hk] at z; exact absurd z (by decide)
    · intro hk
      rw [k8 n hn hk]; rfl
  have e24 : zA M1 24 = zA M 24 := k1.1 24 (by decide)
  have hJ0 : JS (Kp nd M pl) X1 M1 l 0 0 X1 M1 := by
    refine ⟨FR_refl _, FR_refl _, fun n hn => ?_, fun n hn => by rw [e24]; exact a2 n hn, by rw [frX.2.1 14 (by decide)]; exact a3, by rw [e24]; exact a5, Nat.zero_le _, Nat.zero_le _, ⟨s, s1, by rw [frX.2.1 17 (by decide)]; exact s2, fun i hi => by rw [e24]; exact s3 i hi⟩, fun _ _ => rfl, fun n hn => absurd hn (Nat.not_lt_zero _), fun _ _ => rfl, fun _ => rfl, fun _ => rfl⟩
    rw [frX.1 25 (by decide), frX.1 26 (by decide), frX.1 27 (by decide), frX.1 28 (by decide), e24, k1.1 25 (by decide), k1.1 26 (by decide), k1.1 27 (by decide)]
    exact a1 n hn
  obtain ⟨g, X', M', y1, y2, y3⟩ := sweep_loop hx37 hm35 400 0 zFU zFU 0 X1 M1 (by omega) (by rw [zFU_s]; omega) (by rw [zFU_s]; omega) hJ0
  obtain ⟨j1, j2, j3, j4, j5, j6, j7, j7', ⟨s', s1', s2', s3'⟩, j8, j9, j10, j11, j12⟩ := y3
  have h15 : zI M1 15 = nI l := by rw [k1.2.1 15 (by decide)]; exact a4
  have frM' : FR [24, 35, 36] [15, 28] M (wI M' 15 (zI M1 15 - nI g)) := FR_trans (FR_mono k1 (by decide) (by decide)) (FR_trans (FR_mono j2 (by decide) (by decide)) (FR_I _ _ (by decide)))
  have frX' : FR [25, 26, 27, 36, 37, 38] [14, 17, 27] X X' := FR_trans (FR_mono frX (by decide) (by decide)) (FR_mono j1 (by decide) (by decide))
  generalize hMM : wI M' 15 (zI M1 15 - nI g) = M2 at y2 frM'
  have z24 : zA M2 24 = zA M' 24 := by rw [← hMM]; rfl
  have z25 : zA M2 25 = zA M 25 := frM'.1 25 (by decide)
  have z26 : zA M2 26 = zA M 26 := frM'.1 26 (by decide)
  have z27 : zA M2 27 = zA M 27 := frM'.1 27 (by decide)
  have z30 : zA M2 30 = zA M 30 := frM'.1 30 (by decide)
  have z31 : zA M2 31 = zA M 31 := frM'.1 31 (by decide)
  have kept : ∀ n, Kp nd M pl n → zA M2 24 n = zA M 24 n := fun n hn => by rw [z24, j8 n hn, e24]
  have klive : ∀ n, Kp nd M pl n → n < 400 ∧ zA M2 24 n ≠ nI 7 := fun n hn => by
    have := Kp_live g2 g3 hnd g7 hn
    rw [kept n hn]; exact this
  have lk : ∀ n, n < 400 → zA M2 24 n ≠ nI 7 → Kp nd M pl n := fun n hn h7 => by
    by_cases z : Kp nd M pl n
    · exact z
    · rw [z24] at h7; exact absurd (j9 n hn z) h7
  have kst : ∀ i, i < pl → Kp nd M pl (en M i) := fun i hi => Kp_rt (Or.inr ⟨i, hi, rfl⟩)
  have enE : ∀ i, en M2 i = en M i := fun i => by show (zA M2 30 i).toNatClampNeg = _; rw [z30]
  have lv2 : ∀ (v : Int32) (u : Nat), lvn M v → Kp nd M pl u → ed M u v.toNatClampNeg → lvn M2 v := fun v u hv hu he => by
    have := klive _ (Kp_ed hu he)
    exact ⟨v.toNatClampNeg, this.1, hv.lt.2.1, this.2⟩
  have chk : ∀ a b, Kp nd M pl a → chn M a b → chn M2 a b := fun a b ha hc => chn_keep (K := Kp nd M pl) (fun u v hu he => Kp_ed hu he) (fun n hn => ⟨kept n hn, by rw [z25]⟩) ha hc
  have hRK : RK nd X' M2 (l - g) pl sk bs := by
    refine ⟨⟨fun n hn => by rw [z24, z25, z26, z27, ← k1.1 25 (by decide), ← k1.1 26 (by decide), ← k1.1 27 (by decide), ← j2.1 25 (by decide), ← j2.1 26 (by decide), ← j2.1 27 (by decide)]; exact j3 n hn, fun n hn => by rw [z24]; exact j4 n hn, j5, ?_, by rw [z24]; exact j6, ?_, ?_, s', s1', s2', fun i hi => by rw [z24]; exact s3' i hi⟩, ?_, ?_, ?_, ?_, ?_, ?_, ?_⟩
    · rw [← hMM]
      show zI M1 15 - nI g = _
      rw [h15, nsub j7]
    · rw [frX'.2.1 15 (by decide), frM'.2.1 17 (by decide)]; exact a6
    · rw [frX'.2.1 16 (by decide), frM'.2.1 16 (by decide)]; exact a7
    · intro n hn h7
      have hk := lk n hn h7
      have hw := g2 n hn (by rw [← kept n hk]; exact h7)
      unfold Wn at hw ⊢
      rw [kept n hk, z25, z26]
      rcases hw with q | ⟨q, a, b⟩ | q | q | ⟨q, a, b⟩ | q | ⟨q, a⟩
      · exact Or.inl q
      · exact Or.inr (Or.inl ⟨q, lv2 _ n a hk (Or.inl ⟨Or.inl q, Or.inl rfl⟩), lv2 _ n b hk (Or.inl ⟨Or.inl q, Or.inr rfl⟩)⟩)
      · exact Or.inr (Or.inr (Or.inl q))
      · exact Or.inr (Or.inr (Or.inr (Or.inl q)))
      · exact Or.inr (Or.inr (Or.inr (Or.inr (Or.inl ⟨q, lv2 _ n a hk (Or.inl ⟨Or.inr q, Or.inl rfl⟩), lv2 _ n b hk (Or.inl ⟨Or.inr q, Or.inr rfl⟩)⟩))))
      · exact Or.inr (Or.inr (Or.inr (Or.inr (Or.inr (Or.inl q)))))
      · exact Or.inr (Or.inr (Or.inr (Or.inr (Or.inr (Or.inr ⟨q, lv2 _ n a hk (Or.inr ⟨q, rfl⟩)⟩)))))
    · obtain ⟨b1, b2, b3, b4, b5, b6, b7, b8, b9⟩ := g3
      refine ⟨by rw [frM'.2.1 18 (by decide)]; exact b1, by rw [frM'.2.1 19 (by decide)]; exact b2, b3, b4, b5, fun i hi => by rw [z31]; exact b6 i hi, b7, b8, fun i hi => ?_⟩
      rw [z30]
      have hl := (b9 i hi).lt
      have := klive _ (kst i hi)
      exact ⟨_, this.1, hl.2.1, this.2⟩
    · obtain ⟨b1, b2, b3, b4⟩ := g4
      refine ⟨by rw [frX'.2.1 19 (by decide)]; exact b1, by rw [frX'.2.1 20 (by decide)]; exact b2, fun i hi => by rw [frX'.1 29 (by decide), z30]; exact b3 i hi, fun i hi => by rw [frX'.1 30 (by decide), z31]; exact b4 i hi⟩
    · intro j hj i h1 h2
      obtain ⟨a, b⟩ := g5 j hj i h1 h2
      have hle := (g3.hile hj).2
      have hki := kst i (by omega)
      rw [enE, enE, kept _ hki]
      refine ⟨a, ?_⟩
      have ef : fs M2 (en M i) = fs M (en M i) := by show (zA M2 25 _).toNatClampNeg = _; rw [z25]
      rw [ef]
      exact chk _ _ (Kp_ed hki (Or.inl ⟨Or.inl a, Or.inl rfl⟩)) b
    · intro j hj
      obtain ⟨p, k, b1, b2, b3, b4, b5, b6, b7, b8⟩ := g6 j hj
      have hb := g3.bslt hj
      have hml := mny_le p b3 b4
      have hA : zA M 24 (en M (bs (j + 1) - 1 - k)) = nI 1 := (g5 j (by omega) (bs (j + 1) - 1 - k) (by omega) (by unfold hi; rw [if_pos hj]; omega)).1
      refine ⟨p, k, by rw [enE, kept _ (kst _ (by omega))]; exact b1, by rw [enE, z25]; exact b2, b3, b4, b5, b6, b7, ?_⟩
      rw [enE, enE]
      have ef : sn M2 (en M (bs (j + 1) - 1 - k)) = sn M (en M (bs (j + 1) - 1 - k)) := by show (zA M2 26 _).toNatClampNeg = _; rw [z26]
      rw [ef]
      exact chk _ _ (Kp_ed (kst _ (by omega)) (Or.inl ⟨Or.inl hA, Or.inr rfl⟩)) b8
    · intro d hd
      exact (klive d (Kp_rt (Or.inl hd))).2
    · intro d hd
      rw [frX'.1 31 (by decide), frX'.1 32 (by decide), frM'.1 28 (by decide), frM'.1 29 (by decide)]
      exact g8 d hd
  refine ⟨g, X', M2, ?_, ?_, j7', hRK, frX', frM', fun n hn h7 => ?_, fun hA => j11 (fun n hn h7 => hA n hn (by rw [← e24]; exact h7)), fun n hn => ?_, fun hz => ⟨by rw [z24, j12 hz, e24], ?_⟩⟩
  · unfold fX1_freeTheRest
    rw [x1, zbd_r]; exact y1
  · unfold fX10_sweepAll
    rw [m1, zbd_r]; exact y2
  · have hk := lk n hn h7
    refine (hk (fun n => Kp nd M pl n ∧ Kp nd M2 pl n) (fun r hr => ⟨Kp_rt hr, Kp_rt ?_⟩) (fun u v hu he => ⟨Kp_ed hu.1 he, Kp_ed hu.2 ?_⟩)).2
    · rcases hr with z | ⟨i, hi, z⟩
      · exact Or.inl z
      · exact Or.inr ⟨i, hi, by rw [enE]; exact z⟩
    · have ef : fs M2 u = fs M u := by show (zA M2 25 _).toNatClampNeg = _; rw [z25]
      have es : sn M2 u = sn M u := by show (zA M2 26 _).toNatClampNeg = _; rw [z26]
      rcases he with ⟨t, q⟩ | ⟨t, q⟩
      · refine Or.inl ⟨?_, by rw [ef, es]; exact q⟩
        show zA M2 24 u = nI 1 ∨ zA M2 24 u = nI 4
        rw [kept u hu.1]; exact t
      · exact Or.inr ⟨by rw [kept u hu.1]; exact t, by rw [ef]; exact q⟩
  · by_cases z : Kp nd M pl n
    · exact Or.inr (kept n z)
    · rw [z24]; exact Or.inl (j9 n hn z)
  · rw [← hMM]
    show zI M1 15 - nI g = _
    rw [h15, nsub j7, hz, a4]
    rfl
