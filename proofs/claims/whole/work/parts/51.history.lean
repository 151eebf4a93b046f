/-! the program's life: steps and sweeps, and how they come again -/
def RE (nd : Nat) (X M : zSt) : Prop := ∃ l pl sk bs, RK nd X M l pl sk bs
def tX (T X : zSt) : Prop := (∀ k, k ∈ [13, 14, 15, 16, 17, 18, 19] → zA X k = zA T k) ∧ zI X 6 = zI T 6 ∧ zB X 12 = zB T 12
def tM (M M' : zSt) : Prop := (∀ k, k ∈ [4, 6, 7, 8, 9, 10, 22] → zA M' k = zA M k) ∧ zI M' 8 = zI M 8 ∧ zI M' 11 = zI M 11 ∧ zB M' 3 = zB M 3
theorem tX_refl (X : zSt) : tX X X := ⟨fun _ _ => rfl, rfl, rfl⟩
theorem tX_trans {X Y Z : zSt} (h1 : tX X Y) (h2 : tX Y Z) : tX X Z := ⟨fun k hk => (h2.1 k hk).trans (h1.1 k hk), h2.2.1.trans h1.2.1, h2.2.2.trans h1.2.2⟩
theorem tX_symm {X Y : zSt} (h : tX X Y) : tX Y X := ⟨fun k hk => (h.1 k hk).symm, h.2.1.symm, h.2.2.symm⟩
theorem tX_FR {la li : List Nat} {X Y : zSt} (h : FR la li X Y) (ha : ∀ k, k ∈ [13, 14, 15, 16, 17, 18, 19] → k ∉ la) (hi : 6 ∉ li) : tX X Y := ⟨fun k hk => h.1 k (ha k hk), h.2.1 6 hi, h.2.2.2 12⟩
theorem tM_FR {la li : List Nat} {X Y : zSt} (h : FR la li X Y) (ha : ∀ k, k ∈ [4, 6, 7, 8, 9, 10, 22] → k ∉ la) (hi : 8 ∉ li) (hj : 11 ∉ li) : tM X Y := ⟨fun k hk => h.1 k (ha k hk), h.2.1 8 hi, h.2.1 11 hj, h.2.2.2 3⟩
theorem PRG_t {nd : Nat} {X X' M M' : zSt} (hX : tX X X') (hM : tM M M') (h : PRG nd X M) : PRG nd X' M' := PRG_c hX.1 hX.2.1 hX.2.2 hM.1 hM.2.1 hM.2.2.1 hM.2.2.2 h
theorem tM_refl (M : zSt) : tM M M := ⟨fun _ _ => rfl, rfl, rfl, rfl⟩
def lnk (sw : Nat → Prop) (s : Nat) (A B : zSt) : Prop := (sw s ∧ ∃ g, fX1_freeTheRest A = some (g, B)) ∨ (¬ sw s ∧ B = A)
theorem lnk_det {sw : Nat → Prop} {s : Nat} {A B B' : zSt} (h : lnk sw s A B) (h' : lnk sw s A B') : B = B' := by
  rcases h with ⟨a, g, b⟩ | ⟨a, b⟩
  · rcases h' with ⟨a', g', b'⟩ | ⟨a', b'⟩
    · rw [b] at b'; cases b'; rfl
    · exact absurd a a'
  · rcases h' with ⟨a', g', b'⟩ | ⟨a', b'⟩
    · exact absurd a' a
    · rw [b, b']
/-- how the class came here: its states at each number of STEPS -/
def HI (T : zSt) (sw : Nat → Prop) (t : Nat) (C : Nat → zSt) : Prop := (∃ X0, tX T X0 ∧ fX2_begin X0 = some ((), C 0)) ∧ ∀ s, s < t → ∃ B, lnk sw s (C s) B ∧ fX2_attempt B = some (nI 0, C (s + 1))
def CU (nd : Nat) (T : zSt) (sw : Nat → Prop) (t : Nat) (C : Nat → zSt) (M : zSt) : Prop := HI T sw t C ∧ tX T (C t) ∧ zI (C t) 21 = nI t ∧ ∃ B, lnk sw t (C t) B ∧ RE nd B M ∧ tX T B ∧ zI B 21 = nI t
def swp (a : Nat → Nat) (ns s : Nat) : Prop := ∃ i, i < ns ∧ a i = s
def AE (nd : Nat) (M : zSt) : Prop := ∀ pl, pl ≤ 600 → zI M 18 = nI pl → AK nd M pl
/-- which numbers of STEPS were swept, in both -/
def SWP (X M : zSt) (ns : Nat) (a : Nat → Nat) : Prop := zI M 25 = nI ns ∧ (∀ i, i < ns → zA M 32 i = nI (a i)) ∧ ∀ s, s ≤ 5000 → (swp a ns s → zA X 10 s = nI 1) ∧ (¬ swp a ns s → zA X 10 s = nI 0)
def PS (nd : Nat) (X M : zSt) (st ns : Nat) (a : Nat → Nat) : Prop :=
  PRG nd X M ∧ RE nd X M ∧ N3 M ∧ zI X 21 = nI st ∧ zI M 20 = nI st ∧ st ≤ 5000 ∧ SWP X M ns a ∧ (∀ i, i < ns → a i ≤ st) ∧ (∀ i j, i < j → j < ns → a i < a j) ∧ (swp a ns st → AE nd M) ∧ ∃ T C, tX T X ∧ CU nd T (swp a ns) st C M
theorem AE_c {nd : Nat} {M M' : zSt} (h24 : zA M' 24 = zA M 24) (h25 : zA M' 25 = zA M 25) (h26 : zA M' 26 = zA M 26) (h30 : zA M' 30 = zA M 30) (h18 : zI M' 18 = zI M 18) (h : AE nd M) : AE nd M' := by
  intro pl hpl h2
  have h0 := h pl hpl (by rw [← h18]; exact h2)
  unfold AK Kp rt ed two at h0 ⊢
  have en' : en M' = en M := funext (fun i => by show (zA M' 30 i).toNatClampNeg = _; rw [h30])
  have fs' : fs M' = fs M := funext (fun i => by show (zA M' 25 i).toNatClampNeg = _; rw [h25])
  have sn' : sn M' = sn M := funext (fun i => by show (zA M' 26 i).toNatClampNeg = _; rw [h26])
  rw [en', fs', sn', h24]
  exact h0
theorem RE_att {nd : Nat} {X M : zSt} {st : Nat} (hP : PRG nd X M) (H : RE nd X M) (hs : zI X 21 = nI st) (hsM : zI M 20 = nI st) (hst : st ≤ 5000) :
    ∃ o X' M' st', o < 4 ∧ fX2_attempt X = some (nI o, X') ∧ fX10_stepOne M = some (if o = 0 then nI 1 else nI 0, M') ∧ RE nd X' M' ∧ aX X X' ∧ aM M M' ∧ zI M' 21 = nI o ∧ zI M' 22 = zI X' 22 ∧ st' ≤ 5000 ∧ zI X' 21 = nI st' ∧ zI M' 20 = nI st' ∧ (o = 0 → st' = st + 1) ∧ (o ≠ 0 → st' = st) ∧ (o ≠ 0 → zA M' = zA M ∧ ∀ k, k ∈ [15, 16, 17, 18, 19] → zI M' k = zI M k) := by
  obtain ⟨l, pl, sk, bs, H⟩ := H
  obtain ⟨o, X', M', l', pl', sk', bs', st', h1, h2, h3, h4, h5⟩ := attempt_sim hP H hs hsM hst
  exact ⟨o, X', M', st', h1, h2, h3, ⟨l', pl', sk', bs', h4⟩, h5⟩
theorem RE_c {nd : Nat} {X M M' : zSt} (hMA : ∀ k, k ∈ [24, 25, 26, 27, 28, 29, 30, 31] → zA M' k = zA M k) (hMI : ∀ k, k ∈ [15, 16, 17, 18, 19] → zI M' k = zI M k) (H : RE nd X M) : RE nd X M' := by
  obtain ⟨l, pl, sk, bs, H⟩ := H
  exact ⟨l, pl, sk, bs, RK_c (X := X) (X' := X) (fun _ _ => rfl) (fun _ _ => rfl) hMA hMI H⟩
theorem RE_c2 {nd : Nat} {X X' M M' : zSt} (hXA : ∀ k, k ∈ [25, 26, 27, 28, 29, 30, 31, 32] → zA X' k = zA X k) (hXI : ∀ k, k ∈ [14, 15, 16, 17, 19, 20] → zI X' k = zI X k) (hMA : ∀ k, k ∈ [24, 25, 26, 27, 28, 29, 30, 31] → zA M' k = zA M k) (hMI : ∀ k, k ∈ [15, 16, 17, 18, 19] → zI M' k = zI M k) (H : RE nd X M) : RE nd X' M' := by
  obtain ⟨l, pl, sk, bs, H⟩ := H
  exact ⟨l, pl, sk, bs, RK_c hXA hXI hMA hMI H⟩
theorem RE_sweep {nd : Nat} {X M : zSt} (hP : PRG nd X M) (H : RE nd X M) :
    ∃ g X' M', fX1_freeTheRest X = some (nI g, X') ∧ fX10_sweepAll M = some (nI g, M') ∧ g ≤ 400 ∧ RE nd X' M' ∧ FR [25, 26, 27, 36, 37, 38] [14, 17, 27] X X' ∧ FR [24, 35, 36] [15, 28] M M' ∧ AE nd M' ∧ (AE nd M → g = 0) ∧ (∀ n, n < 400 → zA M' 24 n = nI 7 ∨ zA M' 24 n = zA M 24 n) ∧ (g = 0 → zA M' 24 = zA M 24 ∧ zI M' 15 = zI M 15) := by
  obtain ⟨l, pl, sk, bs, H⟩ := H
  have hpl := H.2.2.1.2.2.2.1
  have h18 := H.2.2.1.1
  obtain ⟨g, X', M', h1, h2, h3, h4, h5, h6, h7, h8, h9, h10⟩ := sweep_sim hP H
  refine ⟨g, X', M', h1, h2, h3, ⟨l - g, pl, sk, bs, h4⟩, h5, h6, fun pl' hpl' h18' => ?_, fun hA => h8 (hA pl hpl h18), h9, h10⟩
  rw [h6.2.1 18 (by decide), h18] at h18'
  have := (neq (by omega) (by omega)).mp h18'
  rw [← this]; exact h7
theorem N3_sweep {M M' : zSt} (h : N3 M) (h24 : ∀ n, n < 400 → zA M' 24 n = nI 7 ∨ zA M' 24 n = zA M 24 n) (h26 : zA M' 26 = zA M 26) : N3 M' := by
  intro n hn
  rcases h24 n hn with z | z
  · exact Or.inl z
  · rw [z, h26]; exact h n hn
theorem aM_c {M M' : zSt} (hA : zA M' = zA M) (hI : ∀ k, k ∈ [15, 16, 17, 18, 19] → zI M' k = zI M k) {nd : Nat} {X : zSt} (H : RE nd X M) : RE nd X M' := RE_c (fun k _ => by rw [hA]) hI H
theorem SWP_a {X M X' M' : zSt} {ns : Nat} {a : Nat → Nat} (hX : zA X' 10 = zA X 10) (hM : zA M' 32 = zA M 32) (hI : zI M' 25 = zI M 25) (h : SWP X M ns a) : SWP X' M' ns a := by
  unfold SWP at h ⊢
  rw [hX, hM, hI]; exact h
/-- an attempt in the life of a program -/
theorem PS_att {nd : Nat} {X M : zSt} {st ns : Nat} {a : Nat → Nat} (h : PS nd X M st ns a) :
    ∃ o X' M' st', o < 4 ∧ fX2_attempt X = some (nI o, X') ∧ fX10_stepOne M = some (if o = 0 then nI 1 else nI 0, M') ∧ PS nd X' M' st' ns a ∧ aX X X' ∧ aM M M' ∧ zI M' 21 = nI o ∧ zI M' 22 = zI X' 22 := by
  obtain ⟨h1, h2, h3, h4, h5, h6, h7, h8, h9, h10, T, C, h11, ⟨hh, hT, hs, B, b1, b2, b3, b4⟩⟩ := h
  have hPT : PRG nd B M := PRG_t (tX_trans (tX_symm h11) b3) (tM_refl M) h1
  obtain ⟨o, X', M', st', r1, r2, r3, r4, r5, r6, r7, r8, r9, r10, r11, r12, r13, r14⟩ := RE_att h1 h2 h4 h5 h6
  obtain ⟨o', B', M'', st'', q1, q2, q3, q4, q5, q6, q7, q8, q9, q10, q11, q12, q13, q14⟩ := RE_att hPT b2 b4 h5 h6
  rw [r3] at q3
  have eM : M' = M'' := by
    have := Option.some.inj q3
    exact (Prod.mk.inj this).2
  have eo : o = 0 ↔ o' = 0 := by
    have h1 := (Prod.mk.inj (Option.some.inj q3)).1
    constructor
    · intro z
      rw [if_pos z] at h1
      rcases Nat.eq_zero_or_pos o' with w | w
      · exact w
      · rw [if_neg (by omega)] at h1; exact absurd h1 (by decide)
    · intro z
      rw [if_pos z] at h1
      rcases Nat.eq_zero_or_pos o with w | w
      · exact w
      · rw [if_neg (by omega)] at h1; exact absurd h1 (by decide)
  subst eM
  have hN : N3 M' := Pn_stepOne h3 _ _ r3
  have tB' : tX B B' := tX_FR q5 (by decide) (by decide)
  have tX' : tX X X' := tX_FR r5 (by decide) (by decide)
  have tM' : tM M M' := tM_FR r6 (by decide) (by decide) (by decide)
  refine ⟨o, X', M', st', r1, r2, r3, ⟨PRG_t tX' tM' h1, r4, hN, r10, r11, r9, SWP_a (r5.1 10 (by decide)) (r6.1 32 (by decide)) (r6.2.1 25 (by decide)) h7, ?_, h9, ?_, T, if o = 0 then fun i => if i = st + 1 then B' else C i else C, tX_trans h11 tX', ?_⟩, r5, r6, r7, r8⟩
  · intro i hi
    have := h8 i hi
    by_cases z : o = 0
    · rw [r12 z]; omega
    · rw [r13 z]; exact this
  · by_cases z : o = 0
    · rw [r12 z]
      rintro ⟨i, i1, i2⟩
      have := h8 i i1
      omega
    · rw [r13 z]
      intro w
      obtain ⟨e1, e2⟩ := r14 z
      exact AE_c (by rw [e1]) (by rw [e1]) (by rw [e1]) (by rw [e1]) (e2 18 (by decide)) (h10 w)
  · by_cases z : o = 0
    · rw [if_pos z, r12 z]
      have hb0 : ¬ swp a ns (st + 1) := fun ⟨i, i1, i2⟩ => by have := h8 i i1; omega
      have z' := eo.mp z
      refine ⟨⟨?_, fun s hs' => ?_⟩, ?_, ?_, B', Or.inr ⟨hb0, ?_⟩, q4, tX_trans b3 tB', by rw [q10, q12 z']⟩
      · obtain ⟨X0, y1, y2⟩ := hh.1
        refine ⟨X0, y1, ?_⟩
        show fX2_begin X0 = some ((), if 0 = st + 1 then B' else C 0)
        rw [if_neg (by omega)]; exact y2
      · show ∃ B1, lnk (swp a ns) s (if s = st + 1 then B' else C s) B1 ∧ fX2_attempt B1 = some (nI 0, if s + 1 = st + 1 then B' else C (s + 1))
        rw [if_neg (show ¬ s = st + 1 by omega)]
        by_cases w : s = st
        · subst w
          rw [if_pos rfl]
          exact ⟨B, b1, by rw [q2, z']⟩
        · rw [if_neg (by omega)]
          exact hh.2 s (by omega)
      · show tX T (if st + 1 = st + 1 then B' else C (st + 1))
        rw [if_pos rfl]; exact tX_trans b3 tB'
      · show zI (if st + 1 = st + 1 then B' else C (st + 1)) 21 = _
        rw [if_pos rfl, q10, q12 z']
      · show B' = if st + 1 = st + 1 then B' else C (st + 1)
        rw [if_pos rfl]
    · rw [if_neg z, r13 z]
      obtain ⟨e1, e2⟩ := r14 z
      exact ⟨hh, hT, hs, B, b1, aM_c e1 e2 b2, b3, b4⟩
theorem replay_sw {nd due ns : Nat} {T : zSt} {C : Nat → zSt} {a : Nat → Nat} {s k fx fm : Nat} {X M : zSt} (hinc : ∀ i j, i < j → j < ns → a i < a j) (hdue : due ≤ 5000) (hns : ns ≤ 600) (hs : s ≤ due) (hk : k ≤ ns) (hk1 : ∀ i, i < k → a i < s) (hk2 : ∀ i, k ≤ i → i < ns → s ≤ a i) (hle : ∀ i, i < ns → a i ≤ due) (hP : PRG nd X M) (hRE : RE nd X M) (hREC : RE nd (C s) M) (hTX : tX T X) (hTC : tX T (C s)) (hN : N3 M) (h21 : zI X 21 = nI s) (hC21 : zI (C s) 21 = nI s) (h20 : zI M 20 = nI s) (hSW : SWP X M ns a) :
    ∃ X1 M1 B k1, (if zA X 10 s = 0 then fX9_back_87 (fX9_back_56L fx) (nI due) (nI s) X else zbd (fX1_freeTheRest X) (fun r10 S11 => fX9_back_87 (fX9_back_56L fx) (nI due) (nI s) S11)) = fX9_back_87 (fX9_back_56L fx) (nI due) (nI s) X1 ∧ fX10_back_86L (fX10_back_81L fm) zFU (nI due, nI k, M) = fX10_back_120 (fX10_back_81L fm) (nI due) (nI k1) M1 ∧ lnk (swp a ns) s (C s) B ∧ PRG nd X1 M1 ∧ RE nd X1 M1 ∧ RE nd B M1 ∧ tX T X1 ∧ tX T B ∧ N3 M1 ∧ zI X1 21 = nI s ∧ zI B 21 = nI s ∧ zI M1 20 = nI s ∧ SWP X1 M1 ns a ∧ k1 ≤ ns ∧ (∀ i, i < k1 → a i < s + 1) ∧ (∀ i, k1 ≤ i → i < ns → s + 1 ≤ a i) ∧ (swp a ns s → AE nd M1) ∧ FR [25, 26, 27, 28, 29, 30, 31, 32, 33, 34, 35, 36, 37, 38] [14, 15, 16, 17, 18, 19, 20, 21, 22, 23, 24, 25, 26, 27] X X1 ∧ FR [24, 25, 26, 27, 28, 29, 30, 31, 33, 34, 35, 36] [15, 16, 17, 18, 19, 20, 21, 22, 26, 27, 28] M M1 := by
  have hPC : PRG nd (C s) M := PRG_t (tX_trans (tX_symm hTX) hTC) (tM_refl M) hP
  obtain ⟨w1, w2, w3⟩ := hSW
  obtain ⟨z, hz⟩ : ∃ z, zFU = z + 1 + 1 := ⟨999998, rfl⟩
  by_cases sw : swp a ns s
  · obtain ⟨i, i1, i2⟩ := id sw
    have hik : i = k := by
      rcases Nat.lt_trichotomy i k with z | z | z
      · have := hk1 i z; omega
      · exact z
      · have := hinc k i z i1
        have := hk2 k (Nat.le_refl _) (by omega)
        omega
    subst hik
    obtain ⟨g, X1, M1, r1, r2, r3, r4, r5, r6, r7, r8, r9, r10⟩ := RE_sweep hP hRE
    obtain ⟨g', B, M1', q1, q2, q3, q4, q5, q6, q7, q8, q9, q10⟩ := RE_sweep hPC hREC
    rw [r2] at q2
    have eM : M1 = M1' := (Prod.mk.inj (Option.some.inj q2)).2
    subst eM
    have t1 : tX X X1 := tX_FR r5 (by decide) (by decide)
    have t2 : tX (C s) B := tX_FR q5 (by decide) (by decide)
    have t3 : tM M M1 := tM_FR r6 (by decide) (by decide) (by decide)
    have hb : ∀ i', i + 1 ≤ i' → i' < ns → s + 1 ≤ a i' := fun i' z1 z2 => by have := hinc i i' (by omega) z2; omega
    refine ⟨X1, M1, B, i + 1, ?_, ?_, Or.inl ⟨sw, nI g', q1⟩, PRG_t t1 t3 hP, r4, q4, tX_trans hTX t1, tX_trans hTC t2, N3_sweep hN r9 (r6.1 26 (by decide)), by rw [r5.2.1 21 (by decide)]; exact h21, by rw [q5.2.1 21 (by decide)]; exact hC21, by rw [r6.2.1 20 (by decide)]; exact h20, SWP_a (r5.1 10 (by decide)) (r6.1 32 (by decide)) (r6.2.1 25 (by decide)) ⟨w1, w2, w3⟩, by omega, fun i' z => ?_, hb, fun _ => r7, FR_mono r5 (by decide) (by decide), FR_mono r6 (by decide) (by decide)⟩
    · rw [(w3 s (by omega)).1 sw, if_neg (by decide), r1, zbd_r]
    · rw [hz, show fX10_back_86L (fX10_back_81L fm) (z + 1 + 1) (nI due, nI i, M) = fX10_back_86 (fX10_back_81L fm) (fX10_back_86L (fX10_back_81L fm) (z + 1)) (nI due) (nI i) M from rfl]
      unfold fX10_back_86
      rw [w1, if_neg (nl (by omega)), zld_n (by omega) (by omega), w2 i i1, h20, i2, if_pos rfl, r2, zbd_r, nadd]
      rw [show fX10_back_86L (fX10_back_81L fm) (z + 1) (nI due, nI (i + 1), M1) = fX10_back_86 (fX10_back_81L fm) (fX10_back_86L (fX10_back_81L fm) z) (nI due) (nI (i + 1)) M1 from rfl]
      unfold fX10_back_86
      rw [r6.2.1 25 (by decide), w1]
      by_cases e : ns ≤ i + 1
      · rw [if_pos (qle e)]
      · rw [if_neg (nl (by omega)), zld_n (by omega) (by omega), r6.1 32 (by decide), w2 (i + 1) (by omega), r6.2.1 20 (by decide), h20]
        have h1 := hb (i + 1) (Nat.le_refl _) (by omega)
        have h2 := hle (i + 1) (by omega)
        rw [if_neg (nq (by omega))]
    · by_cases e : i' = i
      · rw [e]; omega
      · have := hk1 i' (by omega); omega
  · have hb : ∀ i', k ≤ i' → i' < ns → s + 1 ≤ a i' := fun i' z1 z2 => by
      have h1 := hk2 i' z1 z2
      rcases Nat.lt_or_ge s (a i') with w | w
      · exact w
      · exact absurd ⟨i', z2, by omega⟩ sw
    refine ⟨X, M, C s, k, ?_, ?_, Or.inr ⟨sw, rfl⟩, hP, hRE, hREC, hTX, hTC, hN, h21, hC21, h20, ⟨w1, w2, w3⟩, hk, fun i' z => by have := hk1 i' z; omega, hb, fun z => absurd z sw, FR_refl _, FR_refl _⟩
    · rw [(w3 s (by omega)).2 sw, if_pos nI_0]
    · rw [hz, show fX10_back_86L (fX10_back_81L fm) (z + 1 + 1) (nI due, nI k, M) = fX10_back_86 (fX10_back_81L fm) (fX10_back_86L (fX10_back_81L fm) (z + 1)) (nI due) (nI k) M from rfl]
      unfold fX10_back_86
      rw [w1]
      by_cases e : ns ≤ k
      · rw [if_pos (qle e)]
      · have h1 := hb k (Nat.le_refl _) (by omega)
        have h2 := hle k (by omega)
        rw [if_neg (nl (by omega)), zld_n (by omega) (by omega), w2 k (by omega), h20, if_neg (nq (by omega))]
theorem back81_end {f : Nat} {d k y : Int32} {M : zSt} (h : y = 0) : fX10_back_81L (f + 1) (d, k, y, M) = some (zI M 20, wI (wI M 21 (nI 0)) 22 (nI 0)) := by
  rw [show fX10_back_81L (f + 1) (d, k, y, M) = fX10_back_81 (fX10_back_81L f) d k y M from rfl]
  unfold fX10_back_81 fX10_back_157
  rw [if_pos h]
theorem back81_go {f : Nat} {d k y : Int32} {M : zSt} (h : ¬ y = 0) : fX10_back_81L (f + 1) (d, k, y, M) = fX10_back_86L (fX10_back_81L f) zFU (d, k, M) := by
  rw [show fX10_back_81L (f + 1) (d, k, y, M) = fX10_back_81 (fX10_back_81L f) d k y M from rfl]
  unfold fX10_back_81
  rw [if_neg h]
/-- the same from the beginning -/
theorem replay {nd due ns : Nat} {T : zSt} {C : Nat → zSt} {a : Nat → Nat} (hH : HI T (swp a ns) due C) (hinc : ∀ i j, i < j → j < ns → a i < a j) (hdue : due ≤ 5000) (hns : ns ≤ 600) :
    ∀ (m s k fx fm : Nat) (X M : zSt), s + m = due → m + 2 < fx → m + 2 < fm → k ≤ ns → (∀ i, i < k → a i < s) → (∀ i, k ≤ i → i < ns → s ≤ a i) → (∀ i, i < ns → a i ≤ due) → PRG nd X M → RE nd X M → RE nd (C s) M → tX T X → tX T (C s) → N3 M → zI X 21 = nI s → zI (C s) 21 = nI s → zI M 20 = nI s → SWP X M ns a →
      ∃ X' M', fX9_back_56L fx (nI due, nI s, X) = some (nI due, X') ∧ fX10_back_81L fm (nI due, nI k, nI 1, M) = some (nI due, wI (wI M' 21 (nI 0)) 22 (nI 0)) ∧ PRG nd X' M' ∧ RE nd X' M' ∧ N3 M' ∧ zI X' 21 = nI due ∧ zI M' 20 = nI due ∧ SWP X' M' ns a ∧ (swp a ns due → AE nd M') ∧ tX T X' ∧ CU nd T (swp a ns) due C M' ∧ FR [25, 26, 27, 28, 29, 30, 31, 32, 33, 34, 35, 36, 37, 38] [14, 15, 16, 17, 18, 19, 20, 21, 22, 23, 24, 25, 26, 27] X X' ∧ FR [24, 25, 26, 27, 28, 29, 30, 31, 33, 34, 35, 36] [15, 16, 17, 18, 19, 20, 21, 22, 26, 27, 28] M M' := by
  intro m
  induction m with
  | zero => ?_
  | succ m ih => ?_
  all_goals
    intro s k fx fm X M hs hfx hfm hk hk1 hk2 hle hP hRE hREC hTX hTC hN h21 hC21 h20 hSW
    obtain ⟨fx, rfl⟩ : ∃ n', fx = n' + 1 := ⟨fx - 1, by omega⟩
    obtain ⟨fm, rfl⟩ : ∃ n', fm = n' + 1 := ⟨fm - 1, by omega⟩
    rw [show fX9_back_56L (fx + 1) (nI due, nI s, X) = fX9_back_56 (fX9_back_56L fx) (nI due) (nI s) X from rfl, back81_go (show ¬ nI 1 = 0 by decide)]
    unfold fX9_back_56
    rw [if_neg (nt (by omega)), if_neg (nl (by omega)), zld_n (by omega) (by omega)]
    -- the sweep, if there was one
    have hsweep := replay_sw (fx := fx) (fm := fm) hinc hdue hns (by omega) hk hk1 hk2 hle hP hRE hREC hTX hTC hN h21 hC21 h20 hSW
    obtain ⟨X1, M1, B, k1, e1, e2, e3, e4, e5, e6, e7, e8, e9, e10, e11, e12, e13, e14, e15, e16, e17, e18, e19⟩ := hsweep
    rw [e1, e2]
    unfold fX9_back_87 fX10_back_120 fX10_back_133
    rw [e12]
  · -- at the end
    have hsd : s = due := by omega
    obtain ⟨fx, rfl⟩ : ∃ n', fx = n' + 1 := ⟨fx - 1, by omega⟩
    obtain ⟨fm, rfl⟩ : ∃ n', fm = n' + 1 := ⟨fm - 1, by omega⟩
    refine ⟨X1, M1, ?_, ?_, e4, e5, e9, by rw [← hsd]; exact e10, by rw [← hsd]; exact e12, e13, by rw [← hsd]; exact e17, e7, ⟨hH, by rw [← hsd]; exact hTC, by rw [← hsd]; exact hC21, B, by rw [← hsd]; exact e3, e6, e8, by rw [← hsd]; exact e11⟩, e18, e19⟩
    · rw [if_pos (qle (by omega)), nadd]
      rw [show fX9_back_56L (fx + 1) (nI due, nI (s + 1), X1) = fX9_back_56 (fX9_back_56L fx) (nI due) (nI (s + 1)) X1 from rfl]
      unfold fX9_back_56
      rw [if_pos (pt (by omega))]
    · rw [if_pos (qle (by omega)), if_pos nI_0, back81_end nI_0, e12, hsd]
  · -- a STEP again
    obtain ⟨B', b1, b2⟩ := hH.2 s (by omega)
    have eB := lnk_det b1 e3
    subst eB
    have hPB : PRG nd B' M1 := PRG_t (tX_trans (tX_symm e7) e8) (tM_refl _) e4
    obtain ⟨o, X2, M2, st', r1, r2, r3, r4, r5, r6, r7, r8, r9, r10, r11, r12, r13, r14⟩ := RE_att e4 e5 e10 e12 (by omega)
    obtain ⟨o', B2, M2', st'', q1, q2, q3, q4, q5, q6, q7, q8, q9, q10, q11, q12, q13, q14⟩ := RE_att hPB e6 e11 e12 (by omega)
    have h0 : nI o' = nI 0 ∧ B2 = C (s + 1) := by
      rw [b2] at q2
      have := Prod.mk.inj (Option.some.inj q2)
      exact ⟨this.1.symm, this.2.symm⟩
    have ho' : o' = 0 := (neq (by omega) (by omega)).mp h0.1
    have eB2 := h0.2
    subst eB2
    rw [r3] at q3
    have hq3 := Prod.mk.inj (Option.some.inj q3)
    have eM := hq3.2
    subst eM
    have ho : o = 0 := by
      have h1 := hq3.1
      rw [if_pos ho'] at h1
      rcases Nat.eq_zero_or_pos o with w | w
      · exact w
      · rw [if_neg (by omega)] at h1; exact absurd h1 (by decide)
    subst ho
    have hN2 : N3 M2 := Pn_stepOne e9 _ _ r3
    have tB' : tX B' (C (s + 1)) := tX_FR q5 (by decide) (by decide)
    have tX' : tX X1 X2 := tX_FR r5 (by decide) (by decide)
    have tM' : tM M1 M2 := tM_FR r6 (by decide) (by decide) (by decide)
    have fX12 : FR [25, 26, 27, 28, 29, 30, 31, 32, 33, 34, 35, 36, 37, 38] [14, 15, 16, 17, 18, 19, 20, 21, 22, 23, 24, 25, 26, 27] X1 X2 := FR_mono (la := [25, 26, 27, 28, 29, 30, 31, 32, 33, 34, 35]) (li := [14, 15, 16, 17, 18, 19, 20, 21, 22, 23, 24, 25, 26]) r5 (by decide) (by decide)
    have fM12 : FR [24, 25, 26, 27, 28, 29, 30, 31, 33, 34, 35, 36] [15, 16, 17, 18, 19, 20, 21, 22, 26, 27, 28] M1 M2 := FR_mono (la := [24, 25, 26, 27, 28, 29, 30, 31, 33, 34]) (li := [15, 16, 17, 18, 19, 20, 21, 22, 26, 27]) r6 (by decide) (by decide)
    obtain ⟨X', M', y1, y2, y3, y4, y5, y6, y7, y8, y9, y10, y11, y12, y13⟩ := ih (s + 1) k1 fx fm X2 M2 (by omega) (by omega) (by omega) e14 e15 e16 hle (PRG_t tX' tM' e4) r4 q4 (tX_trans e7 tX') (tX_trans e8 tB') hN2 (by rw [r10, r12 rfl]) (by rw [q10, q12 ho']) (by rw [r11, r12 rfl]) (SWP_a (r5.1 10 (by decide)) (r6.1 32 (by decide)) (r6.2.1 25 (by decide)) e13)
    refine ⟨X', M', ?_, ?_, y3, y4, y5, y6, y7, y8, y9, y10, y11, FR_trans e18 (FR_trans fX12 y12), FR_trans e19 (FR_trans fM12 y13)⟩
    · rw [if_neg (nl (by omega)), r2, zbd_r, nadd]
      exact y1
    · rw [if_neg (nl (by omega)), if_neg (show ¬ nI 1 = 0 by decide), r3, zbd_r, if_pos rfl, if_neg (show ¬ nI 1 = 0 by decide)]
      exact y2
