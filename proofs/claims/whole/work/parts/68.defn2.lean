theorem TB_B {X X' : zSt} {a nd base j0 cnt : Nat} {B B' : Nat → Int64} {dk : Int32} (hB : ∀ j, j < cnt → B' j = B j) (h : TB X X' a nd B base j0 cnt dk) : TB X X' a nd B' base j0 cnt dk := by
  intro i
  obtain ⟨h1, h2⟩ := h i
  refine ⟨fun q1 q2 q3 j w1 w2 w3 w4 => h1 q1 q2 q3 j w1 w2 (by rw [← hB j w2]; exact w3) (fun j' u1 u2 => by rw [← hB j' (by omega)]; exact w4 j' u1 u2), fun q => h2 ?_⟩
  rcases q with q | q
  · exact Or.inl q
  · exact Or.inr (fun j u1 u2 => by rw [← hB j u2]; exact q j u1 u2)
theorem SEG_c {G G' : Nat → Nat × Nat × Nat} {X M X' M' : zSt} {a b lo nl n0 ns dd : Nat} {c : Int32} {o bg : Nat} (h3 : nl ≤ 2000) (hD : ∀ i, i < b → DQ X M X' M' i) (E2 : ∀ l, l < nl → zA M' 14 l = zA M 14 l) (E3 : ∀ s, s < ns → zA M' 22 s = zA M 22 s ∧ zA M' 23 s = zA M 23 s ∧ zB M' 16 s = zB M 16 s) (hG : ∀ l, l < nl → G' l = G l) (h : SEG G X M a b lo nl n0 ns dd c o bg) : SEG G' X' M' a b lo nl n0 ns dd c o bg := by
  obtain ⟨a1, a2, a3, a4, a5, a6, a7, a8⟩ := h
  have hh : ∀ i, i ≤ b → hgt M' bg i = hgt M bg i := fun i hi => hgt_c i (fun j hj => ⟨(hD j (by omega)).2.1, (hD j (by omega)).2.2.1⟩)
  refine ⟨a1, a2, a3, fun l q1 q2 => ?_, fun i q1 q2 => ?_, fun i q1 q2 => by rw [hh i q2]; exact a6 i q1 q2, ?_, fun s q1 q2 => ?_⟩
  · obtain ⟨w1, w2, w3, w4, w5, w6, w7, w8⟩ := a4 l q1 q2
    rw [hG l q2]
    exact ⟨w1, w2, w3, w4, w5, by rw [rk_t ns (M := M) (fun j hj => (E3 j hj).1)]; exact w6, by rw [(hD _ (by omega)).2.1]; exact w7, by rw [(hD _ (by omega)).2.2.1]; exact w8⟩
  · exact DR_t (Nat.le_refl _) (Nat.le_refl _) (Nat.le_refl _) h3 (hD i q2) (fun l _ r2 => E2 l r2) (fun s r => ⟨(E3 s r).1, (E3 s r).2.2⟩) (fun s r1 r2 => by omega) (fun l _ r2 => hG l r2) (hh i (by omega)) (fun l r1 r2 r3 => by omega) (a5 i q1 q2)
  · rw [psum_c (X := X) b (fun i r1 r2 => by unfold pw; rw [(hD i r2).1.1, (hD i r2).1.2.1])]; exact a7
  · obtain ⟨w1, l, w2, w3, w4⟩ := a8 s q1 q2
    exact ⟨by rw [(E3 s q2).2.1]; exact w1, l, w2, w3, by rw [(E3 s q2).1]; exact w4⟩
/-- a DEFINITION as it stands in both: Y before its PARAMETERS were told, Z behind -/
def DF (G : Nat → Nat × Nat × Nat) (X M Y Z : zSt) (d a e lo nl n0 ns pd : Nat) : Prop :=
  (zA X 13 d = nI pd ∧ zA M 4 d = nI pd ∧ pd ≤ 8 ∧ zA X 14 d = nI a ∧ zA X 15 d = nI e ∧ zA X 16 d = nI (wsum Y a e) ∧ zA M 6 d = nI a ∧ zA M 7 d = nI e)
  ∧ e ≤ 800 ∧ hgt M a e = 1 ∧ SEG G Y M a e lo nl n0 ns d (-1) 0 a ∧ FQ [17, 18] [] [] Y Z ∧ TB Y Z a e (fun j => zB M 5 (8 * d + j)) 0 0 pd (nI 3)
  ∧ ∀ i, a ≤ i → i < e → zA X 17 i = zA Z 17 i ∧ zA X 18 i = zA Z 18 i ∧ zA X 19 i = zA Z 19 i ∧ zA X 21 i = zA Z 21 i ∧ zB X 20 i = zB Z 20 i
theorem DF_t {G G' : Nat → Nat × Nat × Nat} {X M X' M' Y Z : zSt} {d a e lo nl n0 ns pd : Nat} (h3 : nl ≤ 2000) (hx : ∀ k, k ∈ [13, 14, 15, 16] → zA X' k d = zA X k d) (hm : ∀ k, k ∈ [4, 6, 7] → zA M' k d = zA M k d) (h5 : ∀ j, j < 8 → zB M' 5 (8 * d + j) = zB M 5 (8 * d + j)) (hD : ∀ i, i < e → DQ X M X' M' i) (E2 : ∀ l, l < nl → zA M' 14 l = zA M 14 l) (E3 : ∀ s, s < ns → zA M' 22 s = zA M 22 s ∧ zA M' 23 s = zA M 23 s ∧ zB M' 16 s = zB M 16 s) (hG : ∀ l, l < nl → G' l = G l) (h : DF G X M Y Z d a e lo nl n0 ns pd) : DF G' X' M' Y Z d a e lo nl n0 ns pd := by
  obtain ⟨⟨a1, a2, a3, a4, a5, a6, a7, a8⟩, b1, b2, b3, b4, b5, b6⟩ := h
  refine ⟨⟨by rw [hx 13 (by decide)]; exact a1, by rw [hm 4 (by decide)]; exact a2, a3, by rw [hx 14 (by decide)]; exact a4, by rw [hx 15 (by decide)]; exact a5, by rw [hx 16 (by decide)]; exact a6, by rw [hm 6 (by decide)]; exact a7, by rw [hm 7 (by decide)]; exact a8⟩, b1, ?_, SEG_c h3 (fun i hi => ⟨⟨rfl, rfl, rfl, rfl, rfl⟩, (hD i hi).2⟩) E2 E3 hG b3, b4, TB_B (fun j hj => h5 j (by omega)) b5, fun i q1 q2 => ?_⟩
  · rw [hgt_c e (M := M) (fun j hj => ⟨(hD j hj).2.1, (hD j hj).2.2.1⟩)]; exact b2
  · obtain ⟨w1, w2, w3, w4, w5⟩ := (hD i q2).1
    rw [w1, w2, w3, w4, w5]
    exact b6 i q1 q2
/-- the DEFINITIONS that are read -/
def RD (b : Nat → Nat) (tl k : Nat) (G : Nat → Nat × Nat × Nat) (bs ls ss pd : Nat → Nat) (Y Z : Nat → zSt) (pl nd nl ns : Nat) (X M : zSt) : Prop :=
  TK b tl pl X M ∧ k ≤ 20 ∧ (zI X 6 = nI k ∧ zI M 8 = nI k ∧ zI X 7 = nI nd ∧ zI M 9 = nI nd ∧ zI M 10 = nI nl ∧ zI M 11 = nI ns ∧ zI M 13 = nI 0) ∧ (nd ≤ pl ∧ 3 * nl ≤ pl ∧ 3 * ns ≤ pl) ∧ (bs k = nd ∧ ls k = nl ∧ ss k = ns ∧ bs 0 = 0 ∧ ls 0 = 0 ∧ ss 0 = 0)
  ∧ (∀ s, s < ns → ∃ l, l < nl ∧ zA M 22 s = nI l) ∧ (∀ d, d < k → zB X 12 d = zB M 3 d) ∧ (∀ d d', d < d' → d' < k → zB M 3 d ≠ zB M 3 d')
  ∧ ∀ d, d < k → (bs d ≤ bs (d + 1) ∧ bs (d + 1) ≤ nd ∧ ls (d + 1) ≤ nl ∧ ss (d + 1) ≤ ns) ∧ DF G X M (Y d) (Z d) d (bs d) (bs (d + 1)) (ls d) (ls (d + 1)) (ss d) (ss (d + 1)) (pd d)
theorem m_defN {k : Nat} {M : zSt} (hk : k < 20) (h8 : zI M 8 = nI k) : ∀ (c i f : Nat), i + c = k → c < f → (∀ d, i ≤ d → d < k → zB M 3 d ≠ zL M 0) → fX10_definition_44L f (nI i, M) = zbd (fX10_token (wA (wB M 3 k (zL M 0)) 4 k (nI 0))) (fun _ S6 => fX10_definition_108L zFU (nI k, S6)) := by
  intro c
  induction c with
  | zero =>
    intro i f hi hf _
    obtain ⟨f, rfl⟩ : ∃ n', f = n' + 1 := ⟨f - 1, by omega⟩
    show fX10_definition_44 (fX10_definition_44L f) (nI i) M = _
    unfold fX10_definition_44
    rw [h8, if_pos (qle (by omega)), zck_n (by omega) (by omega), zck_n (by omega) (by omega), ncl (by omega)]
  | succ c ih =>
    intro i f hi hf hn
    obtain ⟨f, rfl⟩ : ∃ n', f = n' + 1 := ⟨f - 1, by omega⟩
    show fX10_definition_44 (fX10_definition_44L f) (nI i) M = _
    unfold fX10_definition_44
    rw [h8, if_neg (nl (by omega)), zld_n (by omega) (by omega), if_neg (fun q => hn i (Nat.le_refl _) (by omega) ((lgc0 _ _).mp q)), nadd]
    exact ih (i + 1) f (by omega) (by omega) (fun d h1 h2 => hn d (by omega) h2)
theorem m_defY {k : Nat} {M : zSt} (hk : k < 20) (h8 : zI M 8 = nI k) (h6 : zI M 6 = nI 0) : ∀ (c i f : Nat), i + c = k → c < f → (∃ d, i ≤ d ∧ d < k ∧ zB M 3 d = zL M 0) → fX10_definition_44L f (nI i, M) = some ((), wI (wI M 6 (nI 4)) 7 (zI M 3)) := by
  intro c
  induction c with
  | zero =>
    intro i f hi hf h
    obtain ⟨j, h1, h2, -⟩ := h
    omega
  | succ c ih =>
    intro i f hi hf h
    obtain ⟨f, rfl⟩ : ∃ n', f = n' + 1 := ⟨f - 1, by omega⟩
    show fX10_definition_44 (fX10_definition_44L f) (nI i) M = _
    unfold fX10_definition_44
    rw [h8, if_neg (nl (by omega)), zld_n (by omega) (by omega)]
    by_cases z : zB M 3 i = zL M 0
    · rw [if_pos ((lgc0 _ _).mpr z), m_fail h6, zbd_r]
    · rw [if_neg (fun q => z ((lgc0 _ _).mp q)), nadd]
      obtain ⟨j, h1, h2, h3⟩ := h
      exact ih (i + 1) f (by omega) (by omega) ⟨j, by
        have : j ≠ i := fun q => z (by rw [← q]; exact h3)
        omega, h2, h3⟩
def oD (X : zSt) (k nd : Nat) (nm : Int64) : zSt := wI (wA (wA (wA (wA (wB X 12 k nm) 13 k (nI 0)) 14 k (nI nd)) 15 k (nI nd)) 16 k (nI 0)) 6 (nI (k + 1))
theorem x_openD {X : zSt} {k nd : Nat} {nm : Int64} (h6 : zI X 6 = nI k) (h7 : zI X 7 = nI nd) (hk : k < 20) : fX4_openDefinition nm X = some ((), oD X k nd nm) := by
  unfold fX4_openDefinition oD
  rw [h6, h7, if_neg (nl (by omega)), zck_n hk (by omega), zck_n hk (by omega), zck_n hk (by omega), zck_n hk (by omega), zck_n hk (by omega), ncl (by omega), nadd]
theorem hgt_b (M : zSt) (bg : Nat) : hgt M bg bg = 0 := by
  cases bg with
  | zero => rfl
  | succ n =>
    show (if n < n + 1 then 0 else _) = 0
    rw [if_pos (by omega)]
theorem eL_end {n : Nat} {M : zSt} (h : zI M 12 = nI 0 - nI 1) : eL (n + 1) M = some ((), M) := by
  show fX10_expression_15 (eL n) M = _
  unfold fX10_expression_15
  rw [h, if_pos (by decide)]
theorem DR_wok {G : Nat → Nat × Nat × Nat} {X M : zSt} {a b lo nl n0 ns dd : Nat} {c : Int32} {o bg i : Nat} (h : SEG G X M a b lo nl n0 ns dd c o bg) (h1 : a ≤ i) (h2 : i < b) : WOK X i := by
  have hD := h.2.2.2.2.1 i h1 h2
  unfold DR at hD
  rcases hD with d | d | ⟨p, -, -, d, -⟩ | ⟨d, -⟩ | ⟨d, -⟩ | ⟨n, d1, d2, -, d, d3, -⟩ | ⟨l, d1, d2, -, d, d3, -⟩ | ⟨l, s, -, -, -, -, -, d, -⟩
  · exact ⟨fun z => by rw [d.1] at z; exact absurd z (by decide), fun z => by rw [d.1] at z; exact absurd z (by decide)⟩
  · exact ⟨fun z => by rw [d.1] at z; exact absurd z (by decide), fun z => by rw [d.1] at z; exact absurd z (by decide)⟩
  · exact ⟨fun z => by rw [d] at z; exact absurd z (by decide), fun z => by rw [d] at z; exact absurd z (by decide)⟩
  · exact ⟨fun z => by rw [d] at z; exact absurd z (by decide), fun z => by rw [d] at z; exact absurd z (by decide)⟩
  · exact ⟨fun z => by rw [d] at z; exact absurd z (by decide), fun z => by rw [d] at z; exact absurd z (by decide)⟩
  · exact ⟨fun _ => ⟨n, by omega, by omega, d3⟩, fun z => by rw [d] at z; exact absurd z (by decide)⟩
  · have := (h.2.2.2.1 l d1 d2).2.2.2.2.2.1
    exact ⟨fun z => by rw [d] at z; exact absurd z (by decide), fun _ => ⟨_, by omega, d3⟩⟩
  · exact ⟨fun z => by rw [d] at z; exact absurd z (by decide), fun z => by rw [d] at z; exact absurd z (by decide)⟩
/-- telling NAMES changes no other deed and no weight -/
theorem TB_wt {X X' : zSt} {a nd base cnt : Nat} {B : Nat → Int64} {dk : Nat} (hdk : dk = 2 ∨ dk = 3 ∨ dk = 4) (h : TB X X' a nd B base 0 cnt (nI dk)) (i : Nat) : (¬ zA X 17 i = nI 8 → zA X' 17 i = zA X 17 i ∧ zA X' 18 i = zA X 18 i) ∧ (zA X 17 i = nI 8 → zA X' 17 i = nI 8 ∨ zA X' 17 i = nI dk) := by
  refine ⟨fun z => (h i).2 (Or.inl (fun w => z w.2.2)), fun z => ?_⟩
  by_cases w : a ≤ i ∧ i < nd ∧ ∃ j, j < cnt ∧ B j = zB X 20 i
  · obtain ⟨w1, w2, w3⟩ := w
    obtain ⟨j, j1, j2, j3⟩ := min_ex cnt w3
    exact Or.inr ((h i).1 w1 w2 z j (Nat.zero_le _) j1 j2 (fun j' _ q => j3 j' q)).1
  · left
    rw [((h i).2 ?_).1]; exact z
    by_cases v : a ≤ i ∧ i < nd
    · exact Or.inr (fun j _ u q => w ⟨v.1, v.2, j, u, q⟩)
    · exact Or.inl (fun q => v ⟨q.1, q.2.1⟩)
theorem wt_8 {X : zSt} {i q : Nat} (h : zA X 17 i = nI q) (hq : q = 8 ∨ q = 2 ∨ q = 3 ∨ q = 4) : wt X i = 0 := by
  unfold wt
  rw [h, if_neg (nq (by omega)), if_neg (nq (by omega)), if_neg (nq (by omega)), if_neg (nq (by omega))]
theorem TB_w {X X' : zSt} {a nd base cnt : Nat} {B : Nat → Int64} {dk : Nat} (hdk : dk = 2 ∨ dk = 3 ∨ dk = 4) (h : TB X X' a nd B base 0 cnt (nI dk)) (i : Nat) : wt X' i = wt X i := by
  obtain ⟨h1, h2⟩ := TB_wt hdk h i
  by_cases z : zA X 17 i = nI 8
  · rw [wt_8 z (Or.inl rfl)]
    rcases h2 z with y | y
    · exact wt_8 y (Or.inl rfl)
    · exact wt_8 y (by omega)
  · obtain ⟨y1, y2⟩ := h1 z
    unfold wt
    rw [y1, y2]
theorem TB_wok {X X' : zSt} {a nd base cnt : Nat} {B : Nat → Int64} {dk : Nat} (hdk : dk = 2 ∨ dk = 3 ∨ dk = 4) (h : TB X X' a nd B base 0 cnt (nI dk)) {i : Nat} (hw : WOK X i) : WOK X' i := by
  obtain ⟨h1, h2⟩ := TB_wt hdk h i
  by_cases z : zA X 17 i = nI 8
  · have : ∀ q, q = 5 ∨ q = 6 → ¬ zA X' 17 i = nI q := fun q hq w => by
      rcases h2 z with y | y
      · rw [y] at w; exact nq (a := 8) (b := q) (by omega) (by omega) (by omega) w
      · rw [y] at w; exact nq (a := dk) (b := q) (by omega) (by omega) (by omega) w
    exact ⟨fun w => absurd w (this 5 (by omega)), fun w => absurd w (this 6 (by omega))⟩
  · obtain ⟨y1, y2⟩ := h1 z
    unfold WOK
    rw [y1, y2]
    exact hw
