/-! how many places have a node -/
def hw (M : zSt) (n u : Nat) : Nat := (if (two M u ∨ zA M 24 u = nI 6) ∧ zA M 25 u = nI n then 1 else 0) + (if two M u ∧ zA M 26 u = nI n then 1 else 0)
def st1 (M : zSt) (n k : Nat) : Nat := if zA M 30 k = nI n then 1 else 0
theorem Sm_le {g : Nat → Nat} {b : Nat} : ∀ n, (∀ i, i < n → g i ≤ b) → Sm g n ≤ b * n := by
  intro n
  induction n with
  | zero => intro _; exact Nat.zero_le _
  | succ n ih =>
    intro h
    have h1 := ih (fun i hi => h i (by omega))
    have h2 := h n (by omega)
    show Sm g n + g n ≤ b * (n + 1)
    rw [Nat.mul_succ]; omega
theorem hw_le (M : zSt) (n u : Nat) : hw M n u ≤ 2 := by unfold hw; split <;> split <;> omega
theorem x_places107 {M : zSt} {pl sk n : Nat} {bs : Nat → Nat} {X : zSt} (hS : MS M pl sk bs) (hRs : Rs X M pl sk) : ∀ (m k f a : Nat), k + m = pl → m < f → fX1_placesThatHave_107L f (nI n, nI (a + Sm (st1 M n) k), nI k, X) = some (nI (a + Sm (st1 M n) pl), X) := by
  have hpl := hS.2.2.2.1
  intro m
  induction m with
  | zero =>
    intro k f a hk hf
    obtain ⟨f, rfl⟩ : ∃ n', f = n' + 1 := ⟨f - 1, by omega⟩
    obtain rfl : k = pl := by omega
    rw [show fX1_placesThatHave_107L (f + 1) (nI n, nI (a + Sm (st1 M n) k), nI k, X) = fX1_placesThatHave_107 (fX1_placesThatHave_107L f) (nI n) (nI (a + Sm (st1 M n) k)) (nI k) X from rfl]
    unfold fX1_placesThatHave_107 fX6_size
    rw [zbd_r, hRs.1, if_pos (qle (Nat.le_refl _))]
  | succ m ih =>
    intro k f a hk hf
    obtain ⟨f, rfl⟩ : ∃ n', f = n' + 1 := ⟨f - 1, by omega⟩
    rw [show fX1_placesThatHave_107L (f + 1) (nI n, nI (a + Sm (st1 M n) k), nI k, X) = fX1_placesThatHave_107 (fX1_placesThatHave_107L f) (nI n) (nI (a + Sm (st1 M n) k)) (nI k) X from rfl]
    unfold fX1_placesThatHave_107 fX6_size
    rw [zbd_r, hRs.1, if_neg (nl (by omega)), x_at hRs.1 (by omega) hpl, zbd_r, hRs.2.2.1 k (by omega)]
    have e : a + Sm (st1 M n) (k + 1) = a + Sm (st1 M n) k + st1 M n k := by show a + (Sm (st1 M n) k + st1 M n k) = _; omega
    have h1 := ih (k + 1) f a (by omega) (by omega)
    rw [e] at h1
    unfold st1 at h1
    by_cases z : zA M 30 k = nI n
    · rw [if_pos z] at h1 ⊢
      simp only [nadd] at h1 ⊢
      exact h1
    · rw [if_neg z] at h1 ⊢
      simp only [nadd] at h1 ⊢
      exact h1
theorem x_places8 {nd : Nat} {M : zSt} {pl sk n : Nat} {bs : Nat → Nat} {X0 X : zSt} {f len par : Nat → Nat} {c c0 : Nat} (hW : Wg nd M) (hR : Rg X0 M) (hS : MS M pl sk bs) (hRs : Rs X0 M pl sk) (hnd : nd ≤ 20) (hd : ∀ d, d < nd → zA M 24 d ≠ nI 7) (hQ : XQ nd M pl X0 X f len par c c0) :
    ∀ (m k fu : Nat), k + m = c → m < fu → fX1_placesThatHave_8L fu (nI n, nI (Sm (fun j => hw M n (f j)) k), nI k, X) = some (nI (Sm (fun j => hw M n (f j)) c + Sm (st1 M n) pl), X) := by
  have hpl := hS.2.2.2.1
  have hc4 := hQ.c400
  have fr := hQ.2.2.2.2.2.2.2.2.2.2.2.2
  have hRX : Rg X M := fun k hk4 => by
    rw [fr.1 25 (by decide), fr.1 26 (by decide), fr.1 27 (by decide), fr.1 28 (by decide)]
    exact hR k hk4
  have hRsX : Rs X M pl sk := by
    obtain ⟨b1, b2, b3, b4⟩ := hRs
    refine ⟨by rw [fr.2.1 19 (by decide)]; exact b1, by rw [fr.2.1 20 (by decide)]; exact b2, fun i hi => by rw [fr.1 29 (by decide)]; exact b3 i hi, fun i hi => by rw [fr.1 30 (by decide)]; exact b4 i hi⟩
  intro m
  induction m with
  | zero =>
    intro k fu hk hf
    obtain ⟨fu, rfl⟩ : ∃ n', fu = n' + 1 := ⟨fu - 1, by omega⟩
    obtain rfl : k = c := by omega
    rw [show fX1_placesThatHave_8L (fu + 1) (nI n, nI (Sm (fun j => hw M n (f j)) k), nI k, X) = fX1_placesThatHave_8 (fX1_placesThatHave_8L fu) (nI n) (nI (Sm (fun j => hw M n (f j)) k)) (nI k) X from rfl]
    unfold fX1_placesThatHave_8
    rw [hQ.1, if_pos (qle (Nat.le_refl _))]
    exact x_places107 hS hRsX pl 0 zFU _ (by omega) (by rw [zFU_s]; omega)
  | succ m ih =>
    intro k fu hk hf
    obtain ⟨fu, rfl⟩ : ∃ n', fu = n' + 1 := ⟨fu - 1, by omega⟩
    rw [show fX1_placesThatHave_8L (fu + 1) (nI n, nI (Sm (fun j => hw M n (f j)) k), nI k, X) = fX1_placesThatHave_8 (fX1_placesThatHave_8L fu) (nI n) (nI (Sm (fun j => hw M n (f j)) k)) (nI k) X from rfl]
    obtain ⟨g1, g2⟩ := hQ.2.1 k (by omega)
    have hl := (Kp_live hW hS hnd hd (hQ.kp k (by omega))).2
    have hr := hRX.live g1 hl
    have h1 := ih (k + 1) fu (by omega) (by omega)
    rw [show Sm (fun j => hw M n (f j)) (k + 1) = Sm (fun j => hw M n (f j)) k + hw M n (f k) from rfl] at h1
    generalize Sm (fun j => hw M n (f j)) k = a at h1 ⊢
    unfold fX1_placesThatHave_8
    rw [hQ.1, if_neg (nl (by omega)), if_neg (nl (by omega)), zld_n (by omega) (by omega), g2, x_hasTwo hRX g1 hl, zbd_r]
    have p71 : ∀ b : Nat, fX1_placesThatHave_71 (fX1_placesThatHave_8L fu) (nI n) (nI b) (nI k) (nI (f k)) X = fX1_placesThatHave_8L fu (nI n, nI (b + (if two M (f k) ∧ zA M 26 (f k) = nI n then 1 else 0)), nI (k + 1), X) := by
      intro b
      unfold fX1_placesThatHave_71
      rw [x_hasTwo hRX g1 hl, zbd_r]
      by_cases t : two M (f k)
      · rw [if_pos t, if_neg (by decide), x_second g1, zbd_r, hr.2.2.1]
        by_cases z : zA M 26 (f k) = nI n
        · have tz : two M (f k) ∧ zA M 26 (f k) = nI n := ⟨t, z⟩
          rw [if_pos z, if_pos tz, nadd, nadd]
        · have tz : ¬ (two M (f k) ∧ zA M 26 (f k) = nI n) := fun w => z w.2
          rw [if_neg z, if_neg tz, nadd]; rfl
      · have tz : ¬ (two M (f k) ∧ zA M 26 (f k) = nI n) := fun w => t w.1
        rw [if_neg t, if_pos nI_0, if_neg tz, nadd]; rfl
    have p55 : (two M (f k) ∨ zA M 24 (f k) = nI 6) → fX1_placesThatHave_55 (fX1_placesThatHave_8L fu) (nI n) (nI a) (nI k) (nI (f k)) X = fX1_placesThatHave_8L fu (nI n, nI (a + hw M n (f k)), nI (k + 1), X) := by
      intro t
      unfold fX1_placesThatHave_55
      rw [x_first g1, zbd_r, hr.2.1]
      unfold hw
      by_cases z : zA M 25 (f k) = nI n
      · have tz : (two M (f k) ∨ zA M 24 (f k) = nI 6) ∧ zA M 25 (f k) = nI n := ⟨t, z⟩
        rw [if_pos z, if_pos tz, nadd, p71, Nat.add_assoc]
      · have tz : ¬ ((two M (f k) ∨ zA M 24 (f k) = nI 6) ∧ zA M 25 (f k) = nI n) := fun w => z w.2
        rw [if_neg z, if_neg tz, p71, Nat.zero_add]
    by_cases t : two M (f k)
    · rw [if_pos t, if_neg (by decide), p55 (Or.inl t)]
      exact h1
    · rw [if_neg t, if_pos nI_0, x_hasOne hRX g1 hl, zbd_r]
      by_cases t6 : zA M 24 (f k) = nI 6
      · rw [if_pos t6, if_neg (by decide), p55 (Or.inr t6)]
        exact h1
      · rw [if_neg t6, if_pos nI_0, p71]
        have e : hw M n (f k) = if two M (f k) ∧ zA M 26 (f k) = nI n then 1 else 0 := by
          unfold hw
          have tz : ¬ ((two M (f k) ∨ zA M 24 (f k) = nI 6) ∧ zA M 25 (f k) = nI n) := fun w => w.1.elim t t6
          rw [if_neg tz, Nat.zero_add]
        rw [e] at h1
        exact h1
theorem m_hold99 {M S : zSt} {pl sk n : Nat} {bs : Nat → Nat} (hS : MS M pl sk bs) (fr : FR [35, 36] [28] M S) : ∀ (m k f a : Nat), k + m = pl → m < f → fX10_holders_99L f (nI n, nI (a + Sm (st1 M n) k), nI k, S) = some (nI (a + Sm (st1 M n) pl), S) := by
  have hpl := hS.2.2.2.1
  intro m
  induction m with
  | zero =>
    intro k f a hk hf
    obtain ⟨f, rfl⟩ : ∃ n', f = n' + 1 := ⟨f - 1, by omega⟩
    obtain rfl : k = pl := by omega
    rw [show fX10_holders_99L (f + 1) (nI n, nI (a + Sm (st1 M n) k), nI k, S) = fX10_holders_99 (fX10_holders_99L f) (nI n) (nI (a + Sm (st1 M n) k)) (nI k) S from rfl]
    unfold fX10_holders_99
    rw [fr.2.1 18 (by decide), hS.1, if_pos (qle (Nat.le_refl _))]
  | succ m ih =>
    intro k f a hk hf
    obtain ⟨f, rfl⟩ : ∃ n', f = n' + 1 := ⟨f - 1, by omega⟩
    rw [show fX10_holders_99L (f + 1) (nI n, nI (a + Sm (st1 M n) k), nI k, S) = fX10_holders_99 (fX10_holders_99L f) (nI n) (nI (a + Sm (st1 M n) k)) (nI k) S from rfl]
    unfold fX10_holders_99
    rw [fr.2.1 18 (by decide), hS.1, if_neg (nl (by omega)), zld_n (by omega) (by omega), fr.1 30 (by decide)]
    have e : a + Sm (st1 M n) (k + 1) = a + Sm (st1 M n) k + st1 M n k := by show a + (Sm (st1 M n) k + st1 M n k) = _; omega
    have h1 := ih (k + 1) f a (by omega) (by omega)
    rw [e] at h1
    unfold st1 at h1
    by_cases z : zA M 30 k = nI n
    · rw [if_pos z] at h1 ⊢
      simp only [nadd] at h1 ⊢
      exact h1
    · rw [if_neg z] at h1 ⊢
      simp only [nadd] at h1 ⊢
      exact h1
theorem m_hold10 {nd : Nat} {M S : zSt} {pl sk n c : Nat} {bs f : Nat → Nat} (hS : MS M pl sk bs) (hK : KM nd M pl S f c) :
    ∀ (m k fu : Nat), k + m = c → m < fu → fX10_holders_10L fu (nI n, nI c, nI (Sm (fun j => hw M n (f j)) k), nI k, S) = some (nI (Sm (fun j => hw M n (f j)) c + Sm (st1 M n) pl), S) := by
  have hpl := hS.2.2.2.1
  obtain ⟨k1, k2, k3, k4, k5, k6, k7, k8⟩ := hK
  intro m
  induction m with
  | zero =>
    intro k fu hk hf
    obtain ⟨fu, rfl⟩ : ∃ n', fu = n' + 1 := ⟨fu - 1, by omega⟩
    obtain rfl : k = c := by omega
    rw [show fX10_holders_10L (fu + 1) (nI n, nI k, nI (Sm (fun j => hw M n (f j)) k), nI k, S) = fX10_holders_10 (fX10_holders_10L fu) (nI n) (nI k) (nI (Sm (fun j => hw M n (f j)) k)) (nI k) S from rfl]
    unfold fX10_holders_10
    rw [if_pos (qle (Nat.le_refl _))]
    exact m_hold99 hS k1 pl 0 zFU _ (by omega) (by rw [zFU_s]; omega)
  | succ m ih =>
    intro k fu hk hf
    obtain ⟨fu, rfl⟩ : ∃ n', fu = n' + 1 := ⟨fu - 1, by omega⟩
    rw [show fX10_holders_10L (fu + 1) (nI n, nI c, nI (Sm (fun j => hw M n (f j)) k), nI k, S) = fX10_holders_10 (fX10_holders_10L fu) (nI n) (nI c) (nI (Sm (fun j => hw M n (f j)) k)) (nI k) S from rfl]
    obtain ⟨g1, g2⟩ := k4 k (by omega)
    have h1 := ih (k + 1) fu (by omega) (by omega)
    rw [show Sm (fun j => hw M n (f j)) (k + 1) = Sm (fun j => hw M n (f j)) k + hw M n (f k) from rfl] at h1
    generalize Sm (fun j => hw M n (f j)) k = a at h1 ⊢
    unfold fX10_holders_10
    rw [if_neg (nl (by omega)), zld_n (by omega) (by omega), g2, zld_n g1 (by omega), k1.1 24 (by decide), m_fields, zbd_r]
    have p55 : ∀ y : Nat, fX10_holders_55 (fX10_holders_10L fu) (nI n) (nI c) (nI k) (nI (f k)) (nI y) (nI a) S = fX10_holders_10L fu (nI n, nI c, nI (a + y + (if two M (f k) ∧ zA M 26 (f k) = nI n then 1 else 0)), nI (k + 1), S) := by
      intro y
      unfold fX10_holders_55 fX10_holders_87
      rw [zld_n g1 (by omega), k1.1 24 (by decide), m_fields, zbd_r]
      by_cases t : two M (f k)
      · rw [if_pos t, if_neg (by decide), zld_n g1 (by omega), k1.1 26 (by decide)]
        by_cases z : zA M 26 (f k) = nI n
        · have tz : two M (f k) ∧ zA M 26 (f k) = nI n := ⟨t, z⟩
          rw [if_pos z, if_pos tz]
          simp only [nadd]
        · have tz : ¬ (two M (f k) ∧ zA M 26 (f k) = nI n) := fun w => z w.2
          rw [if_neg z, if_neg tz]
          simp only [nadd]
      · have tz : ¬ (two M (f k) ∧ zA M 26 (f k) = nI n) := fun w => t w.1
        have e1 : (if zA M 24 (f k) = nI 6 then nI 1 else nI 0) ≤ nI 1 := by split <;> decide
        rw [if_neg t, if_pos e1, if_neg tz]
        simp only [nadd]
    by_cases hz : two M (f k) ∨ zA M 24 (f k) = nI 6
    · have hnz : ¬ (if zA M 24 (f k) = nI 1 ∨ zA M 24 (f k) = nI 4 then nI 2 else if zA M 24 (f k) = nI 6 then nI 1 else nI 0) ≤ 0 := by
        rcases hz with z | z
        · rw [if_pos z]; decide
        · rw [if_neg (fun y => by rcases y with y | y <;> rw [z] at y <;> exact absurd y (by decide)), if_pos z]; decide
      rw [if_neg hnz, zld_n g1 (by omega), k1.1 25 (by decide)]
      unfold hw at h1
      by_cases z : zA M 25 (f k) = nI n
      · have tz : (two M (f k) ∨ zA M 24 (f k) = nI 6) ∧ zA M 25 (f k) = nI n := ⟨hz, z⟩
        rw [if_pos z, p55]
        rw [if_pos tz, ← Nat.add_assoc] at h1
        exact h1
      · have tz : ¬ ((two M (f k) ∨ zA M 24 (f k) = nI 6) ∧ zA M 25 (f k) = nI n) := fun w => z w.2
        unfold fX10_holders_54
        rw [if_neg z, p55, Nat.add_zero]
        rw [if_neg tz, Nat.zero_add] at h1
        exact h1
    · have hz1 : ¬ two M (f k) := fun z => hz (Or.inl z)
      have hz2 : ¬ zA M 24 (f k) = nI 6 := fun z => hz (Or.inr z)
      have tz : ¬ ((two M (f k) ∨ zA M 24 (f k) = nI 6) ∧ zA M 25 (f k) = nI n) := fun w => hz w.1
      unfold fX10_holders_54
      unfold hw at h1
      rw [if_neg hz1, if_neg hz2, if_pos (by decide), p55, Nat.add_zero]
      rw [if_neg tz, Nat.zero_add] at h1
      exact h1
/-- what is kept, in both: counts, holders, keeps -/
theorem keep_sim {nd : Nat} {X M : zSt} {l pl sk : Nat} {bs : Nat → Nat} (hP : PRG nd X M) (H : RK nd X M l pl sk bs) :
    ∃ X' M' c, fX1_findKept X = some ((), X') ∧ fX10_findKept M = some (nI c, M') ∧ zI X' 27 = nI c ∧ c ≤ 400 ∧ 1 ≤ c ∧ c ≤ l ∧ FR [36, 37, 38] [27] X X' ∧ FR [35, 36] [28] M M' ∧ (∀ n, n < 400 → ∃ v, v ≤ 400 ∧ zA X' 37 n = nI v ∧ (v = 0 ↔ zA M' 35 n = 0))
      ∧ (∀ n, n < 400 → ∃ w, fX1_placesThatHave (nI n) X = some (w, X') ∧ fX10_holders (nI n) M = some (w, M')) := by
  have hnd := hP.2.1.1
  obtain ⟨g1, g2, g3, g4, g5, g6, g7, g8⟩ := H
  have hpl := g3.2.2.2.1
  obtain ⟨X1, f, len, par, c, c0, x1, x2, x3, x4⟩ := x_findKept g2 g1.1 g3 g4 hnd g7 hP.2.2.1
  obtain ⟨M1, f', c', m1, m2⟩ := m_findKept g2 g3 hnd g7 hP.2.2.2.1
  have m2' := m2
  obtain ⟨k1, k2, k3, k4, k5, k6, k7, k8⟩ := m2
  have ec : c = c' := enum_c x2.2.2.2.2.2.1 k5 x4 k6
  subst ec
  have frX := x2.2.2.2.2.2.2.2.2.2.2.2.2
  have c1 : 1 ≤ c := by
    obtain ⟨j, j1, -⟩ := (x4 0).mpr (Kp_rt (Or.inl hP.1))
    omega
  refine ⟨X1, M1, c, x1, m1, x2.1, k3, c1, ?_, frX, k1, fun n hn => ⟨len n, ?_, x2.2.2.1 n hn, ?_⟩, fun n hn => ⟨nI (Sm (fun j => hw M n (f j)) c + Sm (st1 M n) pl), ?_, ?_⟩⟩
  · -- no more kept than live
    have hl := g1.2.2.2.2.1
    have e1 : Sm (fun j => (fun _ => 1) (f j)) c = Sm (fun n => ifP (∃ j, j < c ∧ f j = n) ((fun _ => 1) n)) 400 := enum_sum (w := fun _ => 1) c x2.2.2.2.2.2.1 (fun j hj => (x2.2.1 j hj).1)
    have e2 : ∀ n, Sm (fun _ => 1) n = n := fun n => by
      induction n with
      | zero => rfl
      | succ n ih => show Sm (fun _ => 1) n + 1 = n + 1; rw [ih]
    have e3 : ∀ n, n ≤ 400 → Sm (fun n => ifP (∃ j, j < c ∧ f j = n) ((fun _ => 1) n)) n ≤ cnt (zA M 24) n := fun n => by
      induction n with
      | zero => intro _; exact Nat.le_refl _
      | succ n ih =>
        intro hn
        have := ih (by omega)
        show Sm (fun n => ifP (∃ j, j < c ∧ f j = n) ((fun _ => 1) n)) n + ifP (∃ j, j < c ∧ f j = n) 1 ≤ cnt (zA M 24) n + (if zA M 24 n = nI 7 then 0 else 1)
        by_cases z : ∃ j, j < c ∧ f j = n
        · have hv := (Kp_live g2 g3 hnd g7 ((x4 n).mp z)).2
          rw [ifP_t z, if_neg hv]; omega
        · rw [ifP_f z]; omega
    have e4 := e3 400 (Nat.le_refl _)
    rw [← e1, ← hl] at e4
    have e5 : Sm (fun j => (fun _ => 1) (f j)) c = c := e2 c
    omega
  · by_cases z : len n = 0
    · omega
    · obtain ⟨j, j1, j2⟩ := x2.2.2.2.2.1 n hn z
      have := (x2.2.2.2.1 j j1).2
      rw [j2] at this; omega
  · constructor
    · intro z
      by_cases hk : Kp nd M pl n
      · obtain ⟨j, j1, j2⟩ := (x4 n).mpr hk
        have := (x2.2.2.2.1 j j1).1
        rw [j2] at this; omega
      · rw [k8 n hn hk]; rfl
    · intro z
      by_cases w : len n = 0
      · exact w
      · rw [k7 n hn ((x4 n).mp (x2.2.2.2.2.1 n hn w))] at z; exact absurd z (by decide)
  · unfold fX1_placesThatHave
    rw [x1, zbd_r]
    exact x_places8 g2 g1.1 g3 g4 hnd g7 x2 c 0 zFU (by omega) (by rw [zFU_s]; omega)
  · unfold fX10_holders
    rw [m1, zbd_r]
    have h1 := m_hold10 (n := n) g3 m2' c 0 zFU (by omega) (by rw [zFU_s]; omega)
    have e : Sm (fun j => hw M n (f j)) c = Sm (fun j => hw M n (f' j)) c := enum_eq x2.2.2.2.2.2.1 (fun j hj => (x2.2.1 j hj).1) k5 (fun j hj => (k4 j hj).1) x4 k6
    rw [e]; exact h1
