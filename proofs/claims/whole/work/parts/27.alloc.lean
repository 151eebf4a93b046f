/-! new nodes -/
def cnt (f : Nat → Int32) : Nat → Nat
  | 0 => 0
  | n + 1 => cnt f n + (if f n = nI 7 then 0 else 1)
theorem cnt_le (f : Nat → Int32) : ∀ n, cnt f n ≤ n := by
  intro n
  induction n with
  | zero => exact Nat.le_refl _
  | succ n ih => unfold cnt; split <;> omega
theorem cnt_full (f : Nat → Int32) : ∀ n, (∀ i, i < n → f i ≠ nI 7) → cnt f n = n := by
  intro n
  induction n with
  | zero => intro _; rfl
  | succ n ih => intro h; unfold cnt; rw [ih (fun i hi => h i (by omega)), if_neg (h n (by omega))]
theorem cnt_upd_ge (f : Nat → Int32) (q : Nat) (v : Int32) : ∀ n, n ≤ q → cnt (upd f q v) n = cnt f n := by
  intro n
  induction n with
  | zero => intro _; rfl
  | succ n ih => intro h; unfold cnt; rw [ih (by omega), updN f v (by omega)]
theorem cnt_upd (f : Nat → Int32) (q : Nat) (v : Int32) (hf : f q = nI 7) (hv : v ≠ nI 7) : ∀ n, q < n → cnt (upd f q v) n = cnt f n + 1 := by
  intro n
  induction n with
  | zero => intro h; omega
  | succ n ih =>
    intro h
    unfold cnt
    by_cases e : q = n
    · subst e
      rw [cnt_upd_ge f q v q (Nat.le_refl _), updS, if_neg hv, if_pos hf]
    · rw [ih (by omega), updN f v (by omega)]
      omega
theorem cnt_same (f : Nat → Int32) (q : Nat) (v : Int32) (hf : f q ≠ nI 7) (hv : v ≠ nI 7) : ∀ n, cnt (upd f q v) n = cnt f n := by
  intro n
  induction n with
  | zero => rfl
  | succ n ih =>
    unfold cnt
    by_cases e : n = q
    · subst e
      rw [ih, updS, if_neg hv, if_neg hf]
    · rw [ih, updN f v e]
/-- the least free node -/
theorem least_free (f : Nat → Int32) (h : cnt f 400 < 400) : ∃ q, q < 400 ∧ f q = nI 7 ∧ ∀ i, i < q → f i ≠ nI 7 := by
  have h1 : ∃ q, q < 400 ∧ f q = nI 7 := by
    by_cases hc : ∃ q, q < 400 ∧ f q = nI 7
    · exact hc
    · have := cnt_full f 400 (fun i hi q => hc ⟨i, hi, q⟩)
      omega
  obtain ⟨q, ⟨hq1, hq2⟩, hq3⟩ := pk_least (fun q => q < 400 ∧ f q = nI 7) h1
  exact ⟨q, hq1, hq2, fun i hi z => hq3 i hi ⟨by omega, z⟩⟩
def nX (X : zSt) (q : Nat) (k a b : Int32) : zSt :=
  wI (wI (wI (wI (wA (wA (wA (wA X 25 q k) 26 q a) 27 q b) 28 q (zI X 18)) 17 (nI (q + 1))) 14 (zI X 14 + nI 1)) 15 (zI X 15 + nI 1)) 16 (if zI X 14 + nI 1 ≤ zI X 16 then zI X 16 else zI X 14 + nI 1)
def nM0 (M : zSt) (q : Nat) (k a b y : Int32) : zSt :=
  wI (wI (wI (wA (wA (wA (wA M 24 q k) 25 q a) 26 q b) 27 q y) 15 (zI M 15 + nI 1)) 16 (if zI M 15 + nI 1 ≤ zI M 16 then zI M 16 else zI M 15 + nI 1)) 17 (zI M 17 + nI 1)
def nMd (M : zSt) (q : Nat) (k a b : Int32) (d : Nat) : zSt := wA (nM0 M q k a b (nI d)) 29 d (zA M 29 d + nI 1)
theorem x_addL {X : zSt} {q : Nat} (hq : q < 400) (hf : zA X 25 q = -1) (k a b : Int32) : ∀ (d i n : Nat), i + d = q → (∀ j, i ≤ j → j < q → zA X 25 j ≠ -1) → d < n → fX0_add_17L n (k, a, b, nI i, X) = some (nI q, nX X q k a b) := by
  intro d
  induction d with
  | zero =>
    intro i n hi hl hn
    obtain ⟨n, rfl⟩ : ∃ n', n = n' + 1 := ⟨n - 1, by omega⟩
    obtain rfl : i = q := by omega
    show fX0_add_17 (fX0_add_17L n) k a b (nI i) X = _
    unfold fX0_add_17 fX0_add_42
    rw [if_neg (nl (by omega)), zld_n hq (by omega), if_pos hf, if_pos (pt (by omega)), zck_n hq (by omega), zck_n hq (by omega), zck_n hq (by omega), zck_n hq (by omega), ncl (by omega), nadd]
    unfold nX
    split <;> rfl
  | succ d ih =>
    intro i n hi hl hn
    obtain ⟨n, rfl⟩ : ∃ n', n = n' + 1 := ⟨n - 1, by omega⟩
    show fX0_add_17 (fX0_add_17L n) k a b (nI i) X = _
    unfold fX0_add_17
    rw [if_neg (nl (by omega)), zld_n (by omega) (by omega), if_neg (hl i (by omega) (by omega)), nadd]
    exact ih (i + 1) n (by omega) (fun j h1 h2 => hl j (by omega) h2) (by omega)
theorem x_add {X : zSt} {q s : Nat} (hq : q < 400) (hf : zA X 25 q = -1) (hs : zI X 17 = nI s) (hsq : s ≤ q) (hl : ∀ j, s ≤ j → j < q → zA X 25 j ≠ -1) (k a b : Int32) : fX0_add k a b X = some (nI q, nX X q k a b) := by
  unfold fX0_add
  rw [hs, if_pos (show (0 : Int32) ≤ nI s from qle (a := 0) (by omega))]
  exact x_addL hq hf k a b (q - s) s zFU (by omega) hl (by rw [zFU_s]; omega)
theorem m_node87 {M : zSt} {q : Nat} {v : Int32} (d : Nat) (hd : d < 20) : fX10_node_87 (nI d) (nI q) v M = some (nI q, wA (wI (wI M 16 v) 17 (zI M 17 + nI 1)) 29 d (zA M 29 d + nI 1)) := by
  unfold fX10_node_87
  rw [if_neg (nneg (by omega)), zld_n hd (by omega), zck_n hd (by omega), ncl (by omega)]
theorem m_nodeL {M : zSt} {q d0 : Nat} (hq : q < 400) (hd0 : d0 < 20) (hf : zA M 24 q = nI 7) (k a b : Int32) : ∀ (d i n : Nat), i + d = q → (∀ j, i ≤ j → j < q → zA M 24 j ≠ nI 7) → d < n → fX10_node_3L n (k, a, b, nI d0, nI i, M) = some (nI q, nMd M q k a b d0) := by
  intro d
  induction d with
  | zero =>
    intro i n hi hl hn
    obtain ⟨n, rfl⟩ : ∃ n', n = n' + 1 := ⟨n - 1, by omega⟩
    obtain rfl : i = q := by omega
    show fX10_node_3 (fX10_node_3L n) k a b (nI d0) (nI i) M = _
    unfold fX10_node_3
    rw [zld_n hq (by omega), if_pos hf, zck_n hq (by omega), zck_n hq (by omega), zck_n hq (by omega), zck_n hq (by omega), ncl (by omega), m_node87 d0 hd0, m_node87 d0 hd0]
    unfold nMd nM0
    split <;> rfl
  | succ d ih =>
    intro i n hi hl hn
    obtain ⟨n, rfl⟩ : ∃ n', n = n' + 1 := ⟨n - 1, by omega⟩
    show fX10_node_3 (fX10_node_3L n) k a b (nI d0) (nI i) M = _
    unfold fX10_node_3
    rw [zld_n (by omega) (by omega), if_neg (hl i (by omega) (by omega)), nadd]
    exact ih (i + 1) n (by omega) (fun j h1 h2 => hl j (by omega) h2) (by omega)
theorem m_node {M : zSt} {q d0 : Nat} (hq : q < 400) (hd0 : d0 < 20) (hf : zA M 24 q = nI 7) (hl : ∀ j, j < q → zA M 24 j ≠ nI 7) (k a b : Int32) : fX10_node k a b (nI d0) M = some (nI q, nMd M q k a b d0) := by
  unfold fX10_node
  exact m_nodeL hq hd0 hf k a b q 0 zFU (by omega) (fun j _ h => hl j h) (by rw [zFU_s]; omega)
theorem m_nodeBL {M : zSt} {q : Nat} (hq : q < 400) (hf : zA M 24 q = nI 7) (k a b : Int32) : ∀ (d i n : Nat), i + d = q → (∀ j, i ≤ j → j < q → zA M 24 j ≠ nI 7) → d < n → fX10_node_3L n (k, a, b, -3, nI i, M) = some (nI q, nM0 M q k a b (-3)) := by
  intro d
  induction d with
  | zero =>
    intro i n hi hl hn
    obtain ⟨n, rfl⟩ : ∃ n', n = n' + 1 := ⟨n - 1, by omega⟩
    obtain rfl : i = q := by omega
    show fX10_node_3 (fX10_node_3L n) k a b (-3) (nI i) M = _
    unfold fX10_node_3 fX10_node_87
    rw [zld_n hq (by omega), if_pos hf, zck_n hq (by omega), zck_n hq (by omega), zck_n hq (by omega), zck_n hq (by omega), ncl (by omega), if_pos (show (-3 : Int32) < 0 by decide), if_pos (show (-3 : Int32) < 0 by decide)]
    unfold nM0
    split <;> rfl
  | succ d ih =>
    intro i n hi hl hn
    obtain ⟨n, rfl⟩ : ∃ n', n = n' + 1 := ⟨n - 1, by omega⟩
    show fX10_node_3 (fX10_node_3L n) k a b (-3) (nI i) M = _
    unfold fX10_node_3
    rw [zld_n (by omega) (by omega), if_neg (hl i (by omega) (by omega)), nadd]
    exact ih (i + 1) n (by omega) (fun j h1 h2 => hl j (by omega) h2) (by omega)
theorem m_nodeB {M : zSt} {q : Nat} (hq : q < 400) (hf : zA M 24 q = nI 7) (hl : ∀ j, j < q → zA M 24 j ≠ nI 7) (k a b : Int32) : fX10_node k a b (-3) M = some (nI q, nM0 M q k a b (-3)) := by
  unfold fX10_node
  exact m_nodeBL hq hf k a b q 0 zFU (by omega) (fun j _ h => hl j h) (by rw [zFU_s]; omega)
/-- both graphs with their counts -/
def GR (X M : zSt) (l : Nat) : Prop := Rg X M ∧ (∀ n, n < 400 → zA M 24 n = nI 7 ∨ ∃ k, k < 7 ∧ zA M 24 n = nI k) ∧ zI X 14 = nI l ∧ zI M 15 = nI l ∧ l = cnt (zA M 24) 400 ∧ zI X 15 = zI M 17 ∧ zI X 16 = zI M 16 ∧ ∃ s, s ≤ 400 ∧ zI X 17 = nI s ∧ ∀ i, i < s → zA M 24 i ≠ nI 7
theorem GR.free {X M : zSt} {l : Nat} (h : GR X M l) {n : Nat} (hn : n < 400) : zA X 25 n = -1 ↔ zA M 24 n = nI 7 := by
  obtain ⟨h1, h2, -⟩ := h
  rcases h1 n hn with ⟨a, b⟩ | ⟨a, b, -⟩
  · exact ⟨fun _ => b, fun _ => a⟩
  · constructor
    · intro q
      rcases h2 n hn with z | ⟨k, hk, z⟩
      · exact z
      · rw [b, z] at q
        exact absurd q (nne (by omega) (by decide))
    · intro q; exact absurd q a
/-- a new node: both take the same number; everything else stays -/
theorem add_sim {X M : zSt} {l d0 : Nat} (h : GR X M l) (hl : l < 400) (hd0 : d0 < 20) (hy : zI X 18 = nI d0) {k : Nat} (hk : k < 7) (a b : Int32) :
    ∃ q, q < 400 ∧ zA M 24 q = nI 7 ∧ fX0_add (nI k) a b X = some (nI q, nX X q (nI k) a b) ∧ fX10_node (nI k) a b (nI d0) M = some (nI q, nMd M q (nI k) a b d0) ∧ GR (nX X q (nI k) a b) (nMd M q (nI k) a b d0) (l + 1) := by
  have h0 := h
  obtain ⟨h1, h2, h3, h4, h5, h6, h7, s, hs1, hs2, hs3⟩ := h
  obtain ⟨q, hq1, hq2, hq3⟩ := least_free (zA M 24) (by omega)
  have hsq : s ≤ q := by
    rcases Nat.lt_or_ge q s with z | z
    · exact absurd hq2 (hs3 q z)
    · exact z
  refine ⟨q, hq1, hq2, x_add hq1 ((h0.free hq1).mpr hq2) hs2 hsq (fun j _ hj z => hq3 j hj ((h0.free (by omega)).mp z)) _ _ _, m_node hq1 hd0 hq2 hq3 _ _ _, ?_⟩
  refine ⟨fun n hn => ?_, fun n hn => ?_, ?_, ?_, ?_, ?_, ?_, q + 1, by omega, rfl, fun i hi => ?_⟩
  · show (upd (zA X 25) q (nI k) n = -1 ∧ upd (zA M 24) q (nI k) n = nI 7) ∨ (upd (zA M 24) q (nI k) n ≠ nI 7 ∧ upd (zA X 25) q (nI k) n = upd (zA M 24) q (nI k) n ∧ upd (zA X 26) q a n = upd (zA M 25) q a n ∧ upd (zA X 27) q b n = upd (zA M 26) q b n ∧ upd (zA X 28) q (zI X 18) n = upd (zA M 27) q (nI d0) n)
    by_cases e : n = q
    · subst e
      refine Or.inr ⟨by rw [updS]; exact nq (by omega), by rw [updS, updS], by rw [updS, updS], by rw [updS, updS], by rw [updS, updS, hy]⟩
    · rw [updN _ _ e, updN _ _ e, updN _ _ e, updN _ _ e, updN _ _ e, updN _ _ e, updN _ _ e, updN _ _ e]
      exact h1 n hn
  · show upd (zA M 24) q (nI k) n = nI 7 ∨ ∃ k', k' < 7 ∧ upd (zA M 24) q (nI k) n = nI k'
    by_cases e : n = q
    · subst e
      exact Or.inr ⟨k, hk, updS _ _ _⟩
    · rw [updN _ _ e]
      exact h2 n hn
  · show zI X 14 + nI 1 = nI (l + 1)
    rw [h3, nadd]
  · show zI M 15 + nI 1 = nI (l + 1)
    rw [h4, nadd]
  · show l + 1 = cnt (upd (zA M 24) q (nI k)) 400
    rw [cnt_upd _ _ _ hq2 (nq (by omega)) 400 hq1, ← h5]
  · show zI X 15 + nI 1 = zI M 17 + nI 1
    rw [h6]
  · show (if zI X 14 + nI 1 ≤ zI X 16 then zI X 16 else zI X 14 + nI 1) = (if zI M 15 + nI 1 ≤ zI M 16 then zI M 16 else zI M 15 + nI 1)
    rw [h3, h4, h7]
  · show upd (zA M 24) q (nI k) i ≠ nI 7
    by_cases e : i = q
    · subst e
      rw [updS]; exact nq (by omega)
    · rw [updN _ _ e]
      exact hq3 i (by omega)
/-- a live node becomes another thing -/
theorem become_sim {X M : zSt} {l q : Nat} (h : GR X M l) (hq : q < 400) (hlv : zA M 24 q ≠ nI 7) {k : Nat} (hk : k < 7) (a b : Int32) : GR (wA (wA (wA X 25 q (nI k)) 26 q a) 27 q b) (wA (wA (wA M 24 q (nI k)) 25 q a) 26 q b) l := by
  obtain ⟨h1, h2, h3, h4, h5, h6, h7, s, hs1, hs2, hs3⟩ := h
  refine ⟨fun n hn => ?_, fun n hn => ?_, h3, h4, ?_, h6, h7, s, hs1, hs2, fun i hi => ?_⟩
  · show (upd (zA X 25) q (nI k) n = -1 ∧ upd (zA M 24) q (nI k) n = nI 7) ∨ (upd (zA M 24) q (nI k) n ≠ nI 7 ∧ upd (zA X 25) q (nI k) n = upd (zA M 24) q (nI k) n ∧ upd (zA X 26) q a n = upd (zA M 25) q a n ∧ upd (zA X 27) q b n = upd (zA M 26) q b n ∧ zA X 28 n = zA M 27 n)
    by_cases e : n = q
    · subst e
      refine Or.inr ⟨by rw [updS]; exact nq (by omega), by rw [updS, updS], by rw [updS, updS], by rw [updS, updS], (h1.live hn hlv).2.2.2⟩
    · rw [updN _ _ e, updN _ _ e, updN _ _ e, updN _ _ e, updN _ _ e, updN _ _ e]
      exact h1 n hn
  · show upd (zA M 24) q (nI k) n = nI 7 ∨ ∃ k', k' < 7 ∧ upd (zA M 24) q (nI k) n = nI k'
    by_cases e : n = q
    · subst e
      exact Or.inr ⟨k, hk, updS _ _ _⟩
    · rw [updN _ _ e]
      exact h2 n hn
  · show l = cnt (upd (zA M 24) q (nI k)) 400
    rw [cnt_same _ _ _ hlv (nq (by omega)), ← h5]
  · show upd (zA M 24) q (nI k) i ≠ nI 7
    by_cases e : i = q
    · subst e
      rw [updS]; exact nq (by omega)
    · rw [updN _ _ e]
      exact hs3 i hi
theorem m_become {M : zSt} {n : Nat} {k a b : Int32} (h : n < 400) : fX10_become (nI n) k a b M = some ((), wA (wA (wA M 24 n k) 25 n a) 26 n b) := by
  unfold fX10_become
  rw [zck_n h (by omega), zck_n h (by omega), zck_n h (by omega), ncl (by omega)]
