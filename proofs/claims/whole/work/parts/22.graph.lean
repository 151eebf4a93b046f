/-! the graph: nodes that are live, what they hold, POINTERS followed -/
theorem pigeon : ∀ (n : Nat) (f : Nat → Nat), (∀ i, i ≤ n → f i < n) → ∃ a b, a < b ∧ b ≤ n ∧ f a = f b := by
  intro n
  induction n with
  | zero => intro f h; exact absurd (h 0 (Nat.le_refl 0)) (Nat.not_lt_zero _)
  | succ n ih =>
    intro f h
    by_cases hc : ∃ a, a ≤ n ∧ f a = f (n + 1)
    · obtain ⟨a, h1, h2⟩ := hc
      exact ⟨a, n + 1, by omega, Nat.le_refl _, h2⟩
    · have hne : ∀ a, a ≤ n → f a ≠ f (n + 1) := fun a ha q => hc ⟨a, ha, q⟩
      obtain ⟨a, b, h1, h2, h3⟩ := ih (fun i => if f i < f (n + 1) then f i else f i - 1) (fun i hi => by
        have h4 := h i (by omega)
        have h5 := h (n + 1) (Nat.le_refl _)
        have h6 := hne i hi
        show (if f i < f (n + 1) then f i else f i - 1) < n
        split <;> omega)
      have h4 := hne a (by omega)
      have h5 := hne b (by omega)
      have h3 : (if f a < f (n + 1) then f a else f a - 1) = (if f b < f (n + 1) then f b else f b - 1) := h3
      refine ⟨a, b, h1, by omega, ?_⟩
      split at h3 <;> split at h3 <;> omega
def lvn (M : zSt) (v : Int32) : Prop := ∃ k, k < 400 ∧ v = nI k ∧ zA M 24 k ≠ nI 7
def Wn (nd : Nat) (M : zSt) (n : Nat) : Prop :=
  zA M 24 n = nI 0 ∨ (zA M 24 n = nI 1 ∧ lvn M (zA M 25 n) ∧ lvn M (zA M 26 n)) ∨ (zA M 24 n = nI 2 ∧ ∃ d, d < nd ∧ zA M 25 n = nI d) ∨ (zA M 24 n = nI 3 ∧ ∃ p, p < 13 ∧ p ≠ 8 ∧ zA M 25 n = nI p)
    ∨ (zA M 24 n = nI 4 ∧ lvn M (zA M 25 n) ∧ lvn M (zA M 26 n)) ∨ zA M 24 n = nI 5 ∨ (zA M 24 n = nI 6 ∧ lvn M (zA M 25 n))
/-- every live node is one of the seven kinds, and has what it must -/
def Wg (nd : Nat) (M : zSt) : Prop := ∀ n, n < 400 → zA M 24 n ≠ nI 7 → Wn nd M n
/-- both graphs have the same nodes -/
def Rg (X M : zSt) : Prop := ∀ n, n < 400 → (zA X 25 n = -1 ∧ zA M 24 n = nI 7) ∨ (zA M 24 n ≠ nI 7 ∧ zA X 25 n = zA M 24 n ∧ zA X 26 n = zA M 25 n ∧ zA X 27 n = zA M 26 n ∧ zA X 28 n = zA M 27 n)
theorem Rg.live {X M : zSt} (h : Rg X M) {n : Nat} (hn : n < 400) (hl : zA M 24 n ≠ nI 7) : zA X 25 n = zA M 24 n ∧ zA X 26 n = zA M 25 n ∧ zA X 27 n = zA M 26 n ∧ zA X 28 n = zA M 27 n := by
  rcases h n hn with ⟨-, q⟩ | ⟨-, q⟩
  · exact absurd q hl
  · exact q
theorem knd {a b : Nat} (h : a ≠ b) (ha : a < 100) (hb : b < 100) : nI a ≠ nI b := nq h
theorem Wg.p6 {nd : Nat} {M : zSt} (h : Wg nd M) {n : Nat} (hn : n < 400) (hk : zA M 24 n = nI 6) : lvn M (zA M 25 n) := by
  have h1 := h n hn (by rw [hk]; decide)
  unfold Wn at h1
  rw [hk] at h1
  rcases h1 with q | ⟨q, -⟩ | ⟨q, -⟩ | ⟨q, -⟩ | ⟨q, -⟩ | q | ⟨-, q⟩
  · exact absurd q (by decide)
  · exact absurd q (by decide)
  · exact absurd q (by decide)
  · exact absurd q (by decide)
  · exact absurd q (by decide)
  · exact absurd q (by decide)
  · exact q
theorem Wg.p1 {nd : Nat} {M : zSt} (h : Wg nd M) {n : Nat} (hn : n < 400) (hk : zA M 24 n = nI 1) : lvn M (zA M 25 n) ∧ lvn M (zA M 26 n) := by
  have h1 := h n hn (by rw [hk]; decide)
  unfold Wn at h1
  rw [hk] at h1
  rcases h1 with q | ⟨-, q⟩ | ⟨q, -⟩ | ⟨q, -⟩ | ⟨q, -⟩ | q | ⟨q, -⟩
  · exact absurd q (by decide)
  · exact q
  · exact absurd q (by decide)
  · exact absurd q (by decide)
  · exact absurd q (by decide)
  · exact absurd q (by decide)
  · exact absurd q (by decide)
theorem Wg.p2 {nd : Nat} {M : zSt} (h : Wg nd M) {n : Nat} (hn : n < 400) (hk : zA M 24 n = nI 2) : ∃ d, d < nd ∧ zA M 25 n = nI d := by
  have h1 := h n hn (by rw [hk]; decide)
  unfold Wn at h1
  rw [hk] at h1
  rcases h1 with q | ⟨q, -⟩ | ⟨-, q⟩ | ⟨q, -⟩ | ⟨q, -⟩ | q | ⟨q, -⟩
  · exact absurd q (by decide)
  · exact absurd q (by decide)
  · exact q
  · exact absurd q (by decide)
  · exact absurd q (by decide)
  · exact absurd q (by decide)
  · exact absurd q (by decide)
theorem Wg.p3 {nd : Nat} {M : zSt} (h : Wg nd M) {n : Nat} (hn : n < 400) (hk : zA M 24 n = nI 3) : ∃ p, p < 13 ∧ p ≠ 8 ∧ zA M 25 n = nI p := by
  have h1 := h n hn (by rw [hk]; decide)
  unfold Wn at h1
  rw [hk] at h1
  rcases h1 with q | ⟨q, -⟩ | ⟨q, -⟩ | ⟨-, q⟩ | ⟨q, -⟩ | q | ⟨q, -⟩
  · exact absurd q (by decide)
  · exact absurd q (by decide)
  · exact absurd q (by decide)
  · exact q
  · exact absurd q (by decide)
  · exact absurd q (by decide)
  · exact absurd q (by decide)
theorem Wg.p4 {nd : Nat} {M : zSt} (h : Wg nd M) {n : Nat} (hn : n < 400) (hk : zA M 24 n = nI 4) : lvn M (zA M 25 n) ∧ lvn M (zA M 26 n) := by
  have h1 := h n hn (by rw [hk]; decide)
  unfold Wn at h1
  rw [hk] at h1
  rcases h1 with q | ⟨q, -⟩ | ⟨q, -⟩ | ⟨q, -⟩ | ⟨-, q⟩ | q | ⟨q, -⟩
  · exact absurd q (by decide)
  · exact absurd q (by decide)
  · exact absurd q (by decide)
  · exact absurd q (by decide)
  · exact q
  · exact absurd q (by decide)
  · exact absurd q (by decide)
/-- POINTERS followed, j hops at most less one -/
def folF (M : zSt) : Nat → Nat → Option Nat
  | 0, _ => none
  | j + 1, n => if zA M 24 n = nI 6 then folF M j (zA M 25 n).toNatClampNeg else some n
abbrev fol (M : zSt) (n : Nat) : Option Nat := folF M 401 n
def pit (M : zSt) : Nat → Nat → Nat
  | 0, n => n
  | j + 1, n => pit M j (zA M 25 n).toNatClampNeg
theorem pit_succ (M : zSt) : ∀ (j n : Nat), pit M (j + 1) n = (zA M 25 (pit M j n)).toNatClampNeg := by
  intro j
  induction j with
  | zero => intro n; rfl
  | succ j ih => intro n; show pit M (j + 1) _ = _; rw [ih]; rfl
theorem pit_add (M : zSt) : ∀ (i j n : Nat), pit M (i + j) n = pit M i (pit M j n) := by
  intro i j
  induction j with
  | zero => intro n; rfl
  | succ j ih => intro n; show pit M (i + j) _ = pit M i (pit M j _); exact ih _
theorem folF_none {M : zSt} : ∀ (j n : Nat), folF M j n = none ↔ ∀ i, i < j → zA M 24 (pit M i n) = nI 6 := by
  intro j
  induction j with
  | zero => intro n; exact ⟨fun _ i hi => absurd hi (Nat.not_lt_zero _), fun _ => rfl⟩
  | succ j ih =>
    intro n
    unfold folF
    by_cases h : zA M 24 n = nI 6
    · rw [if_pos h, ih]
      constructor
      · intro q i hi
        cases i with
        | zero => exact h
        | succ i => exact q i (by omega)
      · intro q i hi
        exact q (i + 1) (by omega)
    · rw [if_neg h]
      constructor
      · intro q; cases q
      · intro q; exact absurd (q 0 (by omega)) h
theorem folF_some {M : zSt} : ∀ (j n r : Nat), folF M j n = some r ↔ ∃ i, i < j ∧ (∀ a, a < i → zA M 24 (pit M a n) = nI 6) ∧ zA M 24 (pit M i n) ≠ nI 6 ∧ r = pit M i n := by
  intro j
  induction j with
  | zero => intro n r; exact ⟨(fun h => nomatch h), fun ⟨i, h, _⟩ => absurd h (Nat.not_lt_zero _)⟩
  | succ j ih =>
    intro n r
    unfold folF
    by_cases h : zA M 24 n = nI 6
    · rw [if_pos h, ih]
      constructor
      · rintro ⟨i, h1, h2, h3, h4⟩
        refine ⟨i + 1, by omega, fun a ha => ?_, h3, h4⟩
        cases a with
        | zero => exact h
        | succ a => exact h2 a (by omega)
      · rintro ⟨i, h1, h2, h3, h4⟩
        cases i with
        | zero => exact absurd h h3
        | succ i => exact ⟨i, by omega, fun a ha => h2 (a + 1) (by omega), h3, h4⟩
    · rw [if_neg h]
      constructor
      · intro q
        cases q
        exact ⟨0, by omega, fun a ha => absurd ha (Nat.not_lt_zero _), h, rfl⟩
      · rintro ⟨i, h1, h2, h3, h4⟩
        cases i with
        | zero => rw [h4]; rfl
        | succ i => exact absurd (h2 0 (by omega)) h
theorem lvn.lt {M : zSt} {v : Int32} (h : lvn M v) : v.toNatClampNeg < 400 ∧ v = nI v.toNatClampNeg ∧ zA M 24 v.toNatClampNeg ≠ nI 7 := by
  obtain ⟨k, h1, rfl, h3⟩ := h
  rw [ncl (by omega)]
  exact ⟨h1, rfl, h3⟩
theorem pit_live {nd : Nat} {M : zSt} (hW : Wg nd M) : ∀ (i n : Nat), n < 400 → zA M 24 n ≠ nI 7 → (∀ a, a < i → zA M 24 (pit M a n) = nI 6) → pit M i n < 400 ∧ zA M 24 (pit M i n) ≠ nI 7 := by
  intro i
  induction i with
  | zero => intro n hn hl _; exact ⟨hn, hl⟩
  | succ i ih =>
    intro n hn hl h
    have h1 := (hW.p6 hn (h 0 (by omega))).lt
    exact ih _ h1.1 h1.2.2 (fun a ha => h (a + 1) (by omega))
/-- a ring of POINTERS is seen after 400 hops -/
theorem fol_ring {nd : Nat} {M : zSt} (hW : Wg nd M) {n : Nat} (hn : n < 400) (hl : zA M 24 n ≠ nI 7) (h : ∀ i, i < 401 → zA M 24 (pit M i n) = nI 6) : ∀ i, zA M 24 (pit M i n) = nI 6 := by
  obtain ⟨a, b, h1, h2, h3⟩ := pigeon 400 (fun i => pit M i n) (fun i hi => (pit_live hW i n hn hl (fun a ha => h a (by omega))).1)
  have h3 : pit M a n = pit M b n := h3
  intro i
  induction i using Nat.strongRecOn with
  | _ i ih =>
    by_cases hi : i < 401
    · exact h i hi
    · have e : pit M i n = pit M (i - (b - a)) n := by
        have e1 : i = (i - b) + b := by omega
        have e2 : i - (b - a) = (i - b) + a := by omega
        rw [e2, pit_add, h3, ← pit_add, ← e1]
      rw [e]
      exact ih _ (by omega)
theorem folF_402 {nd : Nat} {M : zSt} (hW : Wg nd M) {n : Nat} (hn : n < 400) (hl : zA M 24 n ≠ nI 7) : folF M 402 n = fol M n := by
  cases h : folF M 401 n with
  | none =>
    have h1 := fol_ring hW hn hl ((folF_none 401 n).mp h)
    show folF M 402 n = folF M 401 n
    rw [h, folF_none]
    exact fun i _ => h1 i
  | some r =>
    show folF M 402 n = folF M 401 n
    rw [h, folF_some]
    obtain ⟨i, h1, h2⟩ := (folF_some 401 n r).mp h
    exact ⟨i, by omega, h2⟩
theorem fol_live {nd : Nat} {M : zSt} (hW : Wg nd M) {n r : Nat} (hn : n < 400) (hl : zA M 24 n ≠ nI 7) (h : fol M n = some r) : r < 400 ∧ zA M 24 r ≠ nI 7 ∧ zA M 24 r ≠ nI 6 := by
  obtain ⟨i, h1, h2, h3, h4⟩ := (folF_some 401 n r).mp h
  have := pit_live hW i n hn hl h2
  rw [h4]
  exact ⟨this.1, this.2, h3⟩
def fv (o : Option Nat) : Int32 := match o with
  | none => -1
  | some r => nI r
theorem m_fol35 {nd : Nat} {M : zSt} (hW : Wg nd M) {n : Nat} (hn : n < 400) : fX10_followed_35 (nI n) M = some (if zA M 24 n = nI 6 then -1 else nI n, M) := by
  unfold fX10_followed_35
  rw [zld_n hn (by omega)]
  split <;> rfl
theorem m_folL {nd : Nat} {M : zSt} (hW : Wg nd M) : ∀ (d n x f : Nat), n < 400 → zA M 24 n ≠ nI 7 → x + d = 401 → d < f → fX10_followed_4L f (nI n, nI x, M) = some (fv (folF M (d + 1) n), M) := by
  intro d
  induction d with
  | zero =>
    intro n x f hn hl hx hf
    obtain ⟨f, rfl⟩ : ∃ f', f = f' + 1 := ⟨f - 1, by omega⟩
    show fX10_followed_4 (fX10_followed_4L f) (nI n) (nI x) M = _
    unfold fX10_followed_4
    rw [if_pos (pt (a := 400) (by omega)), m_fol35 hW hn]
    unfold folF
    split
    · rfl
    · rfl
  | succ d ih =>
    intro n x f hn hl hx hf
    obtain ⟨f, rfl⟩ : ∃ f', f = f' + 1 := ⟨f - 1, by omega⟩
    show fX10_followed_4 (fX10_followed_4L f) (nI n) (nI x) M = _
    unfold fX10_followed_4
    rw [if_neg (nt (a := 400) (by omega)), zld_n hn (by omega)]
    by_cases h6 : zA M 24 n = nI 6
    · have h1 := (hW.p6 hn h6).lt
      rw [if_pos h6, zld_n hn (by omega), nadd, h1.2.1, ih _ _ _ h1.1 h1.2.2 (by omega) (by omega)]
      conv => rhs; unfold folF
      rw [if_pos h6]
    · rw [if_neg h6, m_fol35 hW hn, if_neg h6]
      conv => rhs; unfold folF
      rw [if_neg h6]
      rfl
theorem m_followed {nd : Nat} {M : zSt} (hW : Wg nd M) {n : Nat} (hn : n < 400) (hl : zA M 24 n ≠ nI 7) : fX10_followed (nI n) M = some (fv (fol M n), M) := by
  unfold fX10_followed
  rw [m_folL hW 401 n 0 zFU hn hl (by omega) (by rw [zFU_s]; omega), folF_402 hW hn hl]
theorem x_folL {nd : Nat} {X M : zSt} (hW : Wg nd M) (hR : Rg X M) : ∀ (d n x f : Nat), n < 400 → zA M 24 n ≠ nI 7 → x + d = 401 → d < f → fX0_followed_4L f (nI n, nI x, X) = some (fv (folF M d n), X) := by
  intro d
  induction d with
  | zero =>
    intro n x f hn hl hx hf
    obtain ⟨f, rfl⟩ : ∃ f', f = f' + 1 := ⟨f - 1, by omega⟩
    show fX0_followed_4 (fX0_followed_4L f) (nI n) (nI x) X = _
    unfold fX0_followed_4
    rw [if_pos (pt (a := 400) (by omega))]
    rfl
  | succ d ih =>
    intro n x f hn hl hx hf
    obtain ⟨f, rfl⟩ : ∃ f', f = f' + 1 := ⟨f - 1, by omega⟩
    show fX0_followed_4 (fX0_followed_4L f) (nI n) (nI x) X = _
    unfold fX0_followed_4
    have hr := hR.live hn hl
    rw [if_neg (nt (a := 400) (by omega)), x_kind hn, zbd_r, hr.1]
    by_cases h6 : zA M 24 n = nI 6
    · have h1 := (hW.p6 hn h6).lt
      rw [if_pos h6, x_first hn, zbd_r, hr.2.1, nadd, h1.2.1, ih _ _ _ h1.1 h1.2.2 (by omega) (by omega)]
      conv => rhs; unfold folF
      rw [if_pos h6]
    · rw [if_neg h6]
      conv => rhs; unfold folF
      rw [if_neg h6]
      rfl
theorem x_followed {nd : Nat} {X M : zSt} (hW : Wg nd M) (hR : Rg X M) {n : Nat} (hn : n < 400) (hl : zA M 24 n ≠ nI 7) : fX0_followed (nI n) X = some (fv (fol M n), X) := by
  unfold fX0_followed
  rw [x_folL hW hR 401 n 0 zFU hn hl (by omega) (by rw [zFU_s]; omega)]
