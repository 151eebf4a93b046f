/-! the STACKS' shape: below a top there are APPLYS, each leading to the next; a STACK on the DUMP waits for the lowest of the next -/
def chn (M : zSt) (a b : Nat) : Prop := ∃ c, (∀ x, x < c → zA M 24 (pit M x a) = nI 6) ∧ pit M c a = b
abbrev fs (M : zSt) (n : Nat) : Nat := (zA M 25 n).toNatClampNeg
abbrev sn (M : zSt) (n : Nat) : Nat := (zA M 26 n).toNatClampNeg
def hi (pl sk : Nat) (bs : Nat → Nat) (j : Nat) : Nat := if j + 1 < sk then bs (j + 1) else pl
def Sp (M : zSt) (pl sk : Nat) (bs : Nat → Nat) : Prop := ∀ j, j < sk → ∀ i, bs j ≤ i → i + 1 < hi pl sk bs j → zA M 24 (en M i) = nI 1 ∧ chn M (fs M (en M i)) (en M (i + 1))
def Dp (M : zSt) (pl sk : Nat) (bs : Nat → Nat) : Prop := ∀ j, j + 1 < sk → ∃ p k, zA M 24 (en M (bs (j + 1) - 1)) = nI 3 ∧ zA M 25 (en M (bs (j + 1) - 1)) = nI p ∧ p < 13 ∧ p ≠ 8 ∧ wnt p < bs (j + 1) - bs j ∧ 1 ≤ k ∧ k ≤ mny p ∧ chn M (sn M (en M (bs (j + 1) - 1 - k))) (en M (bs (j + 1)))
theorem chn_det {M : zSt} {a b b' : Nat} (h : chn M a b) (hb : zA M 24 b ≠ nI 6) (h' : chn M a b') (hb' : zA M 24 b' ≠ nI 6) : b = b' := by
  obtain ⟨c, h1, h2⟩ := h
  obtain ⟨c', h1', h2'⟩ := h'
  rcases Nat.lt_trichotomy c c' with q | q | q
  · exact absurd (by rw [← h2]; exact h1' c q) hb
  · subst q; rw [← h2, ← h2']
  · exact absurd (by rw [← h2']; exact h1 c' q) hb'
theorem chn_fol {M : zSt} {a r : Nat} (h : fol M a = some r) : chn M a r ∧ zA M 24 r ≠ nI 6 := by
  obtain ⟨i, h1, h2, h3, h4⟩ := (folF_some 401 a r).mp h
  exact ⟨⟨i, h2, h4.symm⟩, by rw [h4]; exact h3⟩
theorem fol_of {nd : Nat} {M : zSt} (hW : Wg nd M) {a b : Nat} (ha : a < 400) (hl : zA M 24 a ≠ nI 7) (h : chn M a b) (hb : zA M 24 b ≠ nI 6) : fol M a = some b := by
  cases hf : fol M a with
  | none =>
    have h1 := fol_ring hW ha hl ((folF_none 401 a).mp hf)
    obtain ⟨c, h2, h3⟩ := h
    exact absurd (by rw [← h3]; exact h1 c) hb
  | some r =>
    obtain ⟨h1, h2⟩ := chn_fol hf
    rw [chn_det h1 h2 h hb]
theorem chn_refl (M : zSt) (a : Nat) : chn M a a := ⟨0, fun x hx => absurd hx (Nat.not_lt_zero _), rfl⟩
theorem chn_ext {M : zSt} {a b : Nat} (h : chn M a b) (hb : zA M 24 b = nI 6) : chn M a (fs M b) := by
  obtain ⟨c, h1, h2⟩ := h
  refine ⟨c + 1, fun x hx => ?_, by rw [pit_succ, h2]⟩
  by_cases q : x < c
  · exact h1 x q
  · have : x = c := by omega
    rw [this, h2]; exact hb
theorem pit_frame {M M' : zSt} (h : ∀ n, zA M 24 n = nI 6 → zA M' 24 n = nI 6 ∧ zA M' 25 n = zA M 25 n) : ∀ (c a : Nat), (∀ x, x < c → zA M 24 (pit M x a) = nI 6) → pit M' c a = pit M c a ∧ ∀ x, x < c → zA M' 24 (pit M' x a) = nI 6 := by
  intro c
  induction c with
  | zero => intro a _; exact ⟨rfl, fun x hx => absurd hx (Nat.not_lt_zero _)⟩
  | succ c ih =>
    intro a ha
    have h0 := h a (ha 0 (by omega))
    have e : (zA M' 25 a).toNatClampNeg = (zA M 25 a).toNatClampNeg := by rw [h0.2]
    obtain ⟨i1, i2⟩ := ih (fs M a) (fun x hx => ha (x + 1) (by omega))
    constructor
    · show pit M' c (zA M' 25 a).toNatClampNeg = pit M c (zA M 25 a).toNatClampNeg
      rw [e]; exact i1
    · intro x hx
      cases x with
      | zero => exact h0.1
      | succ x =>
        show zA M' 24 (pit M' x (zA M' 25 a).toNatClampNeg) = nI 6
        rw [e]; exact i2 x (by omega)
theorem chn_frame {M M' : zSt} (h : ∀ n, zA M 24 n = nI 6 → zA M' 24 n = nI 6 ∧ zA M' 25 n = zA M 25 n) {a b : Nat} (hc : chn M a b) : chn M' a b := by
  obtain ⟨c, h1, h2⟩ := hc
  obtain ⟨i1, i2⟩ := pit_frame h c a h1
  exact ⟨c, i2, by rw [i1]; exact h2⟩
theorem MS.hile {M : zSt} {pl sk : Nat} {bs : Nat → Nat} (h : MS M pl sk bs) {j : Nat} (hj : j < sk) : bs j < hi pl sk bs j ∧ hi pl sk bs j ≤ pl := by
  unfold hi
  split
  · rename_i q
    exact ⟨h.2.2.2.2.2.2.1 j q, Nat.le_of_lt (h.bslt q)⟩
  · exact ⟨h.bslt hj, Nat.le_refl _⟩
/-- which stack a place is in -/
theorem MS.stk {M : zSt} {pl sk : Nat} {bs : Nat → Nat} (h : MS M pl sk bs) {i : Nat} (hi0 : i < pl) : ∃ j, j < sk ∧ bs j ≤ i ∧ i < hi pl sk bs j := by
  have key : ∀ c, c < sk → bs c ≤ i → ∃ j, j < sk ∧ bs j ≤ i ∧ i < hi pl sk bs j := by
    intro c
    induction hc : sk - c generalizing c with
    | zero => intro h1; omega
    | succ n ih =>
      intro h1 h2
      by_cases q : i < hi pl sk bs c
      · exact ⟨c, h1, h2, q⟩
      · unfold hi at q
        by_cases q2 : c + 1 < sk
        · rw [if_pos q2] at q
          exact ih (c + 1) (by omega) q2 (by omega)
        · rw [if_neg q2] at q
          omega
  exact key 0 h.2.2.1 (by rw [h.2.2.2.2.1]; omega)
/-- entries lead on as one way: from equal entries to equal ones -/
theorem lead {M : zSt} {pl sk : Nat} {bs : Nat → Nat} (hS : Sp M pl sk bs) {j j' i i' : Nat} (hj : j < sk) (hj' : j' < sk) (h1 : bs j ≤ i) (h1' : bs j' ≤ i') (e : en M i = en M i') (hn : ∀ x, x < pl → zA M 24 (en M x) ≠ nI 6) (hle : hi pl sk bs j ≤ pl) (hle' : hi pl sk bs j' ≤ pl) : ∀ t, i + t < hi pl sk bs j → i' + t < hi pl sk bs j' → en M (i + t) = en M (i' + t) := by
  intro t
  induction t with
  | zero => intro _ _; exact e
  | succ t ih =>
    intro h2 h2'
    have e1 := ih (by omega) (by omega)
    have a := (hS j hj (i + t) (by omega) h2).2
    have a' := (hS j' hj' (i' + t) (by omega) h2').2
    rw [← e1] at a'
    exact chn_det a (hn _ (by omega)) a' (hn _ (by omega))
/-- the lowest of a stack whose top has all that it wants is no VALUE -/
theorem vl_spine {nd : Nat} {X M : zSt} {pl sk : Nat} {bs : Nat → Nat} (hW : Wg nd M) (h : MS M pl sk bs) (hS : Sp M pl sk bs) {j p : Nat} (hj : j < sk) (k3 : zA M 24 (en M (hi pl sk bs j - 1)) = nI 3) (kp : zA M 25 (en M (hi pl sk bs j - 1)) = nI p) (hp : p < 13) :
    ∀ (f t i : Nat), bs j ≤ i → i < hi pl sk bs j → wnt p ≤ t + (hi pl sk bs j - 1 - i) → f + t ≤ 100 → vlF M f (en M i) t = false := by
  have hh := h.hile hj
  have hpl := h.2.2.2.1
  intro f
  induction f with
  | zero =>
    intro t i h1 h2 h3 ht
    unfold vlF
    by_cases q : i + 1 < hi pl sk bs j
    · rw [if_pos (hS j hj i h1 q).1]
    · have e : i = hi pl sk bs j - 1 := by omega
      have hw := wnt_pos p
      rw [e, if_neg (by rw [k3]; decide)]
      unfold tst
      rw [if_neg (by rw [k3]; decide), if_pos k3, kp, ncl (by omega), decide_eq_false (fun z => z (qle (by omega)))]
  | succ f ih =>
    intro t i h1 h2 h3 ht
    unfold vlF
    by_cases q : i + 1 < hi pl sk bs j
    · obtain ⟨a, b⟩ := hS j hj i h1 q
      rw [if_pos a]
      have he := h.ent (i := i) (by omega)
      have hf := (hW.p1 he.1 a).1.lt
      have hnx : zA M 24 (en M (i + 1)) ≠ nI 6 := by
        by_cases q2 : i + 1 + 1 < hi pl sk bs j
        · rw [(hS j hj (i + 1) (by omega) q2).1]; decide
        · have e : i + 1 = hi pl sk bs j - 1 := by omega
          rw [e, k3]; decide
      have ef : fol M (zA M 25 (en M i)).toNatClampNeg = some (en M (i + 1)) := fol_of hW hf.1 hf.2.2 b hnx
      rw [ef]
      dsimp only
      exact ih (t + 1) (i + 1) (by omega) q (by omega) (by omega)
    · have e : i = hi pl sk bs j - 1 := by omega
      have hw := wnt_pos p
      rw [e, if_neg (by rw [k3]; decide)]
      unfold tst
      rw [if_neg (by rw [k3]; decide), if_pos k3, kp, ncl (by omega), decide_eq_false (fun z => z (qle (by omega)))]
