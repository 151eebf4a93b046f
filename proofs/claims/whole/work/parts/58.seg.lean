/-! read(): an EXPR as it stands in both, while names are still untold -/
def hst (a v : Int32) (h : Nat) : Nat := if a = nI 8 then h - v.toNatClampNeg + 1 else if a = nI 9 then h else if a = nI 10 then h - 1 else h + 1
def hgt (M : zSt) (bg : Nat) : Nat → Nat
  | 0 => 0
  | i + 1 => if i < bg then 0 else hst (zA M 9 i) (zA M 10 i) (hgt M bg i)
theorem hgt_c {M M' : zSt} {bg : Nat} : ∀ i, (∀ j, j < i → zA M' 9 j = zA M 9 j ∧ zA M' 10 j = zA M 10 j) → hgt M' bg i = hgt M bg i := by
  intro i
  induction i with
  | zero => intro _; rfl
  | succ i ih =>
    intro h
    show (if i < bg then 0 else hst (zA M' 9 i) (zA M' 10 i) (hgt M' bg i)) = (if i < bg then 0 else hst (zA M 9 i) (zA M 10 i) (hgt M bg i))
    rw [ih (fun j hj => h j (by omega)), (h i (by omega)).1, (h i (by omega)).2]
def pw (X : zSt) (i : Nat) : Nat := if zA X 17 i = nI 6 then (zA X 18 i).toNatClampNeg else 0
def psum (X : zSt) (a : Nat) : Nat → Nat
  | 0 => 0
  | b + 1 => psum X a b + if a ≤ b then pw X b else 0
theorem psum_0 (X : zSt) (a : Nat) : ∀ b, b ≤ a → psum X a b = 0 := by
  intro b
  induction b with
  | zero => intro _; rfl
  | succ b ih =>
    intro h
    show psum X a b + (if a ≤ b then pw X b else 0) = 0
    rw [ih (by omega), if_neg (by omega)]
theorem psum_s (X : zSt) {a b : Nat} (h : a ≤ b) : psum X a (b + 1) = psum X a b + pw X b := by
  show psum X a b + (if a ≤ b then pw X b else 0) = _
  rw [if_pos h]
theorem psum_app (X : zSt) {a m : Nat} (h : a ≤ m) : ∀ b, m ≤ b → psum X a b = psum X a m + psum X m b := by
  intro b
  induction b with
  | zero => intro hb; have : m = 0 := by omega
            subst this; rw [psum_0 X 0 0 (Nat.le_refl _)]; rfl
  | succ b ih =>
    intro hb
    by_cases z : m ≤ b
    · rw [psum_s X (by omega), psum_s X z, ih z]; omega
    · have : m = b + 1 := by omega
      subst this
      rw [psum_0 X (b + 1) (b + 1) (Nat.le_refl _)]; rfl
theorem psum_c {X X' : zSt} {a : Nat} : ∀ b, (∀ i, a ≤ i → i < b → pw X' i = pw X i) → psum X' a b = psum X a b := by
  intro b
  induction b with
  | zero => intro _; rfl
  | succ b ih =>
    intro h
    show psum X' a b + (if a ≤ b then pw X' b else 0) = psum X a b + (if a ≤ b then pw X b else 0)
    rw [ih (fun i h1 h2 => h i h1 (by omega))]
    by_cases z : a ≤ b
    · rw [if_pos z, if_pos z, h b z (by omega)]
    · rw [if_neg z, if_neg z]
/-- from scope to scope, where none tells the NAME -/
def CH (M : zSt) (lo nl ns : Nat) (nm : Int64) : Nat → Int32 → Int32 → Prop
  | 0, c, c' => c = c'
  | k + 1, c, c' => ∃ l, lo ≤ l ∧ l < nl ∧ c = nI l ∧ (∀ s, s < ns → zA M 22 s = nI l → zB M 16 s ≠ nm) ∧ CH M lo nl ns nm k (zA M 14 l) c'
theorem CH_up {M : zSt} {lo nl ns : Nat} {nm : Int64} : ∀ (k : Nat) (c c' : Int32) (l : Nat), CH M lo nl ns nm k c (nI l) → lo ≤ l → l < nl → (∀ s, s < ns → zA M 22 s = nI l → zB M 16 s ≠ nm) → zA M 14 l = c' → CH M lo nl ns nm (k + 1) c c' := by
  intro k
  induction k with
  | zero => intro c c' l h h1 h2 h3 h4; exact ⟨l, h1, h2, h, h3, h4⟩
  | succ k ih =>
    intro c c' l h h1 h2 h3 h4
    obtain ⟨l', a1, a2, a3, a4, a5⟩ := h
    exact ⟨l', a1, a2, a3, a4, ih _ _ l a5 h1 h2 h3 h4⟩
theorem CH_t {M M' : zSt} {lo lo' nl nl' ns ns' : Nat} {nm : Int64} (hlo : lo' ≤ lo) (hnl : nl ≤ nl') (h3 : nl' ≤ 2000) (E2 : ∀ l, lo ≤ l → l < nl → zA M' 14 l = zA M 14 l) (E3 : ∀ s, s < ns → zA M' 22 s = zA M 22 s ∧ zB M' 16 s = zB M 16 s) (E4 : ∀ s, ns ≤ s → s < ns' → ∃ l, zA M' 22 s = nI l ∧ l ≤ 2000 ∧ (l < lo ∨ nl ≤ l)) :
    ∀ (k : Nat) (c c' : Int32), CH M lo nl ns nm k c c' → CH M' lo' nl' ns' nm k c c' := by
  intro k
  induction k with
  | zero => intro c c' h; exact h
  | succ k ih =>
    intro c c' h
    obtain ⟨l, a1, a2, a3, a4, a5⟩ := h
    refine ⟨l, by omega, by omega, a3, fun s hs ho => ?_, by rw [E2 l a1 a2]; exact ih _ _ a5⟩
    by_cases z : s < ns
    · rw [(E3 s z).1] at ho
      rw [(E3 s z).2]
      exact a4 s z ho
    · obtain ⟨l', b1, b2, b3⟩ := E4 s (by omega) hs
      rw [b1] at ho
      have := (neq (by omega) (by omega)).mp ho
      omega
theorem rk_t {M M' : zSt} {l : Nat} : ∀ s, (∀ j, j < s → zA M' 22 j = zA M 22 j) → rk M' l s = rk M l s := by
  intro s
  induction s with
  | zero => intro _; rfl
  | succ s ih =>
    intro h
    show rk M' l s + (if zA M' 22 s = nI l then 1 else 0) = rk M l s + (if zA M 22 s = nI l then 1 else 0)
    rw [ih (fun j hj => h j (by omega)), h s (by omega)]
theorem rk_n {M M' : zSt} {l ns : Nat} (E3 : ∀ s, s < ns → zA M' 22 s = zA M 22 s) : ∀ d, (∀ s, ns ≤ s → s < ns + d → zA M' 22 s ≠ nI l) → rk M' l (ns + d) = rk M l ns := by
  intro d
  induction d with
  | zero => intro _; exact rk_t ns E3
  | succ d ih =>
    intro h
    show rk M' l (ns + d) + (if zA M' 22 (ns + d) = nI l then 1 else 0) = _
    rw [ih (fun s h1 h2 => h s h1 (by omega)), if_neg (h (ns + d) (by omega) (by omega))]; rfl
/-- a deed in both, a let's place, end and depth by G -/
def DR (G : Nat → Nat × Nat × Nat) (X M : zSt) (lo nl ns : Nat) (c : Int32) (o bg i : Nat) : Prop :=
  (zA X 17 i = nI 0 ∧ zA M 9 i = nI 1 ∧ zA X 18 i = zA M 10 i)
  ∨ (zA X 17 i = nI 1 ∧ zA X 18 i = nI 8 ∧ zA M 9 i = nI 2)
  ∨ (∃ p, p < 13 ∧ p ≠ 8 ∧ zA X 17 i = nI 1 ∧ zA X 18 i = nI p ∧ zA M 9 i = nI 3 ∧ zA M 10 i = nI p)
  ∨ (zA X 17 i = nI 8 ∧ zA M 9 i = nI 4 ∧ zB X 20 i = zB M 11 i ∧ (∃ p, p ≤ 800 ∧ zA X 21 i = nI p ∧ zA M 12 i = nI p) ∧ ∃ k, k + o ≤ 12 ∧ CH M lo nl ns (zB M 11 i) k (zA M 13 i) c)
  ∨ (zA X 17 i = nI 4 ∧ zA M 9 i = nI 4 ∧ ∃ k l s, k ≤ 12 ∧ lo ≤ l ∧ l < nl ∧ s < ns ∧ CH M lo nl ns (zB M 11 i) k (zA M 13 i) (nI l) ∧ zA M 22 s = nI l ∧ zB M 16 s = zB M 11 i ∧ (∀ s', s' < s → zA M 22 s' = nI l → zB M 16 s' ≠ zB M 11 i) ∧ zA X 18 i = nI (6 * (G l).2.2 + rk M l s) ∧ (G l).1 < i ∧ i < (G l).2.1)
  ∨ (∃ n, 2 ≤ n ∧ n ≤ 10 ∧ n ≤ hgt M bg i ∧ zA X 17 i = nI 5 ∧ zA X 18 i = nI n ∧ zA M 9 i = nI 8 ∧ zA M 10 i = nI n)
  ∨ (∃ l, lo ≤ l ∧ l < nl ∧ (G l).1 = i ∧ zA X 17 i = nI 6 ∧ zA X 18 i = nI (rk M l ns) ∧ zA X 19 i = nI (6 * (G l).2.2) ∧ zA M 9 i = nI 9 ∧ zA M 10 i = nI l ∧ ∀ l', lo ≤ l' → l' < nl → (G l').1 < i → i < (G l').2.1 → (G l').2.2 < (G l).2.2)
  ∨ (∃ l s, lo ≤ l ∧ l < nl ∧ s < ns ∧ zA M 22 s = nI l ∧ 1 ≤ hgt M bg i ∧ zA X 17 i = nI 7 ∧ zA X 18 i = nI (6 * (G l).2.2 + rk M l s) ∧ zA M 9 i = nI 10 ∧ zA M 10 i = nI s ∧ (G l).1 < i ∧ i < (G l).2.1)
/-- the deed i is the same in both pairs of states -/
def DQ (X M X' M' : zSt) (i : Nat) : Prop := (zA X' 17 i = zA X 17 i ∧ zA X' 18 i = zA X 18 i ∧ zA X' 19 i = zA X 19 i ∧ zA X' 21 i = zA X 21 i ∧ zB X' 20 i = zB X 20 i) ∧ (zA M' 9 i = zA M 9 i ∧ zA M' 10 i = zA M 10 i ∧ zA M' 12 i = zA M 12 i ∧ zA M' 13 i = zA M 13 i ∧ zB M' 11 i = zB M 11 i)
theorem DR_t {G G' : Nat → Nat × Nat × Nat} {X M X' M' : zSt} {lo lo' nl nl' ns ns' : Nat} {c : Int32} {o bg i : Nat} (hlo : lo' ≤ lo) (hnl : nl ≤ nl') (hns : ns ≤ ns') (h3 : nl' ≤ 2000) (hD : DQ X M X' M' i) (E2 : ∀ l, lo ≤ l → l < nl → zA M' 14 l = zA M 14 l) (E3 : ∀ s, s < ns → zA M' 22 s = zA M 22 s ∧ zB M' 16 s = zB M 16 s) (E4 : ∀ s, ns ≤ s → s < ns' → ∃ l, zA M' 22 s = nI l ∧ l ≤ 2000 ∧ (l < lo ∨ nl ≤ l)) (hG : ∀ l, lo ≤ l → l < nl → G' l = G l) (hh : hgt M' bg i = hgt M bg i) (hs : ∀ l, lo' ≤ l → l < nl' → (l < lo ∨ nl ≤ l) → (G' l).1 < i → i < (G' l).2.1 → ∀ l2, lo ≤ l2 → l2 < nl → (G' l).2.2 < (G l2).2.2) (h : DR G X M lo nl ns c o bg i) : DR G' X' M' lo' nl' ns' c o bg i := by
  obtain ⟨⟨d1, d2, d3, d4, d5⟩, d6, d7, d8, d9, d10⟩ := hD
  unfold DR at h ⊢
  rw [d1, d2, d3, d4, d5, d6, d7, d8, d9, d10, hh]
  have e22 : ∀ s, s < ns → ∀ l, rk M' l s = rk M l s := fun s hs l => rk_t s (fun j hj => (E3 j (by omega)).1)
  have ern : ∀ l, lo ≤ l → l < nl → rk M' l ns' = rk M l ns := fun l a1 a2 => by
    obtain ⟨d, rfl⟩ : ∃ d, ns' = ns + d := ⟨ns' - ns, by omega⟩
    refine rk_n (fun s hs => (E3 s hs).1) d (fun s b1 b2 z => ?_)
    obtain ⟨l', c1, c2, c3⟩ := E4 s b1 b2
    rw [c1] at z
    have := (neq (by omega) (by omega)).mp z
    omega
  have ch := CH_t (nm := zB M 11 i) hlo hnl h3 E2 E3 E4
  rcases h with h | h | h | ⟨h1, h2, h3, h4, k, h5, h6⟩ | ⟨h1, h2, k, l, s, k1, k2, k3, k4, k5, k6, k7, k8, k9, k10, k11⟩ | h | ⟨l, k2, k3, k4, k5, k6, k7, k8, k9, k10⟩ | ⟨l, s, k1, k2, k3, k4, k5, k6, k7, k8, k9, k10, k11⟩
  · exact Or.inl h
  · exact Or.inr (Or.inl h)
  · exact Or.inr (Or.inr (Or.inl h))
  · exact Or.inr (Or.inr (Or.inr (Or.inl ⟨h1, h2, h3, h4, k, h5, ch _ _ _ h6⟩)))
  · refine Or.inr (Or.inr (Or.inr (Or.inr (Or.inl ⟨h1, h2, k, l, s, k1, by omega, by omega, by omega, ch _ _ _ k5, by rw [(E3 s k4).1]; exact k6, by rw [(E3 s k4).2]; exact k7, fun s' q1 q2 => ?_, ?_, ?_, ?_⟩))))
    · rw [(E3 s' (by omega)).1] at q2
      rw [(E3 s' (by omega)).2]
      exact k8 s' q1 q2
    · rw [hG l k2 k3, e22 s k4]; exact k9
    · rw [hG l k2 k3]; exact k10
    · rw [hG l k2 k3]; exact k11
  · exact Or.inr (Or.inr (Or.inr (Or.inr (Or.inr (Or.inl h)))))
  · refine Or.inr (Or.inr (Or.inr (Or.inr (Or.inr (Or.inr (Or.inl ⟨l, by omega, by omega, by rw [hG l k2 k3]; exact k4, k5, by rw [ern l k2 k3]; exact k6, by rw [hG l k2 k3]; exact k7, k8, k9, fun l' q1 q2 q3 q4 => ?_⟩))))))
    by_cases z : lo ≤ l' ∧ l' < nl
    · rw [hG l' z.1 z.2] at q3 q4 ⊢
      rw [hG l k2 k3]
      exact k10 l' z.1 z.2 q3 q4
    · rw [hG l k2 k3]
      exact hs l' q1 q2 (by omega) q3 q4 l k2 k3
  · refine Or.inr (Or.inr (Or.inr (Or.inr (Or.inr (Or.inr (Or.inr ⟨l, s, by omega, by omega, by omega, by rw [(E3 s k3).1]; exact k4, k5, k6, ?_, k8, k9, ?_, ?_⟩))))))
    · rw [hG l k1 k2, e22 s k3]; exact k7
    · rw [hG l k1 k2]; exact k10
    · rw [hG l k1 k2]; exact k11
/-- a stretch of deeds with its lets and slots -/
def SEG (G : Nat → Nat × Nat × Nat) (X M : zSt) (a b lo nl n0 ns dd : Nat) (c : Int32) (o bg : Nat) : Prop :=
  a ≤ b ∧ lo ≤ nl ∧ n0 ≤ ns
  ∧ (∀ l, lo ≤ l → l < nl → a ≤ (G l).1 ∧ (G l).1 < (G l).2.1 ∧ (G l).2.1 ≤ b ∧ o ≤ (G l).2.2 ∧ (G l).2.2 < 12 ∧ rk M l ns ≤ 6 ∧ zA M 9 (G l).1 = nI 9 ∧ zA M 10 (G l).1 = nI l)
  ∧ (∀ i, a ≤ i → i < b → DR G X M lo nl ns c o bg i) ∧ (∀ i, a ≤ i → i ≤ b → hgt M bg i ≤ 120) ∧ psum X a b + n0 = ns
  ∧ ∀ s, n0 ≤ s → s < ns → zA M 23 s = nI dd ∧ ∃ l, lo ≤ l ∧ l < nl ∧ zA M 22 s = nI l
/-- what stood before stands as it was -/
def EXT (nd nl ns : Nat) (X M : zSt) (nl1 ns1 : Nat) (X1 M1 : zSt) : Prop :=
  (∀ i, i < nd → DQ X M X1 M1 i) ∧ (∀ l, l < nl → zA M1 14 l = zA M 14 l ∧ zA M1 15 l = zA M 15 l) ∧ (∀ s, s < ns → zA M1 22 s = zA M 22 s ∧ zA M1 23 s = zA M 23 s ∧ zB M1 16 s = zB M 16 s)
  ∧ nl ≤ nl1 ∧ ns ≤ ns1 ∧ ∀ s, ns ≤ s → s < ns1 → ∃ l, zA M1 22 s = nI l ∧ nl ≤ l ∧ l < nl1
theorem SEG_nil {G : Nat → Nat × Nat × Nat} {X M : zSt} {a lo n0 dd : Nat} {c : Int32} {o bg : Nat} (h : hgt M bg a ≤ 120) : SEG G X M a a lo lo n0 n0 dd c o bg :=
  ⟨Nat.le_refl _, Nat.le_refl _, Nat.le_refl _, fun l h1 h2 => by omega, fun i h1 h2 => by omega, fun i h1 h2 => by have : i = a := by omega
                                                                                                                    rw [this]; exact h, by rw [psum_0 X a a (Nat.le_refl _)]; omega, fun s h1 h2 => by omega⟩
theorem SEG_app {G G' : Nat → Nat × Nat × Nat} {X M X' M' : zSt} {a m b lo lm nl n0 nm ns dd : Nat} {c : Int32} {o bg : Nat} (h3 : nl ≤ 2000) (h1 : SEG G X M a m lo lm n0 nm dd c o bg) (hE : EXT m lm nm X M nl ns X' M') (hG : ∀ l, l < lm → G' l = G l) (h2 : SEG G' X' M' m b lm nl nm ns dd c o bg) : SEG G' X' M' a b lo nl n0 ns dd c o bg := by
  obtain ⟨a1, a2, a3, a4, a5, a6, a7, a8⟩ := h1
  obtain ⟨b1, b2, b3, b4, b5, b6, b7, b8⟩ := h2
  obtain ⟨e1, e2, e3, e4, e5, e6⟩ := hE
  have hh : ∀ i, i ≤ m → hgt M' bg i = hgt M bg i := fun i hi => hgt_c i (fun j hj => ⟨(e1 j (by omega)).2.1, (e1 j (by omega)).2.2.1⟩)
  have E4 : ∀ s, nm ≤ s → s < ns → ∃ l, zA M' 22 s = nI l ∧ l ≤ 2000 ∧ (l < lo ∨ lm ≤ l) := fun s q1 q2 => by
    obtain ⟨l, r1, r2, r3⟩ := e6 s q1 q2
    exact ⟨l, r1, by omega, Or.inr r2⟩
  refine ⟨by omega, by omega, by omega, fun l q1 q2 => ?_, fun i q1 q2 => ?_, fun i q1 q2 => ?_, ?_, fun s q1 q2 => ?_⟩
  · by_cases z : l < lm
    · obtain ⟨w1, w2, w3, w4, w5, w6, w7, w8⟩ := a4 l q1 z
      rw [hG l z]
      refine ⟨w1, w2, by omega, w4, w5, ?_, ?_, ?_⟩
      · obtain ⟨d, rfl⟩ : ∃ d, ns = nm + d := ⟨ns - nm, by omega⟩
        rw [rk_n (fun s hs => (e3 s hs).1) d (fun s p1 p2 p3 => by
          obtain ⟨l', r1, r2, r3⟩ := e6 s p1 p2
          rw [r1] at p3
          have := (neq (by omega) (by omega)).mp p3
          omega)]
        exact w6
      · rw [(e1 _ (by omega)).2.1]; exact w7
      · rw [(e1 _ (by omega)).2.2.1]; exact w8
    · obtain ⟨w1, w2⟩ := b4 l (by omega) q2
      exact ⟨by omega, w2⟩
  · by_cases z : i < m
    · exact DR_t (Nat.le_refl _) b2 b3 h3 (e1 i z) (fun l _ r2 => (e2 l r2).1) (fun s r => ⟨(e3 s r).1, (e3 s r).2.2⟩) E4 (fun l _ r2 => hG l r2) (hh i (by omega)) (fun l r1 r2 r3 r4 => by
        have := (b4 l (by omega) r2).1
        omega) (a5 i q1 z)
    · exact DR_t (G := G') (X := X') (M := M') (nl := nl) (ns := ns) a2 (Nat.le_refl _) (Nat.le_refl _) h3 ⟨⟨rfl, rfl, rfl, rfl, rfl⟩, rfl, rfl, rfl, rfl, rfl⟩ (fun _ _ _ => rfl) (fun _ _ => ⟨rfl, rfl⟩) (fun s r1 r2 => by omega) (fun _ _ _ => rfl) rfl (fun l r1 r2 r3 r4 r5 => by
        have hl : l < lm := by omega
        have := (a4 l r1 hl).2.2.1
        rw [hG l hl] at r5
        omega) (b5 i (by omega) q2)
  · by_cases z : i ≤ m
    · rw [hh i z]; exact a6 i q1 z
    · exact b6 i (by omega) q2
  · rw [psum_app X' a1 b b1, psum_c (X := X) m (fun i r1 r2 => by unfold pw; rw [(e1 i r2).1.1, (e1 i r2).1.2.1])]
    omega
  · by_cases z : s < nm
    · obtain ⟨w1, l, w2, w3, w4⟩ := a8 s q1 z
      exact ⟨by rw [(e3 s z).2.1]; exact w1, l, w2, by omega, by rw [(e3 s z).1]; exact w4⟩
    · obtain ⟨w1, l, w2, w3, w4⟩ := b8 s (by omega) q2
      exact ⟨w1, l, by omega, w3, w4⟩
theorem DQ_trans {X M X1 M1 X2 M2 : zSt} {i : Nat} (h1 : DQ X M X1 M1 i) (h2 : DQ X1 M1 X2 M2 i) : DQ X M X2 M2 i := by
  obtain ⟨⟨a1, a2, a3, a4, a5⟩, a6, a7, a8, a9, a10⟩ := h1
  obtain ⟨⟨b1, b2, b3, b4, b5⟩, b6, b7, b8, b9, b10⟩ := h2
  exact ⟨⟨b1.trans a1, b2.trans a2, b3.trans a3, b4.trans a4, b5.trans a5⟩, b6.trans a6, b7.trans a7, b8.trans a8, b9.trans a9, b10.trans a10⟩
theorem EXT_trans {nd nd1 nl nl1 nl2 ns ns1 ns2 : Nat} {X M X1 M1 X2 M2 : zSt} (hnd : nd ≤ nd1) (h1 : EXT nd nl ns X M nl1 ns1 X1 M1) (h2 : EXT nd1 nl1 ns1 X1 M1 nl2 ns2 X2 M2) : EXT nd nl ns X M nl2 ns2 X2 M2 := by
  obtain ⟨a1, a2, a3, a4, a5, a6⟩ := h1
  obtain ⟨b1, b2, b3, b4, b5, b6⟩ := h2
  refine ⟨fun i hi => DQ_trans (a1 i hi) (b1 i (by omega)), fun l hl => ?_, fun s hs => ?_, by omega, by omega, fun s q1 q2 => ?_⟩
  · exact ⟨((b2 l (by omega)).1).trans (a2 l hl).1, ((b2 l (by omega)).2).trans (a2 l hl).2⟩
  · exact ⟨((b3 s (by omega)).1).trans (a3 s hs).1, ((b3 s (by omega)).2.1).trans (a3 s hs).2.1, ((b3 s (by omega)).2.2).trans (a3 s hs).2.2⟩
  · by_cases z : s < ns1
    · obtain ⟨l, r1, r2, r3⟩ := a6 s q1 z
      exact ⟨l, by rw [(b3 s z).1]; exact r1, r2, by omega⟩
    · obtain ⟨l, r1, r2, r3⟩ := b6 s (by omega) q2
      exact ⟨l, r1, by omega, r3⟩
/-- what reading an EXPR at depth o may write -/
def eX (o : Nat) (X X1 : zSt) : Prop := FQ [17, 18, 19, 21] [7, 10, 11, 12, 13] [20, 23] X X1 ∧ ∀ j, j < 6 * o → zB X1 23 j = zB X 23 j
def eM (o : Nat) (M M1 : zSt) : Prop := FQ [9, 10, 12, 13, 14, 15, 17, 18, 19, 20, 21, 22, 23] [2, 3, 4, 5, 9, 10, 11, 12, 13, 14] [11, 16] M M1 ∧ ∀ p, p < o → zA M1 17 p = zA M 17 p ∧ zA M1 18 p = zA M 18 p ∧ zA M1 19 p = zA M 19 p ∧ zA M1 20 p = zA M 20 p ∧ zA M1 21 p = zA M 21 p
theorem eX_trans {o o' : Nat} {X Y Z : zSt} (ho : o ≤ o') (h1 : eX o X Y) (h2 : eX o' Y Z) : eX o X Z := ⟨FQ_trans h1.1 h2.1, fun j hj => (h2.2 j (by omega)).trans (h1.2 j hj)⟩
theorem eM_trans {o o' : Nat} {X Y Z : zSt} (ho : o ≤ o') (h1 : eM o X Y) (h2 : eM o' Y Z) : eM o X Z := ⟨FQ_trans h1.1 h2.1, fun p hp => by
  obtain ⟨a1, a2, a3, a4, a5⟩ := h1.2 p hp
  obtain ⟨b1, b2, b3, b4, b5⟩ := h2.2 p (by omega)
  exact ⟨b1.trans a1, b2.trans a2, b3.trans a3, b4.trans a4, b5.trans a5⟩⟩
def STP (e dd : Nat) (c : Int32) (o bg : Nat) (G : Nat → Nat × Nat × Nat) (pl nd nl ns : Nat) (X M : zSt) (G1 : Nat → Nat × Nat × Nat) (pl1 nd1 nl1 ns1 : Nat) (X1 M1 : zSt) : Prop :=
  pl ≤ pl1 ∧ nd1 + pl ≤ nd + pl1 + e ∧ 3 * nl1 + pl ≤ 3 * nl + pl1 ∧ 3 * ns1 + pl ≤ 3 * ns + pl1 ∧ (∀ l, l < nl → G1 l = G l) ∧ EXT nd nl ns X M nl1 ns1 X1 M1 ∧ eX o X X1 ∧ eM o M M1 ∧ SEG G1 X1 M1 nd nd1 nl nl1 ns ns1 dd c o bg
theorem STP_trans {e dd : Nat} {c : Int32} {o bg : Nat} {G G1 G2 : Nat → Nat × Nat × Nat} {pl nd nl ns pl1 nd1 nl1 ns1 pl2 nd2 nl2 ns2 : Nat} {X M X1 M1 X2 M2 : zSt} (h3 : nl2 ≤ 2000) (h1 : STP 0 dd c o bg G pl nd nl ns X M G1 pl1 nd1 nl1 ns1 X1 M1) (h2 : STP e dd c o bg G1 pl1 nd1 nl1 ns1 X1 M1 G2 pl2 nd2 nl2 ns2 X2 M2) : STP e dd c o bg G pl nd nl ns X M G2 pl2 nd2 nl2 ns2 X2 M2 := by
  obtain ⟨a1, a2, a3, a4, a5, a6, a7, a8, a9⟩ := h1
  obtain ⟨b1, b2, b3, b4, b5, b6, b7, b8, b9⟩ := h2
  have := a9.2.1
  exact ⟨by omega, by omega, by omega, by omega, fun l hl => (b5 l (by omega)).trans (a5 l hl), EXT_trans a9.1 a6 b6, eX_trans (Nat.le_refl _) a7 b7, eM_trans (Nat.le_refl _) a8 b8, SEG_app h3 a9 b6 b5 b9⟩
