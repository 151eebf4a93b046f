/-- a deed of a let's BINDINGS or of its EXPR -/
def DRB (G : Nat → Nat × Nat × Nat) (X M : zSt) (l nl ns o bg i : Nat) : Prop := DR G X M (l + 1) nl ns (nI l) (o + 1) bg i ∨ ∃ s, s < ns ∧ zA M 22 s = nI l ∧ 1 ≤ hgt M bg i ∧ zA X 17 i = nI 7 ∧ zA X 18 i = nI (6 * o + rk M l s) ∧ zA M 9 i = nI 10 ∧ zA M 10 i = nI s
/-- what is read of a let -/
def LSG (G : Nat → Nat × Nat × Nat) (X M : zSt) (a nd l nl ns o bg : Nat) : Prop :=
  a + 1 ≤ nd ∧ l + 1 ≤ nl
  ∧ (∀ l', l + 1 ≤ l' → l' < nl → a + 1 ≤ (G l').1 ∧ (G l').1 < (G l').2.1 ∧ (G l').2.1 ≤ nd ∧ o + 1 ≤ (G l').2.2 ∧ (G l').2.2 < 12 ∧ rk M l' ns ≤ 6 ∧ zA M 9 (G l').1 = nI 9 ∧ zA M 10 (G l').1 = nI l')
  ∧ (∀ i, a + 1 ≤ i → i < nd → DRB G X M l nl ns o bg i) ∧ ∀ i, a ≤ i → i ≤ nd → hgt M bg i ≤ 120
theorem LSG_t {G G' : Nat → Nat × Nat × Nat} {X M X' M' : zSt} {a nd nd' l nl nl' ns ns' o bg : Nat} (h : LSG G X M a nd l nl ns o bg) (hnd : nd ≤ nd') (hnl : nl ≤ nl') (hns : ns ≤ ns') (h3 : nl' ≤ 2000) (hD : ∀ i, a < i → i < nd → DQ X M X' M' i) (hM : ∀ i, i < nd → zA M' 9 i = zA M 9 i ∧ zA M' 10 i = zA M 10 i) (E2 : ∀ l', l + 1 ≤ l' → l' < nl → zA M' 14 l' = zA M 14 l') (E3 : ∀ s, s < ns → zA M' 22 s = zA M 22 s ∧ zB M' 16 s = zB M 16 s) (E4 : ∀ s, ns ≤ s → s < ns' → ∃ l', zA M' 22 s = nI l' ∧ l' ≤ 2000 ∧ (l' < l + 1 ∨ nl ≤ l')) (hG : ∀ l', l + 1 ≤ l' → l' < nl → G' l' = G l')
    (n1 : ∀ l', nl ≤ l' → l' < nl' → nd ≤ (G' l').1 ∧ (G' l').1 < (G' l').2.1 ∧ (G' l').2.1 ≤ nd' ∧ o + 1 ≤ (G' l').2.2 ∧ (G' l').2.2 < 12 ∧ rk M' l' ns' ≤ 6 ∧ zA M' 9 (G' l').1 = nI 9 ∧ zA M' 10 (G' l').1 = nI l') (n2 : ∀ i, nd ≤ i → i < nd' → DRB G' X' M' l nl' ns' o bg i) (n3 : ∀ i, nd ≤ i → i ≤ nd' → hgt M' bg i ≤ 120) : LSG G' X' M' a nd' l nl' ns' o bg := by
  obtain ⟨a1, a2, a3, a4, a5⟩ := h
  have hh : ∀ i, i ≤ nd → hgt M' bg i = hgt M bg i := fun i hi => hgt_c i (fun j hj => hM j (by omega))
  refine ⟨by omega, by omega, fun l' q1 q2 => ?_, fun i q1 q2 => ?_, fun i q1 q2 => ?_⟩
  · by_cases z : l' < nl
    · obtain ⟨w1, w2, w3, w4, w5, w6, w7, w8⟩ := a3 l' q1 z
      rw [hG l' q1 z]
      refine ⟨w1, w2, by omega, w4, w5, ?_, ?_, ?_⟩
      · obtain ⟨d, rfl⟩ : ∃ d, ns' = ns + d := ⟨ns' - ns, by omega⟩
        rw [rk_n (fun s hs => (E3 s hs).1) d (fun s p1 p2 p3 => by
          obtain ⟨l2, r1, r2, r3⟩ := E4 s p1 p2
          rw [r1] at p3
          have := (neq (by omega) (by omega)).mp p3
          omega)]
        exact w6
      · rw [(hM _ (by omega)).1]; exact w7
      · rw [(hM _ (by omega)).2]; exact w8
    · obtain ⟨w1, w2⟩ := n1 l' (by omega) q2
      exact ⟨by omega, w2⟩
  · by_cases z : i < nd
    · rcases a4 i q1 z with d | ⟨s, d1, d2, d3, d4, d5, d6, d7⟩
      · left
        exact DR_t (Nat.le_refl _) hnl hns h3 (hD i (by omega) z) E2 E3 E4 hG (hh i (by omega)) (fun l2 r1 r2 r3 r4 => by
          have := (n1 l2 (by omega) r2).1
          omega) d
      · right
        obtain ⟨⟨e1, e2, -⟩, e3, e4, -⟩ := hD i (by omega) z
        refine ⟨s, by omega, by rw [(E3 s d1).1]; exact d2, by rw [hh i (by omega)]; exact d3, by rw [e1]; exact d4, ?_, by rw [e3]; exact d6, by rw [e4]; exact d7⟩
        rw [e2, rk_t (M := M) (M' := M') s (fun j hj => (E3 j (by omega)).1)]; exact d5
    · exact n2 i (by omega) q2
  · by_cases z : i ≤ nd
    · rw [hh i z]; exact a5 i q1 z
    · exact n3 i (by omega) q2
theorem DR_co {G : Nat → Nat × Nat × Nat} {X M : zSt} {lo nl ns : Nat} {c c' : Int32} {o o' bg i : Nat} (h8 : ¬ zA X 17 i = nI 8) (h : DR G X M lo nl ns c o bg i) : DR G X M lo nl ns c' o' bg i := by
  unfold DR at h ⊢
  rcases h with h | h | h | h | h
  · exact Or.inl h
  · exact Or.inr (Or.inl h)
  · exact Or.inr (Or.inr (Or.inl h))
  · exact absurd h.1 h8
  · exact Or.inr (Or.inr (Or.inr (Or.inr h)))
theorem min_ex {P : Nat → Prop} [DecidablePred P] : ∀ n, (∃ j, j < n ∧ P j) → ∃ j, j < n ∧ P j ∧ ∀ j', j' < j → ¬ P j' := by
  intro n
  induction n with
  | zero => intro h; obtain ⟨j, h1, -⟩ := h; omega
  | succ n ih =>
    intro h
    by_cases z : ∃ j, j < n ∧ P j
    · obtain ⟨j, h1, h2, h3⟩ := ih z
      exact ⟨j, by omega, h2, h3⟩
    · obtain ⟨j, h1, h2⟩ := h
      have : j = n := by
        by_cases y : j < n
        · exact absurd ⟨j, y, h2⟩ z
        · omega
      subst this
      exact ⟨j, by omega, h2, fun j' q w => z ⟨j', q, w⟩⟩
/-- the let is read: a stretch of deeds -/
theorem let_close {G : Nat → Nat × Nat × Nat} {X X' M M' : zSt} {a nd l nl n0 ns o bg cnt dd : Nat} {c : Int32} (h : LSG G X M a nd l nl ns o bg) (ho : o < 12) (hnl : nl ≤ 2000) (hbg : bg ≤ a) (hc6 : cnt ≤ 6) (hrk : rk M l ns = cnt) (hcn : zA M 14 l = c) (hb : ∀ s, s < ns → zA M 22 s = nI l → zB X 23 (6 * o + rk M l s) = zB M 16 s) (x17 : zA X 17 a = nI 6) (x18 : zA X 18 a = nI cnt) (x19 : zA X 19 a = nI (6 * o)) (m9 : zA M 9 a = nI 9) (m10 : zA M 10 a = nI l) (hn0 : n0 ≤ ns) (hps : psum X (a + 1) nd + n0 + cnt = ns) (how : ∀ s, n0 ≤ s → s < ns → zA M 23 s = nI dd ∧ ∃ l', l ≤ l' ∧ l' < nl ∧ zA M 22 s = nI l')
    (fX : FQ [17, 18] [] [] X X') (hT : TB X X' a nd (fun j => zB X 23 (6 * o + j)) (6 * o) 0 cnt (nI 4)) (fA : zA M' = zA M) (fB : zB M' = zB M) : SEG (fun k => if k = l then (a, nd, o) else G k) X' M' a nd l nl n0 ns dd c o bg := by
  obtain ⟨a1, a2, a3, a4, a5⟩ := h
  have hgM : ∀ i, hgt M' bg i = hgt M bg i := fun i => hgt_c i (fun j _ => by rw [fA]; exact ⟨rfl, rfl⟩)
  have hrM : ∀ k s, rk M' k s = rk M k s := fun k s => rk_t s (fun j _ => by rw [fA])
  have gl : (fun k => if k = l then (a, nd, o) else G k) l = (a, nd, o) := if_pos rfl
  have gn : ∀ k, k ≠ l → (fun k => if k = l then (a, nd, o) else G k) k = G k := fun k hk => if_neg hk
  have keep : ∀ i, ¬ zA X 17 i = nI 8 → zA X' 17 i = zA X 17 i ∧ zA X' 18 i = zA X 18 i := fun i hi => (hT i).2 (Or.inl (fun w => hi w.2.2))
  have pwk : ∀ i, pw X' i = pw X i := fun i => by
    unfold pw
    by_cases z : zA X 17 i = nI 8
    · by_cases y : zA X' 17 i = nI 8 ∨ zA X' 17 i = nI 4
      · rw [z, if_neg (show ¬ nI 8 = nI 6 by decide)]
        rcases y with y | y <;> rw [y] <;> exact if_neg (by decide)
      · exfalso
        by_cases w : a ≤ i ∧ i < nd ∧ ∃ j, j < cnt ∧ zB X 23 (6 * o + j) = zB X 20 i
        · obtain ⟨w1, w2, w3⟩ := w
          obtain ⟨j, j1, j2, j3⟩ := min_ex cnt w3
          exact y (Or.inr ((hT i).1 w1 w2 z j (Nat.zero_le _) j1 j2 (fun j' _ q => j3 j' q)).1)
        · refine y (Or.inl ?_)
          rw [((hT i).2 ?_).1]; exact z
          by_cases v : a ≤ i ∧ i < nd
          · exact Or.inr (fun j _ u q => w ⟨v.1, v.2, j, u, q⟩)
          · exact Or.inl (fun q => v ⟨q.1, q.2.1⟩)
    · rw [(keep i z).1, (keep i z).2]
  refine ⟨by omega, by omega, hn0, fun k q1 q2 => ?_, fun i q1 q2 => ?_, fun i q1 q2 => ?_, ?_, fun s q1 q2 => ?_⟩
  · by_cases z : k = l
    · subst z
      rw [gl, fA, hrM]
      exact ⟨Nat.le_refl _, by show a < nd; omega, Nat.le_refl _, Nat.le_refl _, ho, by omega, m9, m10⟩
    · rw [gn k z, fA, hrM]
      obtain ⟨w1, w2, w3, w4, w5, w6, w7, w8⟩ := a3 k (by omega) q2
      exact ⟨by omega, w2, w3, by omega, w5, w6, w7, w8⟩
  · by_cases ia : i = a
    · subst ia
      obtain ⟨k1, k2⟩ := keep i (by rw [x17]; decide)
      refine Or.inr (Or.inr (Or.inr (Or.inr (Or.inr (Or.inr (Or.inl ⟨l, Nat.le_refl _, by omega, by rw [gl], by rw [k1]; exact x17, by rw [k2, hrM, hrk]; exact x18, by rw [gl, fX.1 19 (by decide)]; exact x19, by rw [fA]; exact m9, by rw [fA]; exact m10, fun l' r1 r2 r3 r4 => ?_⟩))))))
      by_cases z : l' = l
      · rw [z, gl] at r3; exact absurd r3 (Nat.lt_irrefl _)
      · rw [gn l' z] at r3
        have := (a3 l' (by omega) r2).1
        omega
    · rcases a4 i (by omega) q2 with d | ⟨s, d1, d2, d3, d4, d5, d6, d7⟩
      · by_cases z : zA X 17 i = nI 8
        · unfold DR at d
          rcases d with d | d | d | ⟨d1, d2, d3, d4, k, d5, d6⟩ | d | ⟨n, -, -, -, d, -⟩ | ⟨n, -, -, -, d, -⟩ | ⟨n, s, -, -, -, -, -, d, -⟩
          · rw [d.1] at z; exact absurd z (by decide)
          · rw [d.1] at z; exact absurd z (by decide)
          · obtain ⟨p, -, -, d, -⟩ := d
            rw [d] at z; exact absurd z (by decide)
          · by_cases w : ∃ j, j < cnt ∧ zB X 23 (6 * o + j) = zB X 20 i
            · obtain ⟨j, j1, j2, j3⟩ := min_ex cnt w
              obtain ⟨y1, y2⟩ := (hT i).1 q1 q2 z j (Nat.zero_le _) j1 j2 (fun j' _ q => j3 j' q)
              obtain ⟨s, s1, s2, s3⟩ := rk_surj M l j ns (by omega)
              refine Or.inr (Or.inr (Or.inr (Or.inr (Or.inl ⟨y1, by rw [fA]; exact d2, k, l, s, by omega, Nat.le_refl _, by omega, s1, ?_, by rw [fA]; exact s2, ?_, fun s' u1 u2 => ?_, ?_, ?_, ?_⟩))))
              · rw [fA, fB]
                exact CH_t (by omega) (Nat.le_refl _) hnl (fun _ _ _ => by rw [fA]) (fun _ _ => by rw [fA, fB]; exact ⟨rfl, rfl⟩) (fun s u1 u2 => by omega) _ _ _ d6
              · rw [fB, ← d3, ← j2, ← s3]; exact (hb s s1 s2).symm
              · rw [fA] at u2
                rw [fB, ← d3, ← hb s' (by omega) u2]
                exact j3 _ (by rw [← s3]; exact rk_lt M l u1 u2)
              · rw [gl, hrM, s3]; exact y2
              · rw [gl]; show a < i; omega
              · rw [gl]; exact q2
            · obtain ⟨y1, y2⟩ := (hT i).2 (Or.inr (fun j _ u q => w ⟨j, u, q⟩))
              refine Or.inr (Or.inr (Or.inr (Or.inl ⟨by rw [y1]; exact d1, by rw [fA]; exact d2, by rw [fX.2.2 20 (by decide), fB]; exact d3, by rw [fX.1 21 (by decide), fA]; exact d4, k + 1, by omega, ?_⟩)))
              rw [fA, fB]
              refine CH_up k _ _ l (CH_t (lo := l + 1) (nl := nl) (ns := ns) (by omega) (Nat.le_refl _) hnl (fun _ _ _ => by rw [fA]) (fun _ _ => by rw [fA, fB]; exact ⟨rfl, rfl⟩) (fun s u1 u2 => by omega) _ _ _ d6) (Nat.le_refl _) (by omega) (fun s u1 u2 u3 => ?_) (by rw [fA]; exact hcn)
              rw [fA] at u2
              rw [fB] at u3
              exact w ⟨rk M l s, by have := rk_lt M l u1 u2; omega, by rw [hb s u1 u2, u3, d3]⟩
          · rw [d.1] at z; exact absurd z (by decide)
          · rw [d] at z; exact absurd z (by decide)
          · rw [d] at z; exact absurd z (by decide)
          · rw [d] at z; exact absurd z (by decide)
        · obtain ⟨k1, k2⟩ := keep i z
          refine DR_co (by rw [k1]; exact z) (DR_t (X := X) (M := M) (lo := l + 1) (nl := nl) (ns := ns) (by omega) (Nat.le_refl _) (Nat.le_refl _) hnl ⟨⟨k1, k2, by rw [fX.1 19 (by decide)], by rw [fX.1 21 (by decide)], by rw [fX.2.2 20 (by decide)]⟩, by rw [fA], by rw [fA], by rw [fA], by rw [fA], by rw [fB]⟩ (fun _ _ _ => by rw [fA]) (fun _ _ => by rw [fA, fB]; exact ⟨rfl, rfl⟩) (fun s u1 u2 => by omega) (fun k u1 u2 => gn k (by omega)) (hgM i) (fun k u1 u2 u3 u4 u5 l2 u6 u7 => ?_) d)
          have : k = l := by omega
          rw [this, if_pos rfl]
          have := (a3 l2 u6 u7).2.2.2.1
          show o < _
          omega
      · obtain ⟨k1, k2⟩ := keep i (by rw [d4]; decide)
        refine Or.inr (Or.inr (Or.inr (Or.inr (Or.inr (Or.inr (Or.inr ⟨l, s, Nat.le_refl _, by omega, d1, by rw [fA]; exact d2, by rw [hgM]; exact d3, by rw [k1]; exact d4, by rw [k2, gl, hrM]; exact d5, by rw [fA]; exact d6, by rw [fA]; exact d7, by rw [gl]; show a < i; omega, by rw [gl]; exact q2⟩))))))
  · rw [hgM]; exact a5 i q1 q2
  · rw [psum_c nd (fun i _ _ => pwk i), psum_app X (show a ≤ a + 1 by omega) nd a1, psum_s X (Nat.le_refl a), psum_0 X a a (Nat.le_refl _)]
    have : pw X a = cnt := by unfold pw; rw [if_pos x17, x18, ncl (by omega)]
    omega
  · rw [fA]
    obtain ⟨w1, w2⟩ := how s q1 q2
    exact ⟨w1, w2⟩
