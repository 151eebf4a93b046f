/-! how far a node is from the node asked for, in the reference -/
def fz (v : Nat) : Int32 := if v = 0 then -1 else nI v
theorem fz_0 : fz 0 = -1 := rfl
theorem fz_p {v : Nat} (h : v ≠ 0) : fz v = nI v := if_neg h
theorem fz_eq {v d : Nat} (hv : v ≤ 1000) (hd : d ≤ 1000) (hd0 : d ≠ 0) : fz v = nI d ↔ v = d := by
  by_cases z : v = 0
  · rw [z, fz_0]
    constructor
    · intro q; exact absurd q.symm (nne (by omega) (by decide))
    · intro q; omega
  · rw [fz_p z]; exact neq (by omega) (by omega)
theorem fz_pos {v : Nat} (hv : v ≤ 1000) : 0 ≤ fz v ↔ v ≠ 0 := by
  by_cases z : v = 0
  · rw [z, fz_0]; exact ⟨fun q => absurd q (by decide), fun q => absurd rfl q⟩
  · rw [fz_p z]; exact ⟨fun _ => z, fun _ => qle (a := 0) (by omega)⟩
def c1 (fr : Nat → Nat) (i : Nat) : Nat := if fr i = 0 then 0 else 1
/-- the levels up to d are known -/
def FA (M : zSt) (n : Nat) (fr : Nat → Nat) (d : Nat) : Prop :=
  fr n = 1 ∧ (∀ i, i < 400 → fr i = 1 → i = n) ∧ (∀ i, i < 400 → fr i ≤ d) ∧ (∀ i v, i < 400 → zA M 24 i ≠ nI 7 → ed M i v → 1 ≤ fr v → fr v < d → 1 ≤ fr i ∧ fr i ≤ fr v + 1) ∧ (∀ i, i < 400 → 2 ≤ fr i → ∃ v, ed M i v ∧ fr v + 1 = fr i)
def hit (M : zSt) (fr : Nat → Nat) (d j : Nat) : Prop := fr j = 0 ∧ zA M 24 j ≠ nI 7 ∧ ∃ v, ed M j v ∧ fr v = d
noncomputable def nf (M : zSt) (fr : Nat → Nat) (d i : Nat) : Nat → Nat := fun j => fr j + ifP (j < i ∧ hit M fr d j) (d + 1)
theorem nf_hit {M : zSt} {fr : Nat → Nat} {d i j : Nat} (h : j < i ∧ hit M fr d j) : nf M fr d i j = d + 1 := by unfold nf; rw [ifP_t h, h.2.1]; omega
theorem nf_not {M : zSt} {fr : Nat → Nat} {d i j : Nat} (h : ¬ (j < i ∧ hit M fr d j)) : nf M fr d i j = fr j := by unfold nf; rw [ifP_f h]; rfl
theorem nf_d {M : zSt} {fr : Nat → Nat} {d i j : Nat} (hd : d ≠ 0) : nf M fr d i j = d ↔ fr j = d := by
  by_cases h : j < i ∧ hit M fr d j
  · rw [nf_hit h, h.2.1]; omega
  · rw [nf_not h]
theorem nf_z {M : zSt} {fr : Nat → Nat} {d i : Nat} : nf M fr d i i = fr i := nf_not (fun h => absurd h.1 (Nat.lt_irrefl _))
theorem nf_S {M : zSt} {fr : Nat → Nat} {d i : Nat} (h : ¬ hit M fr d i) : nf M fr d (i + 1) = nf M fr d i := by
  funext j
  by_cases z : j < i ∧ hit M fr d j
  · rw [nf_hit z, nf_hit ⟨by omega, z.2⟩]
  · rw [nf_not z, nf_not (fun w => z ⟨by
      rcases Nat.lt_or_ge j i with y | y
      · exact y
      · have : j = i := by omega
        rw [this] at w; exact absurd w.2 h, w.2⟩)]
theorem nf_H {M : zSt} {fr : Nat → Nat} {d i : Nat} (h : hit M fr d i) : nf M fr d (i + 1) = up (nf M fr d i) i (d + 1) := by
  funext j
  by_cases e : j = i
  · subst e
    rw [upS, nf_hit ⟨by omega, h⟩]
  · rw [upN _ _ e]
    by_cases z : j < i ∧ hit M fr d j
    · rw [nf_hit z, nf_hit ⟨by omega, z.2⟩]
    · rw [nf_not z, nf_not (fun w => z ⟨by omega, w.2⟩)]
/-- one level, node by node -/
theorem m_way105 {nd : Nat} {M : zSt} {fr : Nat → Nat} {d : Nat} {x2 : Int32} {k94 : Int32 × Int32 × Int32 × zSt → Option (Int32 × zSt)} (hW : Wg nd M) (hd0 : d ≠ 0) (hd : d ≤ 400) (hfr : ∀ i, i < 400 → fr i ≤ d) :
    ∀ (m i f : Nat) (mo : Int32) (S : zSt), i + m = 400 → m < f → FR [35, 36, 37] [28] M S → (∀ j, j < 400 → zA S 37 j = fz (nf M fr d i j)) → (mo = nI 0 ∧ ∀ j, j < i → ¬ hit M fr d j) ∨ (mo = nI 1 ∧ ∃ j, j < i ∧ hit M fr d j) →
    ∃ (mo' : Int32) (S' : zSt), fX10_way_105L k94 f (x2, mo, nI d, nI i, S) = k94 (x2, mo', nI (d + 1), S') ∧ FR [35, 36, 37] [28] M S' ∧ (∀ j, j < 400 → zA S' 37 j = fz (nf M fr d 400 j)) ∧ ((mo' = nI 0 ∧ ∀ j, j < 400 → ¬ hit M fr d j) ∨ (mo' = nI 1 ∧ ∃ j, j < 400 ∧ hit M fr d j)) := by
  intro m
  induction m with
  | zero =>
    intro i f mo S hi hf frm h37 hmo
    obtain ⟨f, rfl⟩ : ∃ n', f = n' + 1 := ⟨f - 1, by omega⟩
    have e4 : i = 400 := by omega
    refine ⟨mo, S, ?_, frm, by rw [e4] at h37; exact h37, by rw [e4] at hmo; exact hmo⟩
    rw [show fX10_way_105L k94 (f + 1) (x2, mo, nI d, nI i, S) = fX10_way_105 k94 (fX10_way_105L k94 f) x2 mo (nI d) (nI i) S from rfl]
    unfold fX10_way_105
    rw [if_pos (qle (by omega)), nadd]
  | succ m ih =>
    intro i f mo S hi hf frm h37 hmo
    obtain ⟨f, rfl⟩ : ∃ n', f = n' + 1 := ⟨f - 1, by omega⟩
    have hi4 : i < 400 := by omega
    have s24 : zA S 24 = zA M 24 := frm.1 24 (by decide)
    have s25 : zA S 25 = zA M 25 := frm.1 25 (by decide)
    have s26 : zA S 26 = zA M 26 := frm.1 26 (by decide)
    have nfb : ∀ j, j < 400 → nf M fr d i j ≤ d + 1 := fun j hj => by
      by_cases z : j < i ∧ hit M fr d j
      · rw [nf_hit z]; omega
      · rw [nf_not z]; have := hfr j hj; omega
    rw [show fX10_way_105L k94 (f + 1) (x2, mo, nI d, nI i, S) = fX10_way_105 k94 (fX10_way_105L k94 f) x2 mo (nI d) (nI i) S from rfl]
    unfold fX10_way_105
    rw [if_neg (nl (by omega)), zld_n hi4 (by omega), s24]
    -- nothing new
    have skip : ¬ hit M fr d i → ∃ (mo' : Int32) (S' : zSt), fX10_way_105L k94 f (x2, mo, nI d, nI i + nI 1, S) = k94 (x2, mo', nI (d + 1), S') ∧ FR [35, 36, 37] [28] M S' ∧ (∀ j, j < 400 → zA S' 37 j = fz (nf M fr d 400 j)) ∧ ((mo' = nI 0 ∧ ∀ j, j < 400 → ¬ hit M fr d j) ∨ (mo' = nI 1 ∧ ∃ j, j < 400 ∧ hit M fr d j)) := by
      intro hn
      rw [nadd]
      refine ih (i + 1) f mo S (by omega) (by omega) frm (by rw [nf_S hn]; exact h37) ?_
      rcases hmo with ⟨a, b⟩ | ⟨a, j, b, c⟩
      · refine Or.inl ⟨a, fun j hj => ?_⟩
        by_cases e : j = i
        · rw [e]; exact hn
        · exact b j (by omega)
      · exact Or.inr ⟨a, j, by omega, c⟩
    have take : hit M fr d i → ∃ (mo' : Int32) (S' : zSt), fX10_way_196 (fX10_way_105L k94 f) x2 (nI d) (nI i) S = k94 (x2, mo', nI (d + 1), S') ∧ FR [35, 36, 37] [28] M S' ∧ (∀ j, j < 400 → zA S' 37 j = fz (nf M fr d 400 j)) ∧ ((mo' = nI 0 ∧ ∀ j, j < 400 → ¬ hit M fr d j) ∨ (mo' = nI 1 ∧ ∃ j, j < 400 ∧ hit M fr d j)) := by
      intro hh
      unfold fX10_way_196
      rw [zck_n hi4 (by omega), ncl (by omega), nadd, nadd]
      refine ih (i + 1) f (nI 1) (wA S 37 i (nI (d + 1))) (by omega) (by omega) (FR_trans frm (FR_A _ _ _ (by decide))) (fun j hj => ?_) (Or.inr ⟨rfl, i, by omega, hh⟩)
      show upd (zA S 37) i (nI (d + 1)) j = _
      rw [nf_H hh]
      by_cases e : j = i
      · rw [e, updS, upS, fz_p (by omega)]
      · rw [updN _ _ e, upN _ _ e]; exact h37 j hj
    by_cases h7 : zA M 24 i = nI 7
    · rw [if_pos h7]
      exact skip (fun z => z.2.1 h7)
    · rw [if_neg h7, zld_n hi4 (by omega), h37 i hi4, nf_z]
      by_cases hz : fr i = 0
      · have hpos : ¬ 0 ≤ fz (fr i) := fun z => (fz_pos (by omega)).mp z hz
        rw [if_neg hpos, zld_n hi4 (by omega), m_fields, zbd_r]
        -- is the second node at this level
        have rd37 : ∀ v : Int32, lvn M v → ∀ (a b : Option (Int32 × zSt)), zld 400 v (zA S 37) (fun w => if w = nI d then a else b) = if fr v.toNatClampNeg = d then a else b := fun v hv a b => by
          have hl := hv.lt
          have h1 : zA S 37 v.toNatClampNeg = nI d ↔ fr v.toNatClampNeg = d := by rw [h37 _ hl.1, fz_eq (by have := nfb _ hl.1; omega) (by omega) hd0, nf_d hd0]
          have h2 : zld 400 v (zA S 37) (fun w => if w = nI d then a else b) = if zA S 37 v.toNatClampNeg = nI d then a else b := by
            conv => lhs; rw [hl.2.1]
            rw [zld_n hl.1 (by omega)]
          rw [h2]
          by_cases z : fr v.toNatClampNeg = d
          · rw [if_pos z, if_pos (h1.mpr z)]
          · rw [if_neg z, if_neg (fun w => z (h1.mp w))]
        have t165 : ¬ ((two M i ∨ zA M 24 i = nI 6) ∧ fr (fs M i) = d) → ∃ (mo' : Int32) (S' : zSt), fX10_way_165 (fX10_way_105L k94 f) x2 mo (nI d) (nI i) S = k94 (x2, mo', nI (d + 1), S') ∧ FR [35, 36, 37] [28] M S' ∧ (∀ j, j < 400 → zA S' 37 j = fz (nf M fr d 400 j)) ∧ ((mo' = nI 0 ∧ ∀ j, j < 400 → ¬ hit M fr d j) ∨ (mo' = nI 1 ∧ ∃ j, j < 400 ∧ hit M fr d j)) := by
          intro hno
          unfold fX10_way_165
          rw [zld_n hi4 (by omega), s24, m_fields, zbd_r]
          by_cases t : two M i
          · have hl : lvn M (zA M 26 i) := by
              rcases t with z | z
              · exact (hW.p1 hi4 z).2
              · exact (hW.p4 hi4 z).2
            rw [if_pos t, if_neg (by decide), zld_n hi4 (by omega), s26, rd37 _ hl]
            by_cases z : fr (zA M 26 i).toNatClampNeg = d
            · rw [if_pos z]
              exact take ⟨hz, h7, _, Or.inl ⟨t, Or.inr rfl⟩, z⟩
            · rw [if_neg z]
              refine skip (fun w => ?_)
              obtain ⟨-, -, v, w1, w2⟩ := w
              rcases w1 with ⟨-, y | y⟩ | ⟨y, y2⟩
              · rw [y] at w2; exact hno ⟨Or.inl t, w2⟩
              · rw [y] at w2; exact z w2
              · rw [y2] at w2; exact hno ⟨Or.inl t, w2⟩
          · have e1 : (if zA M 24 i = nI 6 then nI 1 else nI 0) ≤ nI 1 := by split <;> decide
            rw [if_neg t, if_pos e1]
            refine skip (fun w => ?_)
            obtain ⟨-, -, v, w1, w2⟩ := w
            rcases w1 with ⟨y, -⟩ | ⟨y, y2⟩
            · exact t y
            · rw [y2] at w2; exact hno ⟨Or.inr y, w2⟩
        by_cases hq : two M i ∨ zA M 24 i = nI 6
        · have hnz : ¬ (if zA M 24 i = nI 1 ∨ zA M 24 i = nI 4 then nI 2 else if zA M 24 i = nI 6 then nI 1 else nI 0) ≤ 0 := by
            rcases hq with z | z
            · rw [if_pos z]; decide
            · rw [if_neg (fun y => by rcases y with y | y <;> rw [z] at y <;> exact absurd y (by decide)), if_pos z]; decide
          have hl : lvn M (zA M 25 i) := by
            rcases hq with (z | z) | z
            · exact (hW.p1 hi4 z).1
            · exact (hW.p4 hi4 z).1
            · exact hW.p6 hi4 z
          rw [if_neg hnz, zld_n hi4 (by omega), s25, rd37 _ hl]
          by_cases z : fr (zA M 25 i).toNatClampNeg = d
          · rw [if_pos z]
            refine take ⟨hz, h7, fs M i, ?_, z⟩
            rcases hq with y | y
            · exact Or.inl ⟨y, Or.inl rfl⟩
            · exact Or.inr ⟨y, rfl⟩
          · rw [if_neg z]
            exact t165 (fun w => z w.2)
        · have hz1 : ¬ two M i := fun z => hq (Or.inl z)
          have hz2 : ¬ zA M 24 i = nI 6 := fun z => hq (Or.inr z)
          rw [if_neg hz1, if_neg hz2, if_pos (by decide)]
          exact t165 (fun w => hq w.1)
      · have hpos : 0 ≤ fz (fr i) := (fz_pos (by have := hfr i hi4; omega)).mpr hz
        rw [if_pos hpos]
        exact skip (fun z => hz z.1)
theorem c1_le (fr : Nat → Nat) : ∀ n, Sm (c1 fr) n ≤ n := by
  intro n
  have := Sm_le (g := c1 fr) (b := 1) n (fun i _ => by unfold c1; split <;> omega)
  omega
theorem Sm_mono {g h : Nat → Nat} : ∀ n, (∀ i, i < n → g i ≤ h i) → Sm g n ≤ Sm h n := by
  intro n
  induction n with
  | zero => intro _; exact Nat.le_refl _
  | succ n ih => intro q; have h1 := ih (fun i hi => q i (by omega)); have h2 := q n (by omega); show Sm g n + g n ≤ Sm h n + h n; omega
theorem Sm_lt {g h : Nat → Nat} {q : Nat} (hq : g q < h q) : ∀ n, q < n → (∀ i, i < n → g i ≤ h i) → Sm g n < Sm h n := by
  intro n
  induction n with
  | zero => intro z; omega
  | succ n ih =>
    intro z w
    have h2 := w n (by omega)
    show Sm g n + g n < Sm h n + h n
    by_cases e : q = n
    · subst e
      have := Sm_mono (g := g) (h := h) q (fun i hi => w i (by omega))
      omega
    · have := ih (by omega) (fun i hi => w i (by omega))
      omega
/-- all levels -/
theorem m_way94 {nd : Nat} {M : zSt} {n : Nat} {x2 : Int32} (hW : Wg nd M) (hn4 : n < 400) : ∀ (m d f : Nat) (mo : Int32) (S : zSt) (fr : Nat → Nat), d + m = 402 → m < f → d ≠ 0 → FR [35, 36, 37] [28] M S → FA M n fr d → (∀ j, j < 400 → zA S 37 j = fz (fr j)) → (mo = nI 0 ∧ ∀ j, j < 400 → fr j < d) ∨ (mo = nI 1 ∧ d ≤ Sm (c1 fr) 400) → d ≤ 401 →
    ∃ (S' : zSt) (fr' : Nat → Nat), fX10_way_94L f (x2, mo, nI d, S) = fX10_way_228L zFU (x2, -1, nI 0, S') ∧ FR [35, 36, 37] [28] M S' ∧ (∀ j, j < 400 → zA S' 37 j = fz (fr' j) ∧ fr' j ≤ 401) ∧ fr' n = 1 ∧ (∀ i, i < 400 → fr' i = 1 → i = n) ∧ (∀ i v, i < 400 → zA M 24 i ≠ nI 7 → ed M i v → 1 ≤ fr' v → 1 ≤ fr' i ∧ fr' i ≤ fr' v + 1) ∧ (∀ i, i < 400 → 2 ≤ fr' i → ∃ v, ed M i v ∧ fr' v + 1 = fr' i) := by
  intro m
  induction m with
  | zero => intro d f mo S fr hd hf _ _ _ _ _ h; omega
  | succ m ih =>
    intro d f mo S fr hd hf hd0 frm hA h37 hmo hd4
    obtain ⟨f, rfl⟩ : ∃ n', f = n' + 1 := ⟨f - 1, by omega⟩
    rw [show fX10_way_94L (f + 1) (x2, mo, nI d, S) = fX10_way_94 (fX10_way_94L f) x2 mo (nI d) S from rfl]
    unfold fX10_way_94
    obtain ⟨a1, a2, a3, a4, a5⟩ := hA
    rcases hmo with ⟨z, hlt⟩ | ⟨z, hcn⟩
    · rw [if_pos (show mo = 0 from z)]
      exact ⟨S, fr, rfl, frm, fun j hj => ⟨h37 j hj, by have := a3 j hj; omega⟩, a1, a2, fun i v hi hl he hv => a4 i v hi hl he hv (hlt v (ed_live hW hi he).1), a5⟩
    · have hd40 : d ≤ 400 := by have := c1_le fr 400; omega
      rw [if_neg (show ¬ mo = 0 by rw [z]; decide)]
      have e0 : nf M fr d 0 = fr := funext (fun j => nf_not (fun w => absurd w.1 (Nat.not_lt_zero _)))
      obtain ⟨mo', S', r1, r2, r3, r4⟩ := m_way105 (x2 := x2) (k94 := fX10_way_94L f) hW hd0 hd40 a3 400 0 zFU (nI 0) S (by omega) (by rw [zFU_s]; omega) frm (by rw [e0]; exact h37) (Or.inl ⟨rfl, fun j hj => absurd hj (Nat.not_lt_zero _)⟩)
      rw [r1]
      refine ih (d + 1) f mo' S' (nf M fr d 400) (by omega) (by omega) (by omega) r2 ⟨?_, fun i hi h1 => ?_, fun i hi => ?_, fun i v hi hl he hv hvd => ?_, fun i hi h2 => ?_⟩ r3 ?_ (by omega)
      · rw [nf_not (fun w => by rw [hit, a1] at w; omega)]; exact a1
      · by_cases w : i < 400 ∧ hit M fr d i
        · rw [nf_hit w] at h1; omega
        · rw [nf_not w] at h1; exact a2 i hi h1
      · by_cases w : i < 400 ∧ hit M fr d i
        · rw [nf_hit w]; exact Nat.le_refl _
        · rw [nf_not w]; have := a3 i hi; omega
      · have hv4 := (ed_live hW hi he).1
        have ev : nf M fr d 400 v = fr v := by
          by_cases w : v < 400 ∧ hit M fr d v
          · rw [nf_hit w] at hvd; omega
          · exact nf_not w
        rw [ev] at hv hvd ⊢
        by_cases w : i < 400 ∧ hit M fr d i
        · rw [nf_hit w]
          refine ⟨by omega, ?_⟩
          rcases Nat.lt_or_ge (fr v) d with y | y
          · have := (a4 i v hi hl he hv y).1
            rw [w.2.1] at this; omega
          · omega
        · rw [nf_not w]
          rcases Nat.lt_or_ge (fr v) d with y | y
          · exact a4 i v hi hl he hv y
          · have hvd2 : fr v = d := by have := a3 v hv4; omega
            have : fr i ≠ 0 := fun y2 => w ⟨hi, y2, hl, v, he, hvd2⟩
            have := a3 i hi
            omega
      · by_cases w : i < 400 ∧ hit M fr d i
        · rw [nf_hit w] at h2 ⊢
          obtain ⟨-, -, v, w1, w2⟩ := w.2
          exact ⟨v, w1, by rw [(nf_d hd0).mpr w2]⟩
        · rw [nf_not w] at h2 ⊢
          obtain ⟨v, w1, w2⟩ := a5 i hi h2
          refine ⟨v, w1, ?_⟩
          rw [nf_not (fun y => by rw [y.2.1] at w2; omega)]; exact w2
      · rcases r4 with ⟨y, hno⟩ | ⟨y, j, hj, hh⟩
        · refine Or.inl ⟨y, fun j hj => ?_⟩
          rw [nf_not (fun w => hno j hj w.2)]
          have := a3 j hj; omega
        · refine Or.inr ⟨y, ?_⟩
          have := Sm_lt (g := c1 fr) (h := c1 (nf M fr d 400)) (q := j) (by
            unfold c1
            rw [if_pos hh.1, nf_hit ⟨hj, hh⟩, if_neg (by omega)]; omega) 400 hj (fun i hi => by
            unfold c1
            by_cases w : i < 400 ∧ hit M fr d i
            · rw [nf_hit w, if_pos w.2.1]; exact Nat.zero_le _
            · rw [nf_not w]; exact Nat.le_refl _)
          omega
theorem m_way59 {M : zSt} {n : Nat} {x2 : Int32} (hn4 : n < 400) : ∀ (m i f : Nat) (S : zSt), i + m = 400 → m < f → FR [35, 36, 37] [28] M S → (∀ j, j < i → zA S 37 j = -1) →
    ∃ S' : zSt, fX10_way_59L f (nI n, x2, nI i, S) = fX10_way_94L zFU (x2, nI 1, nI 1, S') ∧ FR [35, 36, 37] [28] M S' ∧ ∀ j, j < 400 → zA S' 37 j = fz (if j = n then 1 else 0) := by
  intro m
  induction m with
  | zero =>
    intro i f S hi hf frm h
    obtain ⟨f, rfl⟩ : ∃ n', f = n' + 1 := ⟨f - 1, by omega⟩
    refine ⟨wA S 37 n (nI 1), ?_, FR_trans frm (FR_A _ _ _ (by decide)), fun j hj => ?_⟩
    · rw [show fX10_way_59L (f + 1) (nI n, x2, nI i, S) = fX10_way_59 (fX10_way_59L f) (nI n) x2 (nI i) S from rfl]
      unfold fX10_way_59
      rw [if_pos (qle (by omega)), zck_n hn4 (by omega), ncl (by omega)]
    · show upd (zA S 37) n (nI 1) j = _
      by_cases e : j = n
      · rw [e, updS, if_pos rfl]; rfl
      · rw [updN _ _ e, if_neg e]; exact h j (by omega)
  | succ m ih =>
    intro i f S hi hf frm h
    obtain ⟨f, rfl⟩ : ∃ n', f = n' + 1 := ⟨f - 1, by omega⟩
    obtain ⟨S', r1, r2, r3⟩ := ih (i + 1) f (wA S 37 i (-1)) (by omega) (by omega) (FR_trans frm (FR_A _ _ _ (by decide))) (fun j hj => by
      show upd (zA S 37) i (-1) j = -1
      by_cases e : j = i
      · rw [e, updS]
      · rw [updN _ _ e]; exact h j (by omega))
    refine ⟨S', ?_, r2, r3⟩
    rw [show fX10_way_59L (f + 1) (nI n, x2, nI i, S) = fX10_way_59 (fX10_way_59L f) (nI n) x2 (nI i) S from rfl]
    unfold fX10_way_59
    rw [if_neg (nl (by omega)), zck_n (by omega) (by omega), ncl (by omega), nadd]
    exact r1
/-- the distances, once all are known -/
def FF (M : zSt) (n : Nat) (fr : Nat → Nat) : Prop := fr n = 1 ∧ (∀ i, i < 400 → fr i = 1 → i = n) ∧ (∀ i v, i < 400 → zA M 24 i ≠ nI 7 → ed M i v → 1 ≤ fr v → 1 ≤ fr i ∧ fr i ≤ fr v + 1) ∧ (∀ i, i < 400 → 2 ≤ fr i → ∃ v, ed M i v ∧ fr v + 1 = fr i)
theorem m_far {nd : Nat} {M S0 : zSt} {n : Nat} {x2 : Int32} (hW : Wg nd M) (hn4 : n < 400) (hl : zA M 24 n ≠ nI 7) (fr0 : FR [35, 36, 37] [28] M S0) :
    ∃ (S' : zSt) (fr : Nat → Nat), fX10_way_59L zFU (nI n, x2, nI 0, S0) = fX10_way_228L zFU (x2, -1, nI 0, S') ∧ FR [35, 36, 37] [28] M S' ∧ (∀ j, j < 400 → zA S' 37 j = fz (fr j) ∧ fr j ≤ 401) ∧ FF M n fr := by
  obtain ⟨S1, a1, a2, a3⟩ := m_way59 (x2 := x2) hn4 400 0 zFU S0 (by omega) (by rw [zFU_s]; omega) fr0 (fun j hj => absurd hj (Nat.not_lt_zero _))
  have hA : FA M n (fun j => if j = n then 1 else 0) 1 := by
    refine ⟨if_pos rfl, fun i hi h => ?_, fun i hi => ?_, fun i v hi hl he hv hvd => ?_, fun i hi h => ?_⟩
    rotate_left 1
    · show (if i = n then 1 else 0) ≤ 1
      split <;> omega
    · have hv : 1 ≤ (if v = n then 1 else 0) := hv
      have hvd : (if v = n then 1 else 0) < 1 := hvd
      omega
    rotate_left 1
    · have h : (if i = n then 1 else 0) = 1 := h
      by_cases z : i = n
      · exact z
      · rw [if_neg z] at h; omega
    · have h : 2 ≤ (if i = n then 1 else 0) := h
      by_cases z : i = n
      · rw [if_pos z] at h; omega
      · rw [if_neg z] at h; omega
  have hc : 1 ≤ Sm (c1 (fun j => if j = n then 1 else 0)) 400 := by
    have := Sm_lt (g := fun _ => 0) (h := c1 (fun j => if j = n then 1 else 0)) (q := n) (by
      show 0 < c1 (fun j => if j = n then 1 else 0) n
      simp [c1]) 400 hn4 (fun i _ => Nat.zero_le _)
    omega
  obtain ⟨S', fr, b1, b2, b3, b4, b5, b6, b7⟩ := m_way94 (x2 := x2) hW hn4 401 1 zFU (nI 1) S1 (fun j => if j = n then 1 else 0) (by omega) (by rw [zFU_s]; omega) (by omega) a2 hA a3 (Or.inr ⟨rfl, hc⟩) (by omega)
  exact ⟨S', fr, by rw [a1, b1], b2, b3, b4, b5, b6, b7⟩
