/-! which nodes are kept -/
abbrev two (M : zSt) (u : Nat) : Prop := zA M 24 u = nI 1 ∨ zA M 24 u = nI 4
def ed (M : zSt) (u v : Nat) : Prop := (two M u ∧ (v = fs M u ∨ v = sn M u)) ∨ (zA M 24 u = nI 6 ∧ v = fs M u)
def rt (nd : Nat) (M : zSt) (pl r : Nat) : Prop := r < nd ∨ ∃ i, i < pl ∧ en M i = r
def Kp (nd : Nat) (M : zSt) (pl n : Nat) : Prop := ∀ P : Nat → Prop, (∀ r, rt nd M pl r → P r) → (∀ u v, P u → ed M u v → P v) → P n
theorem Kp_rt {nd : Nat} {M : zSt} {pl r : Nat} (h : rt nd M pl r) : Kp nd M pl r := fun _ h1 _ => h1 r h
theorem Kp_ed {nd : Nat} {M : zSt} {pl u v : Nat} (h : Kp nd M pl u) (he : ed M u v) : Kp nd M pl v := fun P h1 h2 => h2 u v (h P h1 h2) he
theorem ed_live {nd : Nat} {M : zSt} (hW : Wg nd M) {u v : Nat} (hu : u < 400) (he : ed M u v) : v < 400 ∧ zA M 24 v ≠ nI 7 := by
  rcases he with ⟨h1, h2⟩ | ⟨h1, h2⟩
  · have h3 : lvn M (zA M 25 u) ∧ lvn M (zA M 26 u) := by
      rcases h1 with q | q
      · exact hW.p1 hu q
      · exact hW.p4 hu q
    rcases h2 with q | q
    · rw [q]; exact ⟨h3.1.lt.1, h3.1.lt.2.2⟩
    · rw [q]; exact ⟨h3.2.lt.1, h3.2.lt.2.2⟩
  · have h3 := (hW.p6 hu h1).lt
    rw [h2]; exact ⟨h3.1, h3.2.2⟩
theorem Kp_live {nd : Nat} {M : zSt} {pl sk : Nat} {bs : Nat → Nat} (hW : Wg nd M) (hS : MS M pl sk bs) (hnd : nd ≤ 20) (hd : ∀ d, d < nd → zA M 24 d ≠ nI 7) {n : Nat} (h : Kp nd M pl n) : n < 400 ∧ zA M 24 n ≠ nI 7 := by
  refine h (fun n => n < 400 ∧ zA M 24 n ≠ nI 7) (fun r hr => ?_) (fun u v hu he => ed_live hW hu.1 he)
  rcases hr with q | ⟨i, hi, q⟩
  · exact ⟨by omega, hd r q⟩
  · have := hS.ent hi
    rw [← q]; exact ⟨this.1, this.2.2⟩
/-! rows without repetition -/
theorem inj_le {f g : Nat → Nat} {c c' : Nat} (hf : ∀ j j', j < c → j' < c → f j = f j' → j = j') (h : ∀ j, j < c → ∃ j', j' < c' ∧ f j = g j') : c ≤ c' := by
  rcases Nat.lt_or_ge c' c with hlt | hge
  · exfalso
    have hex : ∀ j, ∃ j', j < c → j' < c' ∧ f j = g j' := fun j => by
      by_cases q : j < c
      · obtain ⟨j', h1⟩ := h j q
        exact ⟨j', fun _ => h1⟩
      · exact ⟨0, fun z => absurd z q⟩
    obtain ⟨a, b, h1, h2, h3⟩ := pigeon c' (fun j => Classical.choose (hex j)) (fun i hi => (Classical.choose_spec (hex i) (by omega)).1)
    have ha := Classical.choose_spec (hex a) (by omega)
    have hb := Classical.choose_spec (hex b) (by omega)
    have h3 : Classical.choose (hex a) = Classical.choose (hex b) := h3
    rw [h3] at ha
    have := hf a b (by omega) (by omega) (ha.2.trans hb.2.symm)
    omega
  · exact hge
theorem inj_400 {f : Nat → Nat} {c : Nat} (hf : ∀ j j', j < c → j' < c → f j = f j' → j = j') (h : ∀ j, j < c → f j < 400) : c ≤ 400 := inj_le (g := fun j => j) hf (fun j hj => ⟨f j, h j hj, rfl⟩)
def up (f : Nat → Nat) (k v : Nat) : Nat → Nat := fun j => if j = k then v else f j
theorem upS (f : Nat → Nat) (k v : Nat) : up f k v k = v := by unfold up; rw [if_pos rfl]
theorem upN (f : Nat → Nat) {k j : Nat} (v : Nat) (h : j ≠ k) : up f k v j = f j := by unfold up; rw [if_neg h]
theorem inj_up {f : Nat → Nat} {c q : Nat} (hf : ∀ j j', j < c → j' < c → f j = f j' → j = j') (hq : ∀ j, j < c → f j ≠ q) : ∀ j j', j < c + 1 → j' < c + 1 → up f c q j = up f c q j' → j = j' := by
  intro j j' h1 h2 h3
  by_cases e : j = c
  · by_cases e' : j' = c
    · rw [e, e']
    · rw [e, upS, upN f q e'] at h3
      exact absurd h3.symm (hq j' (by omega))
  · by_cases e' : j' = c
    · rw [e', upS, upN f q e] at h3
      exact absurd h3 (hq j (by omega))
    · rw [upN f q e, upN f q e'] at h3
      exact hf j j' (by omega) (by omega) h3
theorem inj_fresh {f : Nat → Nat} {c q : Nat} (hf : ∀ j j', j < c → j' < c → f j = f j' → j = j') (h : ∀ j, j < c → f j < 400) (hq4 : q < 400) (hq : ∀ j, j < c → f j ≠ q) : c < 400 := by
  have := inj_400 (inj_up hf hq) (fun j hj => by
    by_cases e : j = c
    · rw [e, upS]; exact hq4
    · rw [upN f q e]; exact h j (by omega))
  omega
def Sm (g : Nat → Nat) : Nat → Nat
  | 0 => 0
  | n + 1 => Sm g n + g n
theorem Sm_c {g h : Nat → Nat} : ∀ n, (∀ i, i < n → g i = h i) → Sm g n = Sm h n := by
  intro n
  induction n with
  | zero => intro _; rfl
  | succ n ih => intro q; unfold Sm; rw [ih (fun i hi => q i (by omega)), q n (by omega)]
theorem Sm_0 {g : Nat → Nat} : ∀ n, (∀ i, i < n → g i = 0) → Sm g n = 0 := by
  intro n
  induction n with
  | zero => intro _; rfl
  | succ n ih => intro q; unfold Sm; rw [ih (fun i hi => q i (by omega)), q n (by omega)]
theorem Sm_one {g h : Nat → Nat} {q w : Nat} (hq : h q = g q + w) (ho : ∀ i, i ≠ q → h i = g i) : ∀ n, q < n → Sm h n = Sm g n + w := by
  intro n
  induction n with
  | zero => intro z; omega
  | succ n ih =>
    intro z
    unfold Sm
    by_cases e : n = q
    · subst e
      rw [Sm_c (g := h) (h := g) n (fun i hi => ho i (by omega)), hq]; omega
    · rw [ih (by omega), ho n e]; omega
noncomputable def ifP (p : Prop) (a : Nat) : Nat := @ite Nat p (Classical.propDecidable p) a 0
theorem ifP_t {p : Prop} {a : Nat} (h : p) : ifP p a = a := by unfold ifP; exact if_pos h
theorem ifP_f {p : Prop} {a : Nat} (h : ¬ p) : ifP p a = 0 := by unfold ifP; exact if_neg h
theorem enum_sum {f w : Nat → Nat} : ∀ (c : Nat), (∀ j j', j < c → j' < c → f j = f j' → j = j') → (∀ j, j < c → f j < 400) → Sm (fun j => w (f j)) c = Sm (fun n => ifP (∃ j, j < c ∧ f j = n) (w n)) 400 := by
  intro c
  induction c with
  | zero =>
    intro _ _
    rw [Sm_0 400 (fun i _ => ifP_f (fun ⟨j, hj, _⟩ => absurd hj (Nat.not_lt_zero _)))]
    rfl
  | succ c ih =>
    intro h1 h2
    have e1 : ∀ j j', j < c → j' < c → f j = f j' → j = j' := fun j j' a b => h1 j j' (by omega) (by omega)
    show Sm (fun j => w (f j)) c + w (f c) = _
    rw [ih e1 (fun j hj => h2 j (by omega))]
    refine (Sm_one (q := f c) (w := w (f c)) ?_ (fun i hi => ?_) 400 (h2 c (by omega))).symm
    · rw [ifP_t ⟨c, by omega, rfl⟩, ifP_f (fun ⟨j, hj, z⟩ => by
        have := h1 j c (by omega) (by omega) z
        omega)]
      omega
    · by_cases z : ∃ j, j < c ∧ f j = i
      · obtain ⟨j, z1, z2⟩ := z
        rw [ifP_t ⟨j, by omega, z2⟩, ifP_t ⟨j, z1, z2⟩]
      · rw [ifP_f z, ifP_f (fun ⟨j, hj, z2⟩ => by
          by_cases e : j = c
          · subst e; exact hi z2.symm
          · exact z ⟨j, by omega, z2⟩)]
theorem enum_eq {f g w : Nat → Nat} {c c' : Nat} {P : Nat → Prop} (hf : ∀ j j', j < c → j' < c → f j = f j' → j = j') (hf4 : ∀ j, j < c → f j < 400) (hg : ∀ j j', j < c' → j' < c' → g j = g j' → j = j') (hg4 : ∀ j, j < c' → g j < 400) (h1 : ∀ n, (∃ j, j < c ∧ f j = n) ↔ P n) (h2 : ∀ n, (∃ j, j < c' ∧ g j = n) ↔ P n) : Sm (fun j => w (f j)) c = Sm (fun j => w (g j)) c' := by
  rw [enum_sum c hf hf4, enum_sum c' hg hg4]
  refine Sm_c 400 (fun i _ => ?_)
  by_cases z : P i
  · rw [ifP_t ((h1 i).mpr z), ifP_t ((h2 i).mpr z)]
  · rw [ifP_f (fun q => z ((h1 i).mp q)), ifP_f (fun q => z ((h2 i).mp q))]
theorem enum_c {f g : Nat → Nat} {c c' : Nat} {P : Nat → Prop} (hf : ∀ j j', j < c → j' < c → f j = f j' → j = j') (hg : ∀ j j', j < c' → j' < c' → g j = g j' → j = j') (h1 : ∀ n, (∃ j, j < c ∧ f j = n) ↔ P n) (h2 : ∀ n, (∃ j, j < c' ∧ g j = n) ↔ P n) : c = c' := by
  have a := inj_le (g := g) hf (fun j hj => by
    obtain ⟨j', q1, q2⟩ := (h2 (f j)).mpr ((h1 _).mp ⟨j, hj, rfl⟩)
    exact ⟨j', q1, q2.symm⟩)
  have b := inj_le (g := f) hg (fun j hj => by
    obtain ⟨j', q1, q2⟩ := (h1 (g j)).mpr ((h2 _).mp ⟨j, hj, rfl⟩)
    exact ⟨j', q1, q2.symm⟩)
  omega
/-! the reference's findKept -/
def QM (nd : Nat) (M : zSt) (pl : Nat) (S : zSt) (f : Nat → Nat) (c : Nat) : Prop :=
  zI S 28 = nI c ∧ (∀ j, j < c → f j < 400 ∧ zA S 36 j = nI (f j) ∧ Kp nd M pl (f j) ∧ zA S 35 (f j) = nI 1) ∧ (∀ n, n < 400 → zA S 35 n = nI 0 ∨ (zA S 35 n = nI 1 ∧ ∃ j, j < c ∧ f j = n)) ∧ (∀ j j', j < c → j' < c → f j = f j' → j = j') ∧ FR [35, 36] [28] M S
theorem m_keep {nd : Nat} {M S : zSt} {pl c q : Nat} {f : Nat → Nat} (h : QM nd M pl S f c) (hq : q < 400) (hk : Kp nd M pl q) : ∃ S' f' c', fX10_keep (nI q) S = some ((), S') ∧ QM nd M pl S' f' c' ∧ c ≤ c' ∧ zA S' 35 q = nI 1 ∧ (∀ n, zA S 35 n = nI 1 → zA S' 35 n = nI 1) ∧ ∀ j, j < c → f' j = f j := by
  obtain ⟨h1, h2, h3, h4, h5⟩ := h
  have hc := inj_400 h4 (fun j hj => (h2 j hj).1)
  unfold fX10_keep
  rcases h3 q hq with e | ⟨e, -⟩
  · have hn : ∀ j, j < c → f j ≠ q := fun j hj z => by
      have := (h2 j hj).2.2.2
      rw [z, e] at this
      exact absurd this (by decide)
    have hlt := inj_fresh h4 (fun j hj => (h2 j hj).1) hq hn
    refine ⟨wI (wA (wA S 35 q (nI 1)) 36 c (nI q)) 28 (nI (c + 1)), up f c q, c + 1, ?_, ⟨rfl, fun j hj => ?_, fun n hn4 => ?_, inj_up h4 hn, ?_⟩, by omega, ?_, fun n hn1 => ?_, fun j hj => upN f q (by omega)⟩
    · rw [zld_n hq (by omega), e, if_pos nI_0, zck_n hq (by omega), h1, zck_n hlt (by omega), ncl (by omega), ncl (by omega), nadd]
      rfl
    · show up f c q j < 400 ∧ upd (zA S 36) c (nI q) j = nI (up f c q j) ∧ Kp nd M pl (up f c q j) ∧ upd (zA S 35) q (nI 1) (up f c q j) = nI 1
      by_cases z : j = c
      · rw [z, upS, updS, updS]; exact ⟨hq, rfl, hk, rfl⟩
      · rw [upN f q z, updN _ _ z]
        obtain ⟨a, b, c1, d⟩ := h2 j (by omega)
        rw [updN _ _ (hn j (by omega))]
        exact ⟨a, b, c1, d⟩
    · show upd (zA S 35) q (nI 1) n = nI 0 ∨ (upd (zA S 35) q (nI 1) n = nI 1 ∧ ∃ j, j < c + 1 ∧ up f c q j = n)
      by_cases z : n = q
      · rw [z, updS]; exact Or.inr ⟨rfl, c, by omega, upS _ _ _⟩
      · rw [updN _ _ z]
        rcases h3 n hn4 with y | ⟨y, j, hj, y2⟩
        · exact Or.inl y
        · exact Or.inr ⟨y, j, by omega, by rw [upN f q (by omega)]; exact y2⟩
    · exact FR_trans h5 (FR_trans (FR_trans (FR_A _ _ _ (by decide)) (FR_A _ _ _ (by decide))) (FR_I _ _ (by decide)))
    · exact updS _ _ _
    · show upd (zA S 35) q (nI 1) n = nI 1
      by_cases z : n = q
      · rw [z, updS]
      · rw [updN _ _ z]; exact hn1
  · refine ⟨S, f, c, ?_, ⟨h1, h2, h3, h4, h5⟩, Nat.le_refl _, e, fun _ z => z, fun _ _ => rfl⟩
    rw [zld_n hq (by omega), e, if_neg (by decide)]
theorem m_fields {S : zSt} {k : Int32} : fX10_fields k S = some (if k = nI 1 ∨ k = nI 4 then nI 2 else if k = nI 6 then nI 1 else nI 0, S) := by
  unfold fX10_fields
  by_cases h1 : k = nI 1
  · rw [if_pos h1, if_pos (Or.inl h1)]
  · rw [if_neg h1]
    by_cases h4 : k = nI 4
    · rw [if_pos h4, if_pos (Or.inr h4)]
    · have h14 : ¬ (k = nI 1 ∨ k = nI 4) := fun z => z.elim h1 h4
      rw [if_neg h4, if_neg h14]
      by_cases h6 : k = nI 6
      · rw [if_pos h6, if_pos h6]
      · rw [if_neg h6, if_neg h6]
theorem m_find76 {nd : Nat} {M : zSt} {pl : Nat} (hW : Wg nd M) : ∀ (m i n c : Nat) (S : zSt) (f : Nat → Nat), i + m = 401 → i ≤ c → m < n → QM nd M pl S f c → (∀ r, rt nd M pl r → zA S 35 r = nI 1) → (∀ j v, j < i → ed M (f j) v → zA S 35 v = nI 1) →
    ∃ S' f' c', fX10_findKept_76L n (nI i, S) = some (nI c', S') ∧ QM nd M pl S' f' c' ∧ (∀ r, rt nd M pl r → zA S' 35 r = nI 1) ∧ ∀ j v, j < c' → ed M (f' j) v → zA S' 35 v = nI 1 := by
  intro m
  induction m with
  | zero =>
    intro i n c S f hi hic hn hQ
    have := inj_400 hQ.2.2.2.1 (fun j hj => (hQ.2.1 j hj).1)
    omega
  | succ m ih =>
    intro i n c S f hi hic hn hQ hr hd
    obtain ⟨n, rfl⟩ : ∃ n', n = n' + 1 := ⟨n - 1, by omega⟩
    have hc4 := inj_400 hQ.2.2.2.1 (fun j hj => (hQ.2.1 j hj).1)
    rw [show fX10_findKept_76L (n + 1) (nI i, S) = fX10_findKept_76 (fX10_findKept_76L n) (nI i) S from rfl]
    unfold fX10_findKept_76
    rw [hQ.1]
    by_cases q : c ≤ i
    · rw [if_pos (qle q)]
      have : i = c := by omega
      rw [this] at hd
      exact ⟨S, f, c, rfl, hQ, hr, hd⟩
    · rw [if_neg (nl (by omega))]
      obtain ⟨g1, g2, g3, g4⟩ := hQ.2.1 i (by omega)
      have fr := hQ.2.2.2.2
      have s24 : zA S 24 = zA M 24 := fr.1 24 (by decide)
      have s25 : zA S 25 = zA M 25 := fr.1 25 (by decide)
      rw [zld_n (by omega) (by omega), g2, zld_n g1 (by omega), m_fields, zbd_r, s24]
      -- what follows the first field
      have tail : ∀ (S1 : zSt) (f1 : Nat → Nat) (c1 : Nat), QM nd M pl S1 f1 c1 → c ≤ c1 → (∀ j, j < c → f1 j = f j) → (∀ x, zA S 35 x = nI 1 → zA S1 35 x = nI 1) → (two M (f i) → zA S1 35 (fs M (f i)) = nI 1) → (zA M 24 (f i) = nI 6 → zA S1 35 (fs M (f i)) = nI 1) →
          ∃ S' f' c', fX10_findKept_113 (fX10_findKept_76L n) (nI i) (nI (f i)) S1 = some (nI c', S') ∧ QM nd M pl S' f' c' ∧ (∀ r, rt nd M pl r → zA S' 35 r = nI 1) ∧ ∀ j v, j < c' → ed M (f' j) v → zA S' 35 v = nI 1 := by
        intro S1 f1 c1 hQ1 hcc hff hmm ht h6
        have fr1 := hQ1.2.2.2.2
        unfold fX10_findKept_113
        rw [zld_n g1 (by omega), fr1.1 24 (by decide), m_fields, zbd_r]
        by_cases t : two M (f i)
        · rw [if_pos t, if_neg (by decide), zld_n g1 (by omega), fr1.1 26 (by decide)]
          have hl : lvn M (zA M 26 (f i)) := by
            rcases t with z | z
            · exact (hW.p1 g1 z).2
            · exact (hW.p4 g1 z).2
          have hll := hl.lt
          obtain ⟨S2, f2, c2, k1, k2, k3, k4, k5, k6⟩ := m_keep hQ1 hll.1 (Kp_ed g3 (Or.inl ⟨t, Or.inr rfl⟩))
          rw [hll.2.1, k1, zbd_r, nadd]
          refine ih (i + 1) n c2 S2 f2 (by omega) (by omega) (by omega) k2 (fun r hr1 => k5 _ (hmm _ (hr r hr1))) (fun j v hj he => ?_)
          by_cases z : j = i
          · subst z
            rw [k6 j (by omega), hff j (by omega)] at he
            rcases he with ⟨-, y | y⟩ | ⟨y, -⟩
            · rw [y]; exact k5 _ (ht t)
            · rw [y]; exact k4
            · rcases t with z | z <;> rw [z] at y <;> exact absurd y (by decide)
          · rw [k6 j (by omega), hff j (by omega)] at he
            exact k5 _ (hmm _ (hd j v (by omega) he))
        · have e1 : (if zA M 24 (f i) = nI 6 then nI 1 else nI 0) ≤ nI 1 := by split <;> decide
          rw [if_neg t, if_pos e1, nadd]
          refine ih (i + 1) n c1 S1 f1 (by omega) (by omega) (by omega) hQ1 (fun r hr1 => hmm _ (hr r hr1)) (fun j v hj he => ?_)
          by_cases z : j = i
          · subst z
            rw [hff j (by omega)] at he
            rcases he with ⟨y, -⟩ | ⟨y, y2⟩
            · exact absurd y t
            · rw [y2]; exact h6 y
          · rw [hff j (by omega)] at he
            exact hmm _ (hd j v (by omega) he)
      by_cases hz : two M (f i) ∨ zA M 24 (f i) = nI 6
      · have hnz : ¬ (if zA M 24 (f i) = nI 1 ∨ zA M 24 (f i) = nI 4 then nI 2 else if zA M 24 (f i) = nI 6 then nI 1 else nI 0) ≤ 0 := by
          rcases hz with z | z
          · rw [if_pos z]; decide
          · rw [if_neg (fun y => by rcases y with y | y <;> rw [z] at y <;> exact absurd y (by decide)), if_pos z]; decide
        have hl : lvn M (zA M 25 (f i)) := by
          rcases hz with (z | z) | z
          · exact (hW.p1 g1 z).1
          · exact (hW.p4 g1 z).1
          · exact hW.p6 g1 z
        have hll := hl.lt
        have hee : ed M (f i) (fs M (f i)) := by
          rcases hz with z | z
          · exact Or.inl ⟨z, Or.inl rfl⟩
          · exact Or.inr ⟨z, rfl⟩
        obtain ⟨S2, f2, c2, k1, k2, k3, k4, k5, k6⟩ := m_keep hQ hll.1 (Kp_ed g3 hee)
        rw [if_neg hnz, zld_n g1 (by omega), s25, hll.2.1, k1, zbd_r]
        exact tail S2 f2 c2 k2 k3 k6 k5 (fun _ => k4) (fun _ => k4)
      · have hz1 : ¬ two M (f i) := fun z => hz (Or.inl z)
        have hz2 : ¬ zA M 24 (f i) = nI 6 := fun z => hz (Or.inr z)
        rw [if_neg hz1, if_neg hz2, if_pos (by decide)]
        exact tail S f c hQ (Nat.le_refl _) (fun _ _ => rfl) (fun _ z => z) (fun z => absurd z hz1) (fun z => absurd z hz2)
theorem m_find50 {nd : Nat} {M : zSt} {pl sk : Nat} {bs : Nat → Nat} (hS : MS M pl sk bs) : ∀ (m i n c : Nat) (S : zSt) (f : Nat → Nat), i + m = pl → m < n → QM nd M pl S f c → (∀ r, r < nd ∨ (∃ k, k < i ∧ en M k = r) → zA S 35 r = nI 1) →
    ∃ S' f' c', fX10_findKept_50L n (nI i, S) = fX10_findKept_76L zFU (nI 0, S') ∧ QM nd M pl S' f' c' ∧ ∀ r, rt nd M pl r → zA S' 35 r = nI 1 := by
  have hpl := hS.2.2.2.1
  intro m
  induction m with
  | zero =>
    intro i n c S f hi hn hQ hr
    obtain ⟨n, rfl⟩ : ∃ n', n = n' + 1 := ⟨n - 1, by omega⟩
    obtain rfl : i = pl := by omega
    refine ⟨S, f, c, ?_, hQ, fun r z => hr r z⟩
    rw [show fX10_findKept_50L (n + 1) (nI i, S) = fX10_findKept_50 (fX10_findKept_50L n) (nI i) S from rfl]
    unfold fX10_findKept_50
    rw [hQ.2.2.2.2.2.1 18 (by decide), hS.1, if_pos (qle (Nat.le_refl _))]
  | succ m ih =>
    intro i n c S f hi hn hQ hr
    obtain ⟨n, rfl⟩ : ∃ n', n = n' + 1 := ⟨n - 1, by omega⟩
    have he := hS.ent (i := i) (by omega)
    obtain ⟨S2, f2, c2, k1, k2, k3, k4, k5, k6⟩ := m_keep hQ he.1 (Kp_rt (Or.inr ⟨i, by omega, rfl⟩))
    obtain ⟨S', f', c', r1, r2, r3⟩ := ih (i + 1) n c2 S2 f2 (by omega) (by omega) k2 (fun r hr1 => by
      rcases hr1 with z | ⟨k, z1, z2⟩
      · exact k5 _ (hr r (Or.inl z))
      · by_cases e : k = i
        · rw [← z2, e]; exact k4
        · exact k5 _ (hr r (Or.inr ⟨k, by omega, z2⟩)))
    refine ⟨S', f', c', ?_, r2, r3⟩
    rw [show fX10_findKept_50L (n + 1) (nI i, S) = fX10_findKept_50 (fX10_findKept_50L n) (nI i) S from rfl]
    unfold fX10_findKept_50
    rw [hQ.2.2.2.2.2.1 18 (by decide), hS.1, if_neg (nl (by omega)), zld_n (by omega) (by omega), hQ.2.2.2.2.1 30 (by decide), he.2.1, k1, zbd_r, nadd]
    exact r1
theorem m_find29 {nd : Nat} {M : zSt} {pl : Nat} (hnd : nd ≤ 20) (h8 : zI M 8 = nI nd) : ∀ (m i n c : Nat) (S : zSt) (f : Nat → Nat), i + m = nd → m < n → QM nd M pl S f c → (∀ r, r < i → zA S 35 r = nI 1) →
    ∃ S' f' c', fX10_findKept_29L n (nI i, S) = fX10_findKept_50L zFU (nI 0, S') ∧ QM nd M pl S' f' c' ∧ ∀ r, r < nd → zA S' 35 r = nI 1 := by
  intro m
  induction m with
  | zero =>
    intro i n c S f hi hn hQ hr
    obtain ⟨n, rfl⟩ : ∃ n', n = n' + 1 := ⟨n - 1, by omega⟩
    refine ⟨S, f, c, ?_, hQ, fun r z => hr r (by omega)⟩
    rw [show fX10_findKept_29L (n + 1) (nI i, S) = fX10_findKept_29 (fX10_findKept_29L n) (nI i) S from rfl]
    unfold fX10_findKept_29
    rw [hQ.2.2.2.2.2.1 8 (by decide), h8, if_pos (qle (by omega))]
  | succ m ih =>
    intro i n c S f hi hn hQ hr
    obtain ⟨n, rfl⟩ : ∃ n', n = n' + 1 := ⟨n - 1, by omega⟩
    obtain ⟨S2, f2, c2, k1, k2, k3, k4, k5, k6⟩ := m_keep hQ (q := i) (by omega) (Kp_rt (Or.inl (by omega)))
    obtain ⟨S', f', c', r1, r2, r3⟩ := ih (i + 1) n c2 S2 f2 (by omega) (by omega) k2 (fun r hr1 => by
      by_cases e : r = i
      · rw [e]; exact k4
      · exact k5 _ (hr r (by omega)))
    refine ⟨S', f', c', ?_, r2, r3⟩
    rw [show fX10_findKept_29L (n + 1) (nI i, S) = fX10_findKept_29 (fX10_findKept_29L n) (nI i) S from rfl]
    unfold fX10_findKept_29
    rw [hQ.2.2.2.2.2.1 8 (by decide), h8, if_neg (nl (by omega)), k1, zbd_r, nadd]
    exact r1
theorem m_find2 {M : zSt} : ∀ (m i n : Nat) (S : zSt), i + m = 400 → m < n → FR [35, 36] [28] M S → (∀ r, r < i → zA S 35 r = nI 0) →
    ∃ S', fX10_findKept_2L n (nI i, S) = fX10_findKept_29L zFU (nI 0, S') ∧ FR [35, 36] [28] M S' ∧ zI S' 28 = nI 0 ∧ ∀ r, r < 400 → zA S' 35 r = nI 0 := by
  intro m
  induction m with
  | zero =>
    intro i n S hi hn fr hr
    obtain ⟨n, rfl⟩ : ∃ n', n = n' + 1 := ⟨n - 1, by omega⟩
    refine ⟨wI S 28 (nI 0), ?_, FR_trans fr (FR_I _ _ (by decide)), rfl, fun r z => hr r (by omega)⟩
    rw [show fX10_findKept_2L (n + 1) (nI i, S) = fX10_findKept_2 (fX10_findKept_2L n) (nI i) S from rfl]
    unfold fX10_findKept_2
    rw [if_pos (qle (by omega))]
  | succ m ih =>
    intro i n S hi hn fr hr
    obtain ⟨n, rfl⟩ : ∃ n', n = n' + 1 := ⟨n - 1, by omega⟩
    obtain ⟨S', r1, r2, r3⟩ := ih (i + 1) n (wA S 35 i (nI 0)) (by omega) (by omega) (FR_trans fr (FR_A _ _ _ (by decide))) (fun r hr1 => by
      show upd (zA S 35) i (nI 0) r = nI 0
      by_cases e : r = i
      · rw [e, updS]
      · rw [updN _ _ e]; exact hr r (by omega))
    refine ⟨S', ?_, r2, r3⟩
    rw [show fX10_findKept_2L (n + 1) (nI i, S) = fX10_findKept_2 (fX10_findKept_2L n) (nI i) S from rfl]
    unfold fX10_findKept_2
    rw [if_neg (nl (by omega)), zck_n (by omega) (by omega), ncl (by omega), nadd]
    exact r1
/-- what findKept leaves in the reference -/
def KM (nd : Nat) (M : zSt) (pl : Nat) (S : zSt) (f : Nat → Nat) (c : Nat) : Prop :=
  FR [35, 36] [28] M S ∧ zI S 28 = nI c ∧ c ≤ 400 ∧ (∀ j, j < c → f j < 400 ∧ zA S 36 j = nI (f j)) ∧ (∀ j j', j < c → j' < c → f j = f j' → j = j') ∧ (∀ n, (∃ j, j < c ∧ f j = n) ↔ Kp nd M pl n) ∧ (∀ n, n < 400 → Kp nd M pl n → zA S 35 n = nI 1) ∧ ∀ n, n < 400 → ¬ Kp nd M pl n → zA S 35 n = nI 0
theorem m_findKept {nd : Nat} {M : zSt} {pl sk : Nat} {bs : Nat → Nat} (hW : Wg nd M) (hS : MS M pl sk bs) (hnd : nd ≤ 20) (hd : ∀ d, d < nd → zA M 24 d ≠ nI 7) (h8 : zI M 8 = nI nd) :
    ∃ S f c, fX10_findKept M = some (nI c, S) ∧ KM nd M pl S f c := by
  have hpl := hS.2.2.2.1
  obtain ⟨S1, a1, a2, a3, a4⟩ := m_find2 (M := M) 400 0 zFU M (by omega) (by rw [zFU_s]; omega) (FR_refl M) (fun r z => absurd z (Nat.not_lt_zero _))
  obtain ⟨S2, f2, c2, b1, b2, b3⟩ := m_find29 (pl := pl) hnd h8 nd 0 zFU 0 S1 (fun _ => 0) (by omega) (by rw [zFU_s]; omega) ⟨a3, fun j z => absurd z (Nat.not_lt_zero _), fun n hn => Or.inl (a4 n hn), fun j j' z => absurd z (Nat.not_lt_zero _), a2⟩ (fun r z => absurd z (Nat.not_lt_zero _))
  obtain ⟨S3, f3, c3, d1, d2, d3⟩ := m_find50 hS pl 0 zFU c2 S2 f2 (by omega) (by rw [zFU_s]; omega) b2 (fun r z => by
    rcases z with z | ⟨k, z, -⟩
    · exact b3 r z
    · omega)
  obtain ⟨S4, f4, c4, e1, e2, e3, e4⟩ := m_find76 hW 401 0 zFU c3 S3 f3 (by omega) (Nat.zero_le _) (by rw [zFU_s]; omega) d2 d3 (fun j v z => absurd z (Nat.not_lt_zero _))
  obtain ⟨g1, g2, g3, g4, g5⟩ := e2
  have mk : ∀ n, Kp nd M pl n → zA S4 35 n = nI 1 := fun n hn => by
    refine (hn (fun n => n < 400 ∧ zA S4 35 n = nI 1) (fun r hr => ⟨?_, e3 r hr⟩) (fun u v hu he => ?_)).2
    · exact (Kp_live hW hS hnd hd (Kp_rt hr)).1
    · refine ⟨(ed_live hW hu.1 he).1, ?_⟩
      rcases g3 u hu.1 with z | ⟨-, j, hj, z⟩
      · rw [hu.2] at z; exact absurd z (by decide)
      · rw [← z] at he; exact e4 j v hj he
  have iff : ∀ n, (∃ j, j < c4 ∧ f4 j = n) ↔ Kp nd M pl n := fun n => by
    constructor
    · rintro ⟨j, hj, z⟩
      rw [← z]; exact (g2 j hj).2.2.1
    · intro hn
      rcases g3 n (Kp_live hW hS hnd hd hn).1 with z | ⟨-, z⟩
      · rw [mk n hn] at z; exact absurd z (by decide)
      · exact z
  refine ⟨S4, f4, c4, ?_, g5, g1, inj_400 g4 (fun j hj => (g2 j hj).1), fun j hj => ⟨(g2 j hj).1, (g2 j hj).2.1⟩, g4, iff, fun n _ hn => mk n hn, fun n hn4 hn => ?_⟩
  · unfold fX10_findKept
    rw [a1, b1, d1, e1]
  · rcases g3 n hn4 with z | ⟨-, z⟩
    · exact z
    · exact absurd ((iff n).mp z) hn
