theorem XQ.kp {nd : Nat} {M : zSt} {pl : Nat} {X0 X : zSt} {f len par : Nat → Nat} {c c0 : Nat} (h : XQ nd M pl X0 X f len par c c0) : ∀ j, j < c → Kp nd M pl (f j) := by
  obtain ⟨h1, h2, h3, h4, h5, h6, h7, h8, h9, h10, h11, h12, h13⟩ := h
  intro j
  induction j using Nat.strongRecOn with
  | _ j ih =>
    intro hj
    by_cases q : j < c0
    · exact Kp_rt (h8 j q).1
    · obtain ⟨a, b, -⟩ := h11 j (by omega) hj
      exact Kp_ed (ih (par j) a (by omega)) b
/-- what is done for the nodes ahead -/
def Dn (M : zSt) (f par : Nat → Nat) (c c0 i : Nat) : Prop := ∀ p v, p < i → ed M (f p) v → ∃ j, j < c ∧ f j = v ∧ (c0 ≤ j → par j ≤ p)
theorem x_find42 {nd : Nat} {M : zSt} {pl sk : Nat} {bs : Nat → Nat} {X0 : zSt} (hW : Wg nd M) (hR : Rg X0 M) (hS : MS M pl sk bs) (hnd : nd ≤ 20) (hd : ∀ d, d < nd → zA M 24 d ≠ nI 7) : ∀ (m i n c c0 : Nat) (X : zSt) (f len par : Nat → Nat), i + m = 401 → i ≤ c → m < n → XQ nd M pl X0 X f len par c c0 → (∀ j, c0 ≤ j → j < c → par j < i) → Dn M f par c c0 i →
    ∃ X' f' len' par' c', fX1_findKept_42L n (nI i, X) = some ((), X') ∧ XQ nd M pl X0 X' f' len' par' c' c0 ∧ Dn M f' par' c' c0 c' := by
  intro m
  induction m with
  | zero =>
    intro i n c c0 X f len par hi hic hn hQ
    have := hQ.c400
    omega
  | succ m ih =>
    intro i n c c0 X f len par hi hic hn hQ hp hD
    obtain ⟨n, rfl⟩ : ∃ n', n = n' + 1 := ⟨n - 1, by omega⟩
    have hc4 := hQ.c400
    rw [show fX1_findKept_42L (n + 1) (nI i, X) = fX1_findKept_42 (fX1_findKept_42L n) (nI i) X from rfl]
    unfold fX1_findKept_42
    rw [hQ.1]
    by_cases q : c ≤ i
    · rw [if_pos (qle q)]
      have : i = c := by omega
      rw [this] at hD
      exact ⟨X, f, len, par, c, rfl, hQ, hD⟩
    · have hic : i < c := by omega
      obtain ⟨g1, g2⟩ := hQ.2.1 i hic
      have hk := hQ.kp i hic
      have hl := (Kp_live hW hS hnd hd hk).2
      have fr := hQ.2.2.2.2.2.2.2.2.2.2.2.2
      have hRX : Rg X M := fun k hk4 => by
        rw [fr.1 25 (by decide), fr.1 26 (by decide), fr.1 27 (by decide), fr.1 28 (by decide)]
        exact hR k hk4
      have hr := hRX.live g1 hl
      rw [if_neg (nl (by omega)), if_neg (nl (by omega)), zld_n (by omega) (by omega), g2, x_first g1, zbd_r, x_second g1, zbd_r, x_hasTwo hRX g1 hl, zbd_r, hr.2.1, hr.2.2.1]
      have hpi : ∀ j, c0 ≤ j → j < c → par j ≤ i := fun j a b => Nat.le_of_lt (hp j a b)
      by_cases t : two M (f i)
      · have hll : lvn M (zA M 25 (f i)) ∧ lvn M (zA M 26 (f i)) := by
          rcases t with z | z
          · exact hW.p1 g1 z
          · exact hW.p4 g1 z
        have l1 := hll.1.lt
        have l2 := hll.2.lt
        -- the lesser, then the greater
        have pair : ∀ lo hi' : Nat, lo ≤ hi' → lo < 400 → hi' < 400 → ed M (f i) lo → ed M (f i) hi' → (∀ v, ed M (f i) v → v = lo ∨ v = hi') →
            ∃ X' f' len' par' c', zbd (fX1_comeTo (nI lo) (nI (f i)) X) (fun _ S18 => fX1_findKept_124 (fX1_findKept_42L n) (nI i) (nI (f i)) (nI hi') S18) = some ((), X') ∧ XQ nd M pl X0 X' f' len' par' c' c0 ∧ Dn M f' par' c' c0 c' := by
          intro lo hi' hle hlo hhi e1 e2 hcov
          obtain ⟨X1, f1, len1, par1, c1, k1, k2, k3, k4, k5, k6, k7, k8⟩ := x_come hQ hic hlo e1 (fun _ j a b => Or.inl (hp j a b)) hpi
          have efi : f1 i = f i := (k4 i hic).1
          obtain ⟨X2, f2, len2, par2, c2, m1, m2, m3, m4, m5, m6, m7, m8⟩ := x_come (i := i) (q := hi') k2 (by omega) hhi (by rw [efi]; exact e2) (fun z j a b => by
            by_cases y : j < c
            · left; rw [(k4 j y).2]; exact hp j a y
            · right
              obtain ⟨y1, y2⟩ := k7 j (by omega) b
              refine ⟨y1, ?_⟩
              rw [y2]
              rcases Nat.lt_or_ge lo hi' with w | w
              · exact w
              · have : lo = hi' := by omega
                rw [this] at k8
                exact absurd z k8) k6
          rw [k1, zbd_r]
          unfold fX1_findKept_124
          rw [efi] at m1
          rw [m1, zbd_r, nadd]
          refine ih (i + 1) n c2 c0 X2 f2 len2 par2 (by omega) (by omega) (by omega) m2 (fun j a b => by have := m6 j a b; omega) (fun p v hp' hv => ?_)
          by_cases z : p = i
          · subst z
            rw [(m4 p (by omega)).1, efi] at hv
            rcases hcov v hv with w | w
            · obtain ⟨j, j1, j2⟩ := k5
              exact ⟨j, by omega, by rw [(m4 j j1).1, w]; exact j2, fun y => m6 j y (by omega)⟩
            · obtain ⟨j, j1, j2⟩ := m5
              exact ⟨j, j1, by rw [w]; exact j2, fun y => m6 j y j1⟩
          · rw [(m4 p (by omega)).1, (k4 p (by omega)).1] at hv
            obtain ⟨j, j1, j2, j3⟩ := hD p v (by omega) hv
            exact ⟨j, by omega, by rw [(m4 j (by omega)).1, (k4 j j1).1]; exact j2, fun y => by rw [(m4 j (by omega)).2, (k4 j j1).2]; exact j3 y⟩
        have ef : ed M (f i) (fs M (f i)) := Or.inl ⟨t, Or.inl rfl⟩
        have es : ed M (f i) (sn M (f i)) := Or.inl ⟨t, Or.inr rfl⟩
        have cov : ∀ v, ed M (f i) v → v = fs M (f i) ∨ v = sn M (f i) := fun v hv => by
          rcases hv with ⟨-, z⟩ | ⟨-, z⟩
          · exact z
          · exact Or.inl z
        rw [if_pos t, if_neg (by decide)]
        have ea : zA M 25 (f i) = nI (fs M (f i)) := l1.2.1
        have eb : zA M 26 (f i) = nI (sn M (f i)) := l2.2.1
        have ha4 : fs M (f i) < 400 := l1.1
        have hb4 : sn M (f i) < 400 := l2.1
        rw [ea, eb]
        unfold fX1_findKept_107
        by_cases w : sn M (f i) ≤ fs M (f i)
        · rw [if_pos (qle w)]
          simp only [if_pos (qle w (by omega))]
          exact pair _ _ w hb4 ha4 es ef (fun v hv => (cov v hv).symm)
        · rw [if_neg (nl (by omega))]
          simp only [if_neg (nl (a := sn M (f i)) (b := fs M (f i)) (by omega) (by omega))]
          exact pair _ _ (by omega) ha4 hb4 ef es cov
      · rw [if_neg t, if_pos nI_0, x_hasOne hRX g1 hl, zbd_r]
        by_cases t6 : zA M 24 (f i) = nI 6
        · have l1 := (hW.p6 g1 t6).lt
          obtain ⟨X1, f1, len1, par1, c1, k1, k2, k3, k4, k5, k6, k7, k8⟩ := x_come hQ hic l1.1 (Or.inr ⟨t6, rfl⟩) (fun _ j a b => Or.inl (hp j a b)) hpi
          rw [if_pos t6, if_neg (by decide), l1.2.1, k1, zbd_r, nadd]
          refine ih (i + 1) n c1 c0 X1 f1 len1 par1 (by omega) (by omega) (by omega) k2 (fun j a b => by have := k6 j a b; omega) (fun p v hp' hv => ?_)
          by_cases z : p = i
          · subst z
            rw [(k4 p (by omega)).1] at hv
            obtain ⟨j, j1, j2⟩ := k5
            refine ⟨j, j1, ?_, fun y => k6 j y j1⟩
            rcases hv with ⟨w, -⟩ | ⟨-, w⟩
            · exact absurd w t
            · rw [w]; exact j2
          · rw [(k4 p (by omega)).1] at hv
            obtain ⟨j, j1, j2, j3⟩ := hD p v (by omega) hv
            exact ⟨j, by omega, by rw [(k4 j j1).1]; exact j2, fun y => by rw [(k4 j j1).2]; exact j3 y⟩
        · rw [if_neg t6, if_pos nI_0, nadd]
          refine ih (i + 1) n c c0 X f len par (by omega) (by omega) (by omega) hQ (fun j a b => by have := hp j a b; omega) (fun p v hp' hv => ?_)
          by_cases z : p = i
          · subst z
            rcases hv with ⟨w, -⟩ | ⟨w, -⟩
            · exact absurd w t
            · exact absurd w t6
          · exact hD p v (by omega) hv
theorem x_find11 {nd : Nat} {M : zSt} {pl : Nat} {X0 : zSt} : ∀ (m i n c : Nat) (X : zSt) (f : Nat → Nat), i + m = 400 → m < n → FR [36, 37, 38] [27] X0 X → zI X 27 = nI c → c ≤ i → (∀ j, j < c → f j < i ∧ zA X 36 j = nI (f j) ∧ rt nd M pl (f j)) → (∀ r, r < i → rt nd M pl r → ∃ j, j < c ∧ f j = r) → (∀ j j', j < j' → j' < c → f j < f j') → (∀ k, k < 400 → (rt nd M pl k → zA X 37 k = nI 1) ∧ (¬ rt nd M pl k → zA X 37 k = nI 0)) →
    ∃ (X' : zSt) (f' : Nat → Nat) (c' : Nat), fX1_findKept_11L n (nI i, X) = fX1_findKept_42L zFU (nI 0, X') ∧ FR [36, 37, 38] [27] X0 X' ∧ zI X' 27 = nI c' ∧ c' ≤ 400 ∧ (∀ j, j < c' → f' j < 400 ∧ zA X' 36 j = nI (f' j) ∧ rt nd M pl (f' j)) ∧ (∀ r, r < 400 → rt nd M pl r → ∃ j, j < c' ∧ f' j = r) ∧ (∀ j j', j < j' → j' < c' → f' j < f' j') ∧ (∀ k, k < 400 → (rt nd M pl k → zA X' 37 k = nI 1) ∧ (¬ rt nd M pl k → zA X' 37 k = nI 0)) := by
  intro m
  induction m with
  | zero =>
    intro i n c X f hi hn fr h27 hc h1 h2 h3 h4
    obtain ⟨n, rfl⟩ : ∃ n', n = n' + 1 := ⟨n - 1, by omega⟩
    have e4 : i = 400 := by omega
    refine ⟨X, f, c, ?_, fr, h27, by omega, fun j hj => by rw [← e4]; exact h1 j hj, fun r hr => h2 r (by omega), h3, h4⟩
    rw [show fX1_findKept_11L (n + 1) (nI i, X) = fX1_findKept_11 (fX1_findKept_11L n) (nI i) X from rfl]
    unfold fX1_findKept_11
    rw [if_pos (qle (by omega))]
  | succ m ih =>
    intro i n c X f hi hn fr h27 hc h1 h2 h3 h4
    obtain ⟨n, rfl⟩ : ∃ n', n = n' + 1 := ⟨n - 1, by omega⟩
    rw [show fX1_findKept_11L (n + 1) (nI i, X) = fX1_findKept_11 (fX1_findKept_11L n) (nI i) X from rfl]
    unfold fX1_findKept_11
    rw [if_neg (nl (by omega)), zld_n (by omega) (by omega)]
    by_cases e : rt nd M pl i
    · rw [(h4 i (by omega)).1 e, if_pos rfl, x_addFound (c := c) (by omega) h27 (by omega), zbd_r, nadd]
      refine ih (i + 1) n (c + 1) (wI (wA (wA X 38 i (-1)) 36 c (nI i)) 27 (nI (c + 1))) (up f c i) (by omega) (by omega) (FR_trans fr (FR_trans (FR_trans (FR_A _ _ _ (by decide)) (FR_A _ _ _ (by decide))) (FR_I _ _ (by decide)))) rfl (by omega) (fun j hj => ?_) (fun r hr hr1 => ?_) (fun j j' hj hj' => ?_) h4
      · show up f c i j < i + 1 ∧ upd (zA X 36) c (nI i) j = nI (up f c i j) ∧ rt nd M pl (up f c i j)
        by_cases z : j = c
        · rw [z, upS, updS]; exact ⟨by omega, rfl, e⟩
        · rw [upN f i z, updN _ _ z]
          have := h1 j (by omega)
          exact ⟨by omega, this.2⟩
      · by_cases z : r = i
        · exact ⟨c, by omega, by rw [upS, z]⟩
        · obtain ⟨j, j1, j2⟩ := h2 r (by omega) hr1
          exact ⟨j, by omega, by rw [upN f i (by omega)]; exact j2⟩
      · by_cases z : j' = c
        · rw [z, upS, upN f i (by omega)]
          exact (h1 j (by omega)).1
        · rw [upN f i z, upN f i (by omega)]
          exact h3 j j' hj (by omega)
    · rw [(h4 i (by omega)).2 e, if_neg (by decide), nadd]
      refine ih (i + 1) n c X f (by omega) (by omega) fr h27 (by omega) (fun j hj => ⟨by have := (h1 j hj).1; omega, (h1 j hj).2⟩) (fun r hr hr1 => ?_) h3 h4
      by_cases z : r = i
      · rw [z] at hr1; exact absurd hr1 e
      · exact h2 r (by omega) hr1
theorem x_mark39 {nd : Nat} {M : zSt} {pl sk : Nat} {bs : Nat → Nat} {X0 : zSt} (hS : MS M pl sk bs) (hRs : Rs X0 M pl sk) : ∀ (m i n : Nat) (X : zSt), i + m = pl → m < n → FR [36, 37, 38] [27] X0 X → (∀ k, k < 400 → ((k < nd ∨ ∃ y, y < i ∧ en M y = k) → zA X 37 k = nI 1) ∧ (¬ (k < nd ∨ ∃ y, y < i ∧ en M y = k) → zA X 37 k = nI 0)) →
    ∃ X', fX1_markBeginnings_39L n (nI i, X) = some ((), X') ∧ FR [36, 37, 38] [27] X0 X' ∧ zI X' 27 = zI X 27 ∧ ∀ k, k < 400 → (rt nd M pl k → zA X' 37 k = nI 1) ∧ (¬ rt nd M pl k → zA X' 37 k = nI 0) := by
  have hpl := hS.2.2.2.1
  intro m
  induction m with
  | zero =>
    intro i n X hi hn fr h
    obtain ⟨n, rfl⟩ : ∃ n', n = n' + 1 := ⟨n - 1, by omega⟩
    obtain rfl : i = pl := by omega
    refine ⟨X, ?_, fr, rfl, h⟩
    rw [show fX1_markBeginnings_39L (n + 1) (nI i, X) = fX1_markBeginnings_39 (fX1_markBeginnings_39L n) (nI i) X from rfl]
    unfold fX1_markBeginnings_39 fX6_size
    rw [zbd_r, fr.2.1 19 (by decide), hRs.1, if_pos (qle (Nat.le_refl _))]
  | succ m ih =>
    intro i n X hi hn fr h
    obtain ⟨n, rfl⟩ : ∃ n', n = n' + 1 := ⟨n - 1, by omega⟩
    have he := hS.ent (i := i) (by omega)
    have e19 : zI X 19 = nI pl := by rw [fr.2.1 19 (by decide)]; exact hRs.1
    have e29 : zA X 29 i = nI (en M i) := by rw [fr.1 29 (by decide), hRs.2.2.1 i (by omega)]; exact he.2.1
    obtain ⟨X', r1, r2, r3, r4⟩ := ih (i + 1) n (wA X 37 (en M i) (nI 1)) (by omega) (by omega) (FR_trans fr (FR_A _ _ _ (by decide))) (fun k hk => by
      show ((k < nd ∨ ∃ y, y < i + 1 ∧ en M y = k) → upd (zA X 37) (en M i) (nI 1) k = nI 1) ∧ (¬ (k < nd ∨ ∃ y, y < i + 1 ∧ en M y = k) → upd (zA X 37) (en M i) (nI 1) k = nI 0)
      by_cases z : k = en M i
      · rw [z, updS]
        exact ⟨fun _ => rfl, fun w => absurd (Or.inr ⟨i, by omega, rfl⟩) w⟩
      · rw [updN _ _ z]
        refine ⟨fun w => (h k hk).1 ?_, fun w => (h k hk).2 (fun w2 => w ?_)⟩
        · rcases w with w | ⟨y, y1, y2⟩
          · exact Or.inl w
          · refine Or.inr ⟨y, ?_, y2⟩
            rcases Nat.lt_or_ge y i with w3 | w3
            · exact w3
            · have : y = i := by omega
              rw [this] at y2; exact absurd y2.symm z
        · rcases w2 with w | ⟨y, y1, y2⟩
          · exact Or.inl w
          · exact Or.inr ⟨y, by omega, y2⟩)
    refine ⟨X', ?_, r2, r3, r4⟩
    rw [show fX1_markBeginnings_39L (n + 1) (nI i, X) = fX1_markBeginnings_39 (fX1_markBeginnings_39L n) (nI i) X from rfl]
    unfold fX1_markBeginnings_39 fX6_size
    rw [zbd_r, e19, if_neg (nl (by omega)), x_at e19 (by omega) hpl, zbd_r, e29, if_neg (nneg (by omega)), if_neg (nl (by omega)), zck_n he.1 (by omega), ncl (by omega), nadd]
    exact r1
theorem x_mark2 {nd : Nat} {X0 : zSt} (hnd : nd ≤ 20) (h6 : zI X0 6 = nI nd) : ∀ (m i n : Nat) (X : zSt), i + m = 400 → m < n → FR [36, 37, 38] [27] X0 X → (∀ k, k < i → (k < nd → zA X 37 k = nI 1) ∧ (¬ k < nd → zA X 37 k = nI 0)) →
    ∃ X', fX1_markBeginnings_2L n (nI i, X) = fX1_markBeginnings_39L zFU (nI 0, X') ∧ FR [36, 37, 38] [27] X0 X' ∧ zI X' 27 = zI X 27 ∧ ∀ k, k < 400 → (k < nd → zA X' 37 k = nI 1) ∧ (¬ k < nd → zA X' 37 k = nI 0) := by
  intro m
  induction m with
  | zero =>
    intro i n X hi hn fr h
    obtain ⟨n, rfl⟩ : ∃ n', n = n' + 1 := ⟨n - 1, by omega⟩
    refine ⟨X, ?_, fr, rfl, fun k hk => h k (by omega)⟩
    rw [show fX1_markBeginnings_2L (n + 1) (nI i, X) = fX1_markBeginnings_2 (fX1_markBeginnings_2L n) (nI i) X from rfl]
    unfold fX1_markBeginnings_2
    rw [if_pos (qle (by omega))]
  | succ m ih =>
    intro i n X hi hn fr h
    obtain ⟨n, rfl⟩ : ∃ n', n = n' + 1 := ⟨n - 1, by omega⟩
    have e6 : zI X 6 = nI nd := by rw [fr.2.1 6 (by decide)]; exact h6
    obtain ⟨X', r1, r2, r3, r4⟩ := ih (i + 1) n (wA X 37 i (if i < nd then nI 1 else nI 0)) (by omega) (by omega) (FR_trans fr (FR_A _ _ _ (by decide))) (fun k hk => by
      show (k < nd → upd (zA X 37) i (if i < nd then nI 1 else nI 0) k = nI 1) ∧ (¬ k < nd → upd (zA X 37) i (if i < nd then nI 1 else nI 0) k = nI 0)
      by_cases z : k = i
      · rw [z, updS]
        exact ⟨fun w => if_pos w, fun w => if_neg w⟩
      · rw [updN _ _ z]; exact h k (by omega))
    refine ⟨X', ?_, r2, r3, r4⟩
    rw [show fX1_markBeginnings_2L (n + 1) (nI i, X) = fX1_markBeginnings_2 (fX1_markBeginnings_2L n) (nI i) X from rfl]
    unfold fX1_markBeginnings_2 fX4_size
    rw [if_neg (nl (by omega)), zbd_r, e6]
    by_cases z : i < nd
    · rw [if_pos z] at r1
      rw [if_neg (nl (by omega)), zck_n (by omega) (by omega), ncl (by omega), nadd]
      exact r1
    · rw [if_neg z] at r1
      rw [if_pos (qle (by omega)), zck_n (by omega) (by omega), ncl (by omega), nadd]
      exact r1
/-- what findKept leaves in the class -/
theorem x_findKept {nd : Nat} {X M : zSt} {pl sk : Nat} {bs : Nat → Nat} (hW : Wg nd M) (hR : Rg X M) (hS : MS M pl sk bs) (hRs : Rs X M pl sk) (hnd : nd ≤ 20) (hd : ∀ d, d < nd → zA M 24 d ≠ nI 7) (h6 : zI X 6 = nI nd) :
    ∃ X' f len par c c0, fX1_findKept X = some ((), X') ∧ XQ nd M pl X X' f len par c c0 ∧ Dn M f par c c0 c ∧ ∀ n, (∃ j, j < c ∧ f j = n) ↔ Kp nd M pl n := by
  have hpl := hS.2.2.2.1
  have fr0 : FR [36, 37, 38] [27] X (wI X 27 (nI 0)) := FR_I _ _ (by decide)
  obtain ⟨X1, a1, a2, a3, a4⟩ := x_mark2 (X0 := X) hnd h6 400 0 zFU (wI X 27 (nI 0)) (by omega) (by rw [zFU_s]; omega) fr0 (fun k hk => absurd hk (Nat.not_lt_zero _))
  obtain ⟨X2, b1, b2, b3, b4⟩ := x_mark39 (nd := nd) hS hRs pl 0 zFU X1 (by omega) (by rw [zFU_s]; omega) a2 (fun k hk => by
    refine ⟨fun z => (a4 k hk).1 ?_, fun z => (a4 k hk).2 (fun w => z (Or.inl w))⟩
    rcases z with z | ⟨y, y1, -⟩
    · exact z
    · omega)
  have e27 : zI X2 27 = nI 0 := by rw [b3, a3]; rfl
  obtain ⟨X3, f3, c3, d1, d2, d3, d4, d5, d6, d7, d8⟩ := x_find11 (X0 := X) 400 0 zFU 0 X2 (fun _ => 0) (by omega) (by rw [zFU_s]; omega) b2 e27 (Nat.zero_le _) (fun j hj => absurd hj (Nat.not_lt_zero _)) (fun r hr => absurd hr (Nat.not_lt_zero _)) (fun j j' _ hj => absurd hj (Nat.not_lt_zero _)) b4
  have inj3 : ∀ j j', j < c3 → j' < c3 → f3 j = f3 j' → j = j' := fun j j' h1 h2 h3 => by
    rcases Nat.lt_trichotomy j j' with z | z | z
    · have := d7 j j' z h2; omega
    · exact z
    · have := d7 j' j z h1; omega
  have rt4 : ∀ r, rt nd M pl r → r < 400 := fun r hr => (Kp_live hW hS hnd hd (Kp_rt hr)).1
  have hQ : XQ nd M pl X X3 f3 (fun n => (zA X3 37 n).toNatClampNeg) (fun _ => 0) c3 c3 := by
    have l1 : ∀ n, n < 400 → rt nd M pl n → (zA X3 37 n).toNatClampNeg = 1 := fun n hn hr => by rw [(d8 n hn).1 hr]; rfl
    refine ⟨d3, fun j hj => ⟨(d5 j hj).1, (d5 j hj).2.1⟩, fun n hn => ?_, fun j hj => ?_, fun n hn hl => ?_, inj3, Nat.le_refl _, fun j hj => ⟨(d5 j hj).2.2, l1 _ (d5 j hj).1 (d5 j hj).2.2⟩, fun r hr => d6 r (rt4 r hr) hr, d7, fun j z1 z2 => by omega, fun j j' z1 z2 z3 => by omega, d2⟩
    · show zA X3 37 n = nI (zA X3 37 n).toNatClampNeg
      by_cases z : rt nd M pl n
      · rw [(d8 n hn).1 z]; rfl
      · rw [(d8 n hn).2 z]; rfl
    · show 1 ≤ (zA X3 37 (f3 j)).toNatClampNeg ∧ (zA X3 37 (f3 j)).toNatClampNeg ≤ j + 1
      rw [l1 _ (d5 j hj).1 (d5 j hj).2.2]; omega
    · by_cases z : rt nd M pl n
      · exact d6 n hn z
      · exfalso
        apply hl
        show (zA X3 37 n).toNatClampNeg = 0
        rw [(d8 n hn).2 z]; rfl
  obtain ⟨X4, f4, len4, par4, c4, e1, e2, e3⟩ := x_find42 hW hR hS hnd hd 401 0 zFU c3 c3 X3 f3 _ _ (by omega) (Nat.zero_le _) (by rw [zFU_s]; omega) hQ (fun j z1 z2 => by omega) (fun p v hp => absurd hp (Nat.not_lt_zero _))
  refine ⟨X4, f4, len4, par4, c4, c3, ?_, e2, e3, fun n => ⟨fun ⟨j, hj, z⟩ => by rw [← z]; exact e2.kp j hj, fun hn => ?_⟩⟩
  · unfold fX1_findKept fX1_markBeginnings
    rw [a1, b1, zbd_r, d1, e1]
  · refine hn (fun n => ∃ j, j < c4 ∧ f4 j = n) (fun r hr => ?_) (fun u v hu he => ?_)
    · obtain ⟨j, j1, j2⟩ := e2.2.2.2.2.2.2.2.2.1 r hr
      have := e2.2.2.2.2.2.2.1
      exact ⟨j, by omega, j2⟩
    · obtain ⟨j, j1, j2⟩ := hu
      rw [← j2] at he
      obtain ⟨j', y1, y2, -⟩ := e3 j v j1 he
      exact ⟨j', y1, y2⟩
