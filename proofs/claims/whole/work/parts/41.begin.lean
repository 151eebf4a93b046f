/-! the beginning -/
def FR (la li : List Nat) (S S' : zSt) : Prop := (∀ k, k ∉ la → zA S' k = zA S k) ∧ (∀ k, k ∉ li → zI S' k = zI S k) ∧ (∀ k, zL S' k = zL S k) ∧ ∀ k, zB S' k = zB S k
theorem FR_refl {la li : List Nat} (S : zSt) : FR la li S S := ⟨fun _ _ => rfl, fun _ _ => rfl, fun _ => rfl, fun _ => rfl⟩
theorem FR_trans {la li : List Nat} {X Y Z : zSt} (h1 : FR la li X Y) (h2 : FR la li Y Z) : FR la li X Z := ⟨fun k hk => (h2.1 k hk).trans (h1.1 k hk), fun k hk => (h2.2.1 k hk).trans (h1.2.1 k hk), fun k => (h2.2.2.1 k).trans (h1.2.2.1 k), fun k => (h2.2.2.2 k).trans (h1.2.2.2 k)⟩
theorem FR_mono {la li la' li' : List Nat} {X Y : zSt} (h : FR la li X Y) (h1 : ∀ k, k ∈ la → k ∈ la') (h2 : ∀ k, k ∈ li → k ∈ li') : FR la' li' X Y := ⟨fun k hk => h.1 k (fun z => hk (h1 k z)), fun k hk => h.2.1 k (fun z => hk (h2 k z)), h.2.2.1, h.2.2.2⟩
theorem FR_A {la li : List Nat} (X : zSt) {k : Nat} (i : Nat) (v : Int32) (hk : k ∈ la) : FR la li X (wA X k i v) := by
  refine ⟨fun j hj => ?_, fun _ _ => rfl, fun _ => rfl, fun _ => rfl⟩
  have : j ≠ k := fun z => hj (by rw [z]; exact hk)
  simp only [zs, this, if_false]
theorem FR_I {la li : List Nat} (X : zSt) {k : Nat} (v : Int32) (hk : k ∈ li) : FR la li X (wI X k v) := by
  refine ⟨fun _ _ => rfl, fun j hj => ?_, fun _ => rfl, fun _ => rfl⟩
  have : j ≠ k := fun z => hj (by rw [z]; exact hk)
  simp only [zs, this, if_false]
/-- the class's graph holds the first j FUNCTIONS and nothing else -/
def bX (X : zSt) (j : Nat) : Prop := (∀ n, n < 400 → j ≤ n → zA X 25 n = -1) ∧ (∀ n, n < j → zA X 25 n = nI 2 ∧ zA X 26 n = nI n ∧ zA X 27 n = -3 ∧ zA X 28 n = -3) ∧ zI X 14 = nI j ∧ zI X 15 = nI j ∧ zI X 16 = nI j ∧ zI X 17 = nI j ∧ zI X 18 = -3
def bM (M : zSt) (j : Nat) : Prop := (∀ n, n < 400 → j ≤ n → zA M 24 n = nI 7) ∧ (∀ n, n < j → zA M 24 n = nI 2 ∧ zA M 25 n = nI n ∧ zA M 26 n = -3 ∧ zA M 27 n = -3) ∧ zI M 15 = nI j ∧ zI M 16 = nI j ∧ zI M 17 = nI j
theorem x_clearL : ∀ (c i f : Nat) (X : zSt), i + c = 400 → c < f → (∀ n, n < i → zA X 25 n = -1) → ∃ X', fX0_clear_2L f (nI i, X) = some ((), X') ∧ FR [25] [14, 15, 16, 17, 18] X X' ∧ bX X' 0 := by
  intro c
  induction c with
  | zero =>
    intro i f X hi hf hX
    obtain ⟨f, rfl⟩ : ∃ n', f = n' + 1 := ⟨f - 1, by omega⟩
    obtain rfl : i = 400 := by omega
    refine ⟨wI (wI (wI (wI (wI X 14 (nI 0)) 15 (nI 0)) 16 (nI 0)) 17 (nI 0)) 18 (-3 : Int32), ?_, ?_, ?_⟩
    · show fX0_clear_2 (fX0_clear_2L f) (nI 400) X = _
      unfold fX0_clear_2
      rw [if_pos (qle (Nat.le_refl _))]
    · exact FR_trans (FR_trans (FR_trans (FR_trans (FR_I _ _ (by decide)) (FR_I _ _ (by decide))) (FR_I _ _ (by decide))) (FR_I _ _ (by decide))) (FR_I _ _ (by decide))
    · exact ⟨fun n hn _ => hX n hn, fun n hn => absurd hn (Nat.not_lt_zero _), rfl, rfl, rfl, rfl, rfl⟩
  | succ c ih =>
    intro i f X hi hf hX
    obtain ⟨f, rfl⟩ : ∃ n', f = n' + 1 := ⟨f - 1, by omega⟩
    obtain ⟨X', h1, h2, h3⟩ := ih (i + 1) f (wA X 25 i (-1)) (by omega) (by omega) (fun n hn => by
      show upd (zA X 25) i (-1) n = -1
      by_cases e : n = i
      · rw [e, updS]
      · rw [updN _ _ e]; exact hX n (by omega))
    refine ⟨X', ?_, FR_trans (FR_A _ _ _ (by decide)) h2, h3⟩
    show fX0_clear_2 (fX0_clear_2L f) (nI i) X = _
    unfold fX0_clear_2
    rw [if_neg (nl (by omega)), zck_n (by omega) (by omega), ncl (by omega), nadd]
    exact h1
theorem x_clear (X : zSt) : ∃ X', fX0_clear X = some ((), X') ∧ FR [25] [14, 15, 16, 17, 18] X X' ∧ bX X' 0 := by
  unfold fX0_clear
  exact x_clearL 400 0 zFU X (by omega) (by rw [zFU_s]; omega) (fun n hn => absurd hn (Nat.not_lt_zero _))
theorem bX_add {X : zSt} {j : Nat} (hj : j < 400) (h : bX X j) : fX0_add (nI 2) (nI j) (-3) X = some (nI j, nX X j (nI 2) (nI j) (-3)) ∧ bX (nX X j (nI 2) (nI j) (-3)) (j + 1) := by
  obtain ⟨h1, h2, h3, h4, h5, h6, h7⟩ := h
  refine ⟨x_add hj (h1 j hj (Nat.le_refl _)) h6 (Nat.le_refl _) (fun i a b => by omega) _ _ _, fun n hn hjn => ?_, fun n hn => ?_, ?_, ?_, ?_, rfl, h7⟩
  · show upd (zA X 25) j (nI 2) n = -1
    rw [updN _ _ (by omega)]; exact h1 n hn (by omega)
  · show upd (zA X 25) j (nI 2) n = nI 2 ∧ upd (zA X 26) j (nI j) n = nI n ∧ upd (zA X 27) j (-3) n = -3 ∧ upd (zA X 28) j (zI X 18) n = -3
    by_cases e : n = j
    · subst e
      rw [updS, updS, updS, updS, h7]; exact ⟨rfl, rfl, rfl, rfl⟩
    · rw [updN _ _ e, updN _ _ e, updN _ _ e, updN _ _ e]; exact h2 n (by omega)
  · show zI X 14 + nI 1 = _
    rw [h3, nadd]
  · show zI X 15 + nI 1 = _
    rw [h4, nadd]
  · show (if zI X 14 + nI 1 ≤ zI X 16 then zI X 16 else zI X 14 + nI 1) = _
    rw [h3, h5, nadd, if_neg (nl (by omega))]
theorem bM_add {M : zSt} {j : Nat} (hj : j < 400) (h : bM M j) : fX10_node (nI 2) (nI j) (-3) (-3) M = some (nI j, nM0 M j (nI 2) (nI j) (-3) (-3)) ∧ bM (nM0 M j (nI 2) (nI j) (-3) (-3)) (j + 1) := by
  obtain ⟨h1, h2, h3, h4, h5⟩ := h
  refine ⟨m_nodeB hj (h1 j hj (Nat.le_refl _)) (fun i hi => by rw [(h2 i hi).1]; decide) _ _ _, fun n hn hjn => ?_, fun n hn => ?_, ?_, ?_, ?_⟩
  · show upd (zA M 24) j (nI 2) n = nI 7
    rw [updN _ _ (by omega)]; exact h1 n hn (by omega)
  · show upd (zA M 24) j (nI 2) n = nI 2 ∧ upd (zA M 25) j (nI j) n = nI n ∧ upd (zA M 26) j (-3) n = -3 ∧ upd (zA M 27) j (-3) n = -3
    by_cases e : n = j
    · subst e
      rw [updS, updS, updS, updS]; exact ⟨rfl, rfl, rfl, rfl⟩
    · rw [updN _ _ e, updN _ _ e, updN _ _ e, updN _ _ e]; exact h2 n (by omega)
  · show zI M 15 + nI 1 = _
    rw [h3, nadd]
  · show (if zI M 15 + nI 1 ≤ zI M 16 then zI M 16 else zI M 15 + nI 1) = _
    rw [h3, h4, nadd, if_neg (nl (by omega))]
  · show zI M 17 + nI 1 = _
    rw [h5, nadd]
theorem FR_nX {X : zSt} (q : Nat) (k a b : Int32) : FR [25, 26, 27, 28] [14, 15, 16, 17] X (nX X q k a b) :=
  FR_trans (FR_trans (FR_trans (FR_trans (FR_trans (FR_trans (FR_trans (FR_A _ _ _ (by decide)) (FR_A _ _ _ (by decide))) (FR_A _ _ _ (by decide))) (FR_A _ _ _ (by decide))) (FR_I _ _ (by decide))) (FR_I _ _ (by decide))) (FR_I _ _ (by decide))) (FR_I _ _ (by decide))
theorem FR_nM0 {M : zSt} (q : Nat) (k a b y : Int32) : FR [24, 25, 26, 27] [15, 16, 17] M (nM0 M q k a b y) :=
  FR_trans (FR_trans (FR_trans (FR_trans (FR_trans (FR_trans (FR_A _ _ _ (by decide)) (FR_A _ _ _ (by decide))) (FR_A _ _ _ (by decide))) (FR_A _ _ _ (by decide))) (FR_I _ _ (by decide))) (FR_I _ _ (by decide))) (FR_I _ _ (by decide))
theorem x_defL {X : zSt} {nd m : Nat} {w : Int64} (h6 : zI X 6 = nI nd) (hnd : nd ≤ 20) (hm : m < nd) (hw : zB X 12 m = w) : ∀ (c i f : Nat), i + c = m → c < f → (∀ d, i ≤ d → d < m → zB X 12 d ≠ w) → fX4_definitionOf_2L f (w, nI i, X) = some (nI m, X) := by
  intro c
  induction c with
  | zero =>
    intro i f hi hf hn
    obtain ⟨f, rfl⟩ : ∃ n', f = n' + 1 := ⟨f - 1, by omega⟩
    obtain rfl : i = m := by omega
    show fX4_definitionOf_2 (fX4_definitionOf_2L f) w (nI i) X = _
    unfold fX4_definitionOf_2
    rw [h6, if_neg (nl (by omega)), if_neg (nl (by omega)), zld_n (by omega) (by omega), if_pos ((lgc0 _ _).mpr hw)]
  | succ c ih =>
    intro i f hi hf hn
    obtain ⟨f, rfl⟩ : ∃ n', f = n' + 1 := ⟨f - 1, by omega⟩
    show fX4_definitionOf_2 (fX4_definitionOf_2L f) w (nI i) X = _
    unfold fX4_definitionOf_2
    rw [h6, if_neg (nl (by omega)), if_neg (nl (by omega)), zld_n (by omega) (by omega), if_neg (fun z => hn i (Nat.le_refl _) (by omega) ((lgc0 _ _).mp z)), nadd]
    exact ih (i + 1) f (by omega) (by omega) (fun d h1 h2 => hn d (by omega) h2)
theorem x_def {X : zSt} {nd m : Nat} {w : Int64} (h6 : zI X 6 = nI nd) (hnd : nd ≤ 20) (hm : m < nd) (hw : zB X 12 m = w) (hn : ∀ d, d < m → zB X 12 d ≠ w) : fX4_definitionOf w X = some (nI m, X) := by
  unfold fX4_definitionOf
  exact x_defL h6 hnd hm hw m 0 zFU (by omega) (by rw [zFU_s]; omega) (fun d _ h => hn d h)
theorem x_defNL {X : zSt} {nd : Nat} {w : Int64} (h6 : zI X 6 = nI nd) (hnd : nd ≤ 20) (hn : ∀ d, d < nd → zB X 12 d ≠ w) : ∀ (c i f : Nat), i + c = nd → c < f → fX4_definitionOf_2L f (w, nI i, X) = some (-1, X) := by
  intro c
  induction c with
  | zero =>
    intro i f hi hf
    obtain ⟨f, rfl⟩ : ∃ n', f = n' + 1 := ⟨f - 1, by omega⟩
    show fX4_definitionOf_2 (fX4_definitionOf_2L f) w (nI i) X = _
    unfold fX4_definitionOf_2
    rw [h6, if_pos (qle (by omega))]
  | succ c ih =>
    intro i f hi hf
    obtain ⟨f, rfl⟩ : ∃ n', f = n' + 1 := ⟨f - 1, by omega⟩
    show fX4_definitionOf_2 (fX4_definitionOf_2L f) w (nI i) X = _
    unfold fX4_definitionOf_2
    rw [h6, if_neg (nl (by omega)), if_neg (nl (by omega)), zld_n (by omega) (by omega), if_neg (fun z => hn i (by omega) ((lgc0 _ _).mp z)), nadd]
    exact ih (i + 1) f (by omega) (by omega)
theorem x_defN {X : zSt} {nd : Nat} {w : Int64} (h6 : zI X 6 = nI nd) (hnd : nd ≤ 20) (hn : ∀ d, d < nd → zB X 12 d ≠ w) : fX4_definitionOf w X = some (-1, X) := by
  unfold fX4_definitionOf
  exact x_defNL h6 hnd hn nd 0 zFU (by omega) (by rw [zFU_s]; omega)
theorem x_beginL {nd m : Nat} (hnd : nd ≤ 20) (hm : m < nd) : ∀ (c j f : Nat) (X : zSt), j + c = 20 → c < f → zI X 6 = nI nd → zB X 12 m = 1835100526 → (∀ d, d < m → zB X 12 d ≠ 1835100526) → bX X (if j ≤ nd then j else nd) → (∀ d, d < j → zA X 31 d = nI 0 ∧ zA X 32 d = nI 0) →
    ∃ X', fX2_begin_9L f (nI j, X) = some ((), X') ∧ FR [25, 26, 27, 28, 29, 30, 31, 32] [14, 15, 16, 17, 19, 20, 21] X X' ∧ bX X' nd ∧ (∀ d, d < 20 → zA X' 31 d = nI 0 ∧ zA X' 32 d = nI 0) ∧ zI X' 19 = nI 1 ∧ zI X' 20 = nI 0 ∧ zI X' 21 = nI 0 ∧ zA X' 29 0 = nI m ∧ zA X' 30 0 = nI 0 := by
  intro c
  induction c with
  | zero =>
    intro j f X hj hf h6 hw hn hb hz
    obtain ⟨f, rfl⟩ : ∃ n', f = n' + 1 := ⟨f - 1, by omega⟩
    obtain rfl : j = 20 := by omega
    have hb : bX X nd := by
      by_cases e : 20 ≤ nd
      · rw [if_pos e] at hb
        have : nd = 20 := by omega
        rw [this]; exact hb
      · rw [if_neg e] at hb; exact hb
    refine ⟨wI (wI (wA (wA (wI (wI X 19 (nI 0)) 20 (nI 0)) 30 0 (nI 0)) 29 0 (nI m)) 19 (nI 1)) 21 (nI 0), ?_, ?_, ?_, hz, rfl, rfl, rfl, ?_, ?_⟩
    · show fX2_begin_9 (fX2_begin_9L f) (nI 20) X = _
      unfold fX2_begin_9 fX6_begin
      rw [if_pos (qle (Nat.le_refl _)), x_def h6 hnd hm hw hn, zbd_r, zck_n (by omega) (by omega), ncl (by omega), x_push (sz := 0) (by rfl) (by omega), zbd_r, zbd_r]
    · exact FR_trans (FR_trans (FR_trans (FR_trans (FR_trans (FR_I _ _ (by decide)) (FR_I _ _ (by decide))) (FR_A _ _ _ (by decide))) (FR_A _ _ _ (by decide))) (FR_I _ _ (by decide))) (FR_I _ _ (by decide))
    · exact hb
    · rfl
    · rfl
  | succ c ih =>
    intro j f X hj hf h6 hw hn hb hz
    obtain ⟨f, rfl⟩ : ∃ n', f = n' + 1 := ⟨f - 1, by omega⟩
    have hz' : ∀ d, d < j + 1 → upd (zA X 31) j (nI 0) d = nI 0 ∧ upd (zA X 32) j (nI 0) d = nI 0 := by
      intro d hd
      by_cases e : d = j
      · rw [e, updS, updS]; exact ⟨rfl, rfl⟩
      · rw [updN _ _ e, updN _ _ e]; exact hz d (by omega)
    have hb1 : bX (wA (wA X 31 j (nI 0)) 32 j (nI 0)) (if j ≤ nd then j else nd) := hb
    have fr1 : FR [25, 26, 27, 28, 29, 30, 31, 32] [14, 15, 16, 17, 19, 20, 21] X (wA (wA X 31 j (nI 0)) 32 j (nI 0)) := FR_trans (FR_A _ _ _ (by decide)) (FR_A _ _ _ (by decide))
    have go : fX2_begin_9L (f + 1) (nI j, X) = (if nI nd ≤ nI j then fX2_begin_9L f (nI (j + 1), wA (wA X 31 j (nI 0)) 32 j (nI 0)) else zbd (fX0_add (nI 2) (nI j) (-3 : Int32) (wA (wA X 31 j (nI 0)) 32 j (nI 0))) (fun r9 S10 => fX2_begin_9L f (nI (j + 1), S10))) := by
      show fX2_begin_9 (fX2_begin_9L f) (nI j) X = _
      unfold fX2_begin_9 fX4_size
      rw [if_neg (nl (by omega)), zck_n (by omega) (by omega), zck_n (by omega) (by omega), zbd_r, ncl (by omega), show zI (wA (wA X 31 j (nI 0)) 32 j (nI 0)) 6 = nI nd from h6, nadd]
    rw [go]
    by_cases e : nd ≤ j
    · rw [if_pos (qle e)]
      have hb2 : bX (wA (wA X 31 j (nI 0)) 32 j (nI 0)) (if j + 1 ≤ nd then j + 1 else nd) := by
        rw [if_neg (by omega)]
        by_cases e2 : j ≤ nd
        · rw [if_pos e2] at hb1
          have : nd = j := by omega
          rw [this]; exact hb1
        · rw [if_neg e2] at hb1; exact hb1
      obtain ⟨X', h1, h2, h3⟩ := ih (j + 1) f (wA (wA X 31 j (nI 0)) 32 j (nI 0)) (by omega) (by omega) h6 hw hn hb2 hz'
      exact ⟨X', h1, FR_trans fr1 h2, h3⟩
    · rw [if_neg (nl (by omega))]
      rw [if_pos (by omega)] at hb1
      obtain ⟨a1, a2⟩ := bX_add (by omega) hb1
      rw [a1, zbd_r]
      have fr2 := FR_nX (X := wA (wA X 31 j (nI 0)) 32 j (nI 0)) j (nI 2) (nI j) (-3)
      obtain ⟨X', h1, h2, h3⟩ := ih (j + 1) f (nX (wA (wA X 31 j (nI 0)) 32 j (nI 0)) j (nI 2) (nI j) (-3)) (by omega) (by omega) h6 hw hn (by rw [if_pos (by omega)]; exact a2) hz'
      exact ⟨X', h1, FR_trans fr1 (FR_trans (FR_mono fr2 (by decide) (by decide)) h2), h3⟩
theorem m_begin70 {nd m : Nat} (hnd : nd ≤ 20) (hm : m < nd) : ∀ (c j f : Nat) (M : zSt), j + c = nd → c < f → zI M 8 = nI nd → zB M 3 m = 1835100526 → (∀ d, d < nd → zB M 3 d = 1835100526 → d = m) → bM M j →
    ∃ M', fX10_begin_70L f (if m < j then nI m else nI 0, nI j, M) = some ((), M') ∧ FR [24, 25, 26, 27, 30, 31] [15, 16, 17, 18, 19, 20, 21, 22] M M' ∧ bM M' nd ∧ zI M' 18 = nI 1 ∧ zI M' 19 = nI 1 ∧ zI M' 20 = nI 0 ∧ zI M' 21 = nI 0 ∧ zI M' 22 = nI 0 ∧ zA M' 30 0 = nI m ∧ zA M' 31 0 = nI 0 := by
  intro c
  induction c with
  | zero =>
    intro j f M hj hf h8 hw hn hb
    obtain ⟨f, rfl⟩ : ∃ n', f = n' + 1 := ⟨f - 1, by omega⟩
    obtain rfl : j = nd := by omega
    refine ⟨wI (wI (wI (wA (wI (wA (wI M 18 (nI 1)) 30 0 (nI m)) 19 (nI 1)) 31 0 (nI 0)) 20 (nI 0)) 21 (nI 0)) 22 (nI 0), ?_, ?_, ?_⟩
    · show fX10_begin_70 (fX10_begin_70L f) _ (nI j) M = _
      unfold fX10_begin_70
      rw [h8, if_pos (qle (Nat.le_refl _)), zck_n (by omega) (by omega), zck_n (by omega) (by omega), ncl (by omega), if_pos hm]
    · exact FR_trans (FR_trans (FR_trans (FR_trans (FR_trans (FR_trans (FR_I _ _ (by decide)) (FR_A _ _ _ (by decide))) (FR_I _ _ (by decide))) (FR_A _ _ _ (by decide))) (FR_I _ _ (by decide))) (FR_I _ _ (by decide))) (FR_I _ _ (by decide))
    · exact ⟨hb, rfl, rfl, rfl, rfl, rfl, rfl, rfl⟩
  | succ c ih =>
    intro j f M hj hf h8 hw hn hb
    obtain ⟨f, rfl⟩ : ∃ n', f = n' + 1 := ⟨f - 1, by omega⟩
    obtain ⟨a1, a2⟩ := bM_add (by omega) hb
    have fr2 := FR_nM0 (M := M) j (nI 2) (nI j) (-3) (-3)
    obtain ⟨M', h1, h2, h3⟩ := ih (j + 1) f (nM0 M j (nI 2) (nI j) (-3) (-3)) (by omega) (by omega) h8 hw hn a2
    refine ⟨M', ?_, FR_trans (FR_mono fr2 (by decide) (by decide)) h2, h3⟩
    show fX10_begin_70 (fX10_begin_70L f) _ (nI j) M = _
    unfold fX10_begin_70
    rw [h8, if_neg (nl (by omega)), a1, zbd_r, zld_n (by omega) (by omega), show zB (nM0 M j (nI 2) (nI j) (-3) (-3)) 3 = zB M 3 from rfl, nadd]
    by_cases e : j = m
    · subst e
      rw [if_pos ((lgc0 _ _).mpr hw)]
      rw [if_pos (by omega)] at h1
      exact h1
    · rw [if_neg (fun z => e (hn j (by omega) ((lgc0 _ _).mp z)))]
      by_cases q : m < j
      · rw [if_pos q]
        rw [if_pos (by omega)] at h1
        exact h1
      · rw [if_neg q]
        rw [if_neg (by omega)] at h1
        exact h1
theorem m_begin40 : ∀ (c i f : Nat) (M : zSt), i + c = 20 → c < f → (∀ d, d < i → zA M 28 d = nI 0 ∧ zA M 29 d = nI 0) → ∃ M1, fX10_begin_40L f (nI i, M) = fX10_begin_70L zFU (nI 0, nI 0, M1) ∧ FR [28, 29] [] M M1 ∧ ∀ d, d < 20 → zA M1 28 d = nI 0 ∧ zA M1 29 d = nI 0 := by
  intro c
  induction c with
  | zero =>
    intro i f M hi hf hM
    obtain ⟨f, rfl⟩ : ∃ n', f = n' + 1 := ⟨f - 1, by omega⟩
    obtain rfl : i = 20 := by omega
    refine ⟨M, ?_, FR_refl M, hM⟩
    show fX10_begin_40 (fX10_begin_40L f) (nI 20) M = _
    unfold fX10_begin_40
    rw [if_pos (qle (Nat.le_refl _))]
  | succ c ih =>
    intro i f M hi hf hM
    obtain ⟨f, rfl⟩ : ∃ n', f = n' + 1 := ⟨f - 1, by omega⟩
    obtain ⟨M1, h1, h2, h3⟩ := ih (i + 1) f (wA (wA M 28 i (nI 0)) 29 i (nI 0)) (by omega) (by omega) (fun d hd => by
      show upd (zA M 28) i (nI 0) d = nI 0 ∧ upd (zA M 29) i (nI 0) d = nI 0
      by_cases e : d = i
      · rw [e, updS, updS]; exact ⟨rfl, rfl⟩
      · rw [updN _ _ e, updN _ _ e]; exact hM d (by omega))
    refine ⟨M1, ?_, FR_trans (FR_trans (FR_A _ _ _ (by decide)) (FR_A _ _ _ (by decide))) h2, h3⟩
    show fX10_begin_40 (fX10_begin_40L f) (nI i) M = _
    unfold fX10_begin_40
    rw [if_neg (nl (by omega)), zck_n (by omega) (by omega), zck_n (by omega) (by omega), ncl (by omega), nadd]
    exact h1
theorem m_begin2 : ∀ (c i f : Nat) (M : zSt), i + c = 400 → c < f → (∀ n, n < i → zA M 24 n = nI 7) → ∃ M1, fX10_begin_2L f (nI i, M) = fX10_begin_40L zFU (nI 0, M1) ∧ FR [24] [15, 16, 17] M M1 ∧ bM M1 0 := by
  intro c
  induction c with
  | zero =>
    intro i f M hi hf hM
    obtain ⟨f, rfl⟩ : ∃ n', f = n' + 1 := ⟨f - 1, by omega⟩
    refine ⟨wI (wI (wI M 15 (nI 0)) 16 (nI 0)) 17 (nI 0), ?_, FR_trans (FR_trans (FR_I _ _ (by decide)) (FR_I _ _ (by decide))) (FR_I _ _ (by decide)), fun n hn _ => hM n (by omega), fun n hn => absurd hn (Nat.not_lt_zero _), rfl, rfl, rfl⟩
    rw [show fX10_begin_2L (f + 1) (nI i, M) = fX10_begin_2 (fX10_begin_2L f) (nI i) M from rfl]
    unfold fX10_begin_2
    rw [if_pos (qle (by omega))]
  | succ c ih =>
    intro i f M hi hf hM
    obtain ⟨f, rfl⟩ : ∃ n', f = n' + 1 := ⟨f - 1, by omega⟩
    obtain ⟨M1, h1, h2, h3⟩ := ih (i + 1) f (wA M 24 i (nI 7)) (by omega) (by omega) (fun n hn => by
      show upd (zA M 24) i (nI 7) n = nI 7
      by_cases e : n = i
      · rw [e, updS]
      · rw [updN _ _ e]; exact hM n (by omega))
    refine ⟨M1, ?_, FR_trans (FR_A _ _ _ (by decide)) h2, h3⟩
    rw [show fX10_begin_2L (f + 1) (nI i, M) = fX10_begin_2 (fX10_begin_2L f) (nI i) M from rfl]
    unfold fX10_begin_2
    rw [if_neg (nl (by omega)), zck_n (by omega) (by omega), ncl (by omega), nadd]
    exact h1
theorem cnt_init (f : Nat → Int32) (nd : Nat) : ∀ n, (∀ i, i < n → nd ≤ i → f i = nI 7) → (∀ i, i < nd → f i ≠ nI 7) → cnt f n = if n ≤ nd then n else nd := by
  intro n
  induction n with
  | zero => intro _ _; rw [if_pos (Nat.zero_le _)]; rfl
  | succ n ih =>
    intro h1 h2
    unfold cnt
    rw [ih (fun i hi => h1 i (by omega)) h2]
    by_cases e : n < nd
    · rw [if_neg (h2 n e), if_pos (by omega), if_pos (by omega)]
    · rw [if_pos (h1 n (by omega) (by omega))]
      split <;> split <;> omega
theorem begin_sim {nd : Nat} {X M : zSt} (hP : PRG nd X M) : ∃ X' M', fX2_begin X = some ((), X') ∧ fX10_begin M = some ((), M') ∧ RK nd X' M' nd 1 1 (fun _ => 0) ∧ aX X X' ∧ aM M M' ∧ zI X' 21 = nI 0 ∧ zI M' 20 = nI 0 ∧ zI M' 21 = nI 0 ∧ zI M' 22 = nI 0 := by
  obtain ⟨p1, p2, p3, p4, p5, ⟨m, m1, m2, m3, m4⟩, p7⟩ := hP
  have hnd := p2.1
  obtain ⟨X1, x1, x2, x3⟩ := x_clear X
  have e12 : zB X1 12 = zB X 12 := x2.2.2.2 12
  obtain ⟨X', x4, x5, x6, x7, x8, x9, x10, x11, x12⟩ := x_beginL hnd m1 20 0 zFU X1 (by omega) (by rw [zFU_s]; omega) (by rw [x2.2.1 6 (by decide)]; exact p3) (by rw [e12, p5 m m1]; exact m2) (fun d hd z => by
    rw [e12, p5 d (by omega)] at z
    have := m4 d (by omega) z
    omega) (by rw [if_pos (Nat.zero_le _)]; exact x3) (fun d hd => absurd hd (Nat.not_lt_zero _))
  obtain ⟨M1, y1, y2, y3⟩ := m_begin2 400 0 zFU M (by omega) (by rw [zFU_s]; omega) (fun n hn => absurd hn (Nat.not_lt_zero _))
  obtain ⟨M2, y4, y5, y6⟩ := m_begin40 20 0 zFU M1 (by omega) (by rw [zFU_s]; omega) (fun d hd => absurd hd (Nat.not_lt_zero _))
  have y3' : bM M2 0 := by
    unfold bM at y3 ⊢
    rw [y5.1 24 (by decide), y5.1 25 (by decide), y5.1 26 (by decide), y5.1 27 (by decide), y5.2.1 15 (by decide), y5.2.1 16 (by decide), y5.2.1 17 (by decide)]
    exact y3
  have e3 : zB M2 3 = zB M 3 := (y5.2.2.2 3).trans (y2.2.2.2 3)
  obtain ⟨M', z1, z2, z3, z4, z5, z6, z7, z8, z9, z10⟩ := m_begin70 hnd m1 nd 0 zFU M2 (by omega) (by rw [zFU_s]; omega) (by rw [y5.2.1 8 (by decide), y2.2.1 8 (by decide)]; exact p4) (by rw [e3]; exact m2) (by rw [e3]; exact m4) y3'
  rw [if_neg (Nat.not_lt_zero _)] at z1
  have z28 : ∀ d, d < 20 → zA M' 28 d = nI 0 ∧ zA M' 29 d = nI 0 := fun d hd => by rw [z2.1 28 (by decide), z2.1 29 (by decide)]; exact y6 d hd
  obtain ⟨b1, b2, b3, b4, b5, b6, b7⟩ := x6
  obtain ⟨c1, c2, c3, c4, c5⟩ := z3
  have lv : ∀ n, n < nd → zA M' 24 n ≠ nI 7 := fun n hn => by rw [(c2 n hn).1]; decide
  refine ⟨X', M', ?_, ?_, ?_, ?_, ?_, x10, z6, z7, z8⟩
  · unfold fX2_begin
    rw [x1, zbd_r]; exact x4
  · unfold fX10_begin
    rw [y1, y4]; exact z1
  · refine ⟨⟨fun n hn => ?_, fun n hn => ?_, b3, c3, ?_, by rw [b4, c5], by rw [b5, c4], nd, by omega, b6, fun i hi => lv i hi⟩, ?_, ?_, ?_, ?_, ?_, lv, fun d hd => by rw [(x7 d hd).1, (x7 d hd).2, (z28 d hd).1, (z28 d hd).2]; exact ⟨rfl, rfl⟩⟩
    · by_cases e : n < nd
      · obtain ⟨u1, u2, u3, u4⟩ := b2 n e
        obtain ⟨v1, v2, v3, v4⟩ := c2 n e
        exact Or.inr ⟨lv n e, by rw [u1, v1], by rw [u2, v2], by rw [u3, v3], by rw [u4, v4]⟩
      · exact Or.inl ⟨b1 n hn (by omega), c1 n hn (by omega)⟩
    · by_cases e : n < nd
      · exact Or.inr ⟨2, by omega, (c2 n e).1⟩
      · exact Or.inl (c1 n hn (by omega))
    · rw [cnt_init _ nd 400 (fun i hi hn => c1 i hi hn) lv, if_neg (by omega)]
    · intro n hn h7
      have e : n < nd := by
        rcases Nat.lt_or_ge n nd with z | z
        · exact z
        · exact absurd (c1 n hn z) h7
      exact Or.inr (Or.inr (Or.inl ⟨(c2 n e).1, n, e, (c2 n e).2.1⟩))
    · refine ⟨z4, z5, Nat.le_refl _, by omega, rfl, fun i hi => ?_, fun i hi => by omega, Nat.zero_lt_one, fun i hi => ?_⟩
      · obtain rfl : i = 0 := by omega
        exact z10
      · obtain rfl : i = 0 := by omega
        rw [z9]
        exact ⟨m, by omega, rfl, lv m m1⟩
    · refine ⟨x8, x9, fun i hi => ?_, fun i hi => ?_⟩
      · obtain rfl : i = 0 := by omega
        rw [x11, z9]
      · obtain rfl : i = 0 := by omega
        rw [x12, z10]
    · intro j hj i h1 h2
      unfold hi at h2
      rw [if_neg (by omega)] at h2
      omega
    · intro j hj; omega
  · exact FR_trans (FR_mono x2 (by decide) (by decide)) (FR_mono x5 (by decide) (by decide))
  · exact FR_trans (FR_mono y2 (by decide) (by decide)) (FR_trans (FR_mono y5 (by decide) (by decide)) (FR_mono z2 (by decide) (by decide)))
