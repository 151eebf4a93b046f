/-! read(): the TOKENS -/
/-- what is not written stays as it is -/
def FQ (la li lb : List Nat) (S S' : zSt) : Prop := (∀ k, k ∉ la → zA S' k = zA S k) ∧ (∀ k, k ∉ li → zI S' k = zI S k) ∧ ∀ k, k ∉ lb → zB S' k = zB S k
theorem FQ_refl {la li lb : List Nat} (S : zSt) : FQ la li lb S S := ⟨fun _ _ => rfl, fun _ _ => rfl, fun _ _ => rfl⟩
theorem FQ_trans {la li lb : List Nat} {X Y Z : zSt} (h1 : FQ la li lb X Y) (h2 : FQ la li lb Y Z) : FQ la li lb X Z := ⟨fun k hk => (h2.1 k hk).trans (h1.1 k hk), fun k hk => (h2.2.1 k hk).trans (h1.2.1 k hk), fun k hk => (h2.2.2 k hk).trans (h1.2.2 k hk)⟩
theorem FQ_mono {la li lb la' li' lb' : List Nat} {X Y : zSt} (h : FQ la li lb X Y) (h1 : ∀ k, k ∈ la → k ∈ la') (h2 : ∀ k, k ∈ li → k ∈ li') (h3 : ∀ k, k ∈ lb → k ∈ lb') : FQ la' li' lb' X Y := ⟨fun k hk => h.1 k (fun z => hk (h1 k z)), fun k hk => h.2.1 k (fun z => hk (h2 k z)), fun k hk => h.2.2 k (fun z => hk (h3 k z))⟩
theorem FQ_A {la li lb : List Nat} (X : zSt) {k : Nat} (i : Nat) (v : Int32) (hk : k ∈ la) : FQ la li lb X (wA X k i v) := by
  refine ⟨fun j hj => ?_, fun _ _ => rfl, fun _ _ => rfl⟩
  have : j ≠ k := fun z => hj (by rw [z]; exact hk)
  simp only [zs, this, if_false]
theorem FQ_I {la li lb : List Nat} (X : zSt) {k : Nat} (v : Int32) (hk : k ∈ li) : FQ la li lb X (wI X k v) := by
  refine ⟨fun _ _ => rfl, fun j hj => ?_, fun _ _ => rfl⟩
  have : j ≠ k := fun z => hj (by rw [z]; exact hk)
  simp only [zs, this, if_false]
theorem FQ_B {la li lb : List Nat} (X : zSt) {k : Nat} (i : Nat) (v : Int64) (hk : k ∈ lb) : FQ la li lb X (wB X k i v) := by
  refine ⟨fun _ _ => rfl, fun _ _ => rfl, fun j hj => ?_⟩
  have : j ≠ k := fun z => hj (by rw [z]; exact hk)
  simp only [zs, this, if_false]
theorem FQ_L {la li lb : List Nat} (X : zSt) (k : Nat) (v : Int64) : FQ la li lb X (wL X k v) := ⟨fun _ _ => rfl, fun _ _ => rfl, fun _ _ => rfl⟩
def BX (b : Nat → Nat) (tl : Nat) (X : zSt) : Prop := tl ≤ 800 ∧ zI X 5 = nI tl ∧ ∀ i, i < tl → b i < 256 ∧ zA X 11 i &&& nI 255 = nI (b i)
def BM (b : Nat → Nat) (tl : Nat) (M : zSt) : Prop := tl ≤ 800 ∧ zI M 1 = nI tl ∧ ∀ i, i < tl → b i < 256 ∧ zA M 1 i = nI (b i)
theorem BX_c {b : Nat → Nat} {tl : Nat} {X X' : zSt} {la li lb : List Nat} (h : BX b tl X) (f : FQ la li lb X X') (h1 : 11 ∉ la) (h2 : 5 ∉ li) : BX b tl X' := by
  unfold BX at h ⊢
  rw [f.1 11 h1, f.2.1 5 h2]; exact h
theorem BM_c {b : Nat → Nat} {tl : Nat} {X X' : zSt} {la li lb : List Nat} (h : BM b tl X) (f : FQ la li lb X X') (h1 : 1 ∉ la) (h2 : 1 ∉ li) : BM b tl X' := by
  unfold BM at h ⊢
  rw [f.1 1 h1, f.2.1 1 h2]; exact h
/-- the byte at a place, as the class gives it -/
def byt (b : Nat → Nat) (tl a : Nat) : Int32 := if a < tl then nI (b a) else -1
theorem x_byteAt {b : Nat → Nat} {tl a : Nat} {X : zSt} (h : BX b tl X) (ha : a ≤ 900) : fX7_byteAt (nI a) X = some (byt b tl a, X) := by
  unfold fX7_byteAt byt
  have := h.1
  rw [if_neg (nneg (by omega)), h.2.1]
  by_cases z : a < tl
  · rw [if_neg (nl z), if_pos (pt (by omega)), zld_n (by omega) (by omega), if_pos z, (h.2.2 a z).2]
  · rw [if_pos (qle (by omega)), if_neg z]
theorem m_at {b : Nat → Nat} {tl a : Nat} {M : zSt} (h : BM b tl M) (ha : a < tl) : fX10_at (nI a) M = some (nI (b a), M) := by
  unfold fX10_at
  have := h.1
  rw [h.2.1, if_neg (nl ha), zld_n (by omega) (by omega), (h.2.2 a ha).2]
theorem m_atE {b : Nat → Nat} {tl a : Nat} {M : zSt} (h : BM b tl M) (ha : tl ≤ a) (h2 : a ≤ 900) : fX10_at (nI a) M = some (nI 0, M) := by
  unfold fX10_at
  rw [h.2.1, if_pos (qle ha)]
theorem x_dig {c : Nat} {S : zSt} (hc : c ≤ 2000) : fX8_isDigit (nI c) S = some (if 48 ≤ c ∧ c ≤ 57 then nI 1 else nI 0, S) := by
  unfold fX8_isDigit
  by_cases h1 : 48 ≤ c
  · rw [if_neg (nt h1)]
    by_cases h2 : c ≤ 57
    · rw [if_neg (nt h2), if_pos ⟨h1, h2⟩]
    · rw [if_pos (pt (by omega)), if_neg (by omega)]
  · rw [if_pos (pt (by omega)), if_neg (by omega)]
theorem m_dig {c : Nat} {S : zSt} (hc : c ≤ 2000) : fX10_isDigit (nI c) S = some (if 48 ≤ c ∧ c ≤ 57 then nI 1 else nI 0, S) := x_dig hc
theorem x_let {c : Nat} {S : zSt} (hc : c ≤ 2000) : fX8_isLetter (nI c) S = some (if 97 ≤ c ∧ c ≤ 122 then nI 1 else nI 0, S) := by
  unfold fX8_isLetter
  by_cases h1 : 97 ≤ c
  · rw [if_neg (nt h1)]
    by_cases h2 : c ≤ 122
    · rw [if_neg (nt h2), if_pos ⟨h1, h2⟩]
    · rw [if_pos (pt (by omega)), if_neg (by omega)]
  · rw [if_pos (pt (by omega)), if_neg (by omega)]
theorem m_let {c : Nat} {S : zSt} (hc : c ≤ 2000) : fX10_isLetter (nI c) S = some (if 97 ≤ c ∧ c ≤ 122 then nI 1 else nI 0, S) := x_let hc
theorem x_letd {c : Nat} {S : zSt} (hc : c ≤ 2000) : fX8_isLetterOrDigit (nI c) S = some (if (97 ≤ c ∧ c ≤ 122) ∨ (48 ≤ c ∧ c ≤ 57) then nI 1 else nI 0, S) := by
  unfold fX8_isLetterOrDigit fX8_isLetterOrDigit_12
  by_cases h1 : 97 ≤ c
  · rw [if_neg (nt h1)]
    by_cases h2 : c ≤ 122
    · rw [if_pos (qle h2), if_pos (Or.inl ⟨h1, h2⟩)]
    · rw [if_neg (nl (by omega)), if_neg (nt (by omega)), if_pos (pt (by omega)), if_neg (by omega)]
  · rw [if_pos (pt (by omega))]
    by_cases h3 : 48 ≤ c
    · rw [if_neg (nt h3)]
      by_cases h4 : c ≤ 57
      · rw [if_neg (nt h4), if_pos (Or.inr ⟨h3, h4⟩)]
      · rw [if_pos (pt (by omega)), if_neg (by omega)]
    · rw [if_pos (pt (by omega)), if_neg (by omega)]
theorem one0 : ¬ nI 1 = (0 : Int32) := by decide
theorem zer0 : nI 0 = (0 : Int32) := by decide
/-- blanks and line ends -/
theorem sp_loop {b : Nat → Nat} {tl : Nat} : ∀ (c a fx fm : Nat) (X M : zSt), a + c = tl → c < fx → c < fm → BX b tl X → BM b tl M → zI X 10 = nI a → zI M 4 = nI a →
    ∃ a' X' M', a ≤ a' ∧ a' ≤ tl ∧ fX8_advance_12L fx (byt b tl a, X) = fX8_advance_63 (byt b tl a') X' ∧ fX10_token_8L fm M = fX10_token_58 M' ∧ zI X' 10 = nI a' ∧ zI M' 4 = nI a' ∧ FQ [] [10] [] X X' ∧ FQ [] [4] [] M M' := by
  intro c
  induction c with
  | zero =>
    intro a fx fm X M ha hx hm h1 h2 h3 h4
    obtain ⟨fx, rfl⟩ : ∃ n', fx = n' + 1 := ⟨fx - 1, by omega⟩
    obtain ⟨fm, rfl⟩ : ∃ n', fm = n' + 1 := ⟨fm - 1, by omega⟩
    have := h1.1
    refine ⟨a, X, M, Nat.le_refl _, by omega, ?_, ?_, h3, h4, FQ_refl _, FQ_refl _⟩
    · rw [show fX8_advance_12L (fx + 1) (byt b tl a, X) = fX8_advance_12 (fX8_advance_12L fx) (byt b tl a) X from rfl]
      unfold fX8_advance_12 fX7_size
      rw [zbd_r, h1.2.1, h3, if_pos (qle (by omega))]
    · rw [show fX10_token_8L (fm + 1) M = fX10_token_8 (fX10_token_8L fm) M from rfl]
      unfold fX10_token_8
      rw [h2.2.1, h4, if_pos (qle (by omega))]
  | succ c ih =>
    intro a fx fm X M ha hx hm h1 h2 h3 h4
    obtain ⟨fx, rfl⟩ : ∃ n', fx = n' + 1 := ⟨fx - 1, by omega⟩
    obtain ⟨fm, rfl⟩ : ∃ n', fm = n' + 1 := ⟨fm - 1, by omega⟩
    have htl := h1.1
    have hb := (h1.2.2 a (by omega)).1
    have e0 : byt b tl a = nI (b a) := by unfold byt; rw [if_pos (by omega)]
    rw [show fX8_advance_12L (fx + 1) (byt b tl a, X) = fX8_advance_12 (fX8_advance_12L fx) (byt b tl a) X from rfl, show fX10_token_8L (fm + 1) M = fX10_token_8 (fX10_token_8L fm) M from rfl]
    unfold fX8_advance_12 fX7_size fX10_token_8
    rw [zbd_r, h1.2.1, h3, if_neg (nl (by omega)), h2.2.1, h4, if_neg (nl (by omega)), m_at h2 (by omega), zbd_r]
    have go : b a = 32 ∨ b a = 10 → ∃ a' X' M', a ≤ a' ∧ a' ≤ tl ∧ fX8_advance_38 (fX8_advance_12L fx) X = fX8_advance_63 (byt b tl a') X' ∧ fX10_token_45 (fX10_token_8L fm) M = fX10_token_58 M' ∧ zI X' 10 = nI a' ∧ zI M' 4 = nI a' ∧ FQ [] [10] [] X X' ∧ FQ [] [4] [] M M' := fun _ => by
      have fx1 : FQ [] [10] [] X (wI X 10 (nI (a + 1))) := FQ_I _ _ (by decide)
      have fm1 : FQ [] [4] [] M (wI M 4 (nI (a + 1))) := FQ_I _ _ (by decide)
      obtain ⟨a', X', M', r1, r2, r3, r4, r5, r6, r7, r8⟩ := ih (a + 1) fx fm (wI X 10 (nI (a + 1))) (wI M 4 (nI (a + 1))) (by omega) (by omega) (by omega) (BX_c h1 fx1 (by decide) (by decide)) (BM_c h2 fm1 (by decide) (by decide)) rfl rfl
      refine ⟨a', X', M', by omega, r2, ?_, ?_, r5, r6, FQ_trans fx1 r7, FQ_trans fm1 r8⟩
      · unfold fX8_advance_38
        rw [h3, nadd, x_byteAt (BX_c h1 fx1 (by decide) (by decide)) (by omega), zbd_r]
        exact r3
      · unfold fX10_token_45
        rw [h4, nadd]
        exact r4
    rw [e0]
    by_cases z1 : b a = 32
    · rw [if_pos (by rw [z1]), if_pos (by rw [z1])]
      exact go (Or.inl z1)
    · rw [if_neg (nq z1), if_neg (nq z1), h4, m_at h2 (by omega), zbd_r]
      by_cases z2 : b a = 10
      · rw [if_pos (by rw [z2]), if_pos (by rw [z2])]
        exact go (Or.inr z2)
      · rw [if_neg (nq z2), if_neg (nq z2)]
        exact ⟨a, X, M, Nat.le_refl _, by omega, by rw [e0], rfl, h3, h4, FQ_refl _, FQ_refl _⟩
/-- the digits of a NUMBER -/
theorem nm_loop {b : Nat → Nat} {tl pl : Nat} : ∀ (c a fx fm : Nat) (X M : zSt), a + c = tl → c < fx → c < fm → BX b tl X → BM b tl M → zI X 10 = nI a → zI M 4 = nI a → zI X 12 = nI pl → zI M 3 = nI pl → pl ≤ a → (a - pl ≤ 9 → zI X 13 = zI M 5) →
    ∃ a' X' M', a ≤ a' ∧ a' ≤ tl ∧ (a < tl → 48 ≤ b a ∧ b a ≤ 57 → a < a') ∧ fX8_takeNumber_5L fx X = some ((), X') ∧ fX10_token_106L fm M = some ((), M') ∧ zI X' 10 = nI a' ∧ zI M' 4 = nI a' ∧ ((zI X' 11 = nI 1 ∧ zI M' 2 = nI 1 ∧ zI X' 13 = zI M' 5) ∨ (zI X' 11 = nI 10 ∧ zI M' 2 = nI 5)) ∧ FQ [] [10, 11, 13] [] X X' ∧ FQ [] [2, 4, 5] [] M M' := by
  intro c
  induction c with
  | zero =>
    intro a fx fm X M ha hx hm h1 h2 h3 h4 h5 h6 h7 h8
    obtain ⟨fx, rfl⟩ : ∃ n', fx = n' + 1 := ⟨fx - 1, by omega⟩
    obtain ⟨fm, rfl⟩ : ∃ n', fm = n' + 1 := ⟨fm - 1, by omega⟩
    have htl := h1.1
    rw [show fX8_takeNumber_5L (fx + 1) X = fX8_takeNumber_5 (fX8_takeNumber_5L fx) X from rfl, show fX10_token_106L (fm + 1) M = fX10_token_106 (fX10_token_106L fm) M from rfl]
    unfold fX8_takeNumber_5 fX7_size fX10_token_106 fX8_takeNumber_75
    rw [zbd_r, h1.2.1, h3, if_pos (qle (by omega)), h4, m_atE h2 (by omega) (by omega), zbd_r, m_dig (by omega), zbd_r, if_neg (show ¬ (48 ≤ 0 ∧ 0 ≤ 57) by omega), if_pos zer0, h4, h5, h6, nsub h7]
    by_cases z : a - pl ≤ 9
    · rw [if_neg (nt z), if_pos (qle z)]
      exact ⟨a, _, _, Nat.le_refl _, by omega, fun w => by omega, rfl, rfl, h3, h4, Or.inl ⟨rfl, rfl, h8 z⟩, FQ_I _ _ (by decide), FQ_I _ _ (by decide)⟩
    · rw [if_pos (pt (by omega)), if_neg (nl (by omega))]
      exact ⟨a, _, _, Nat.le_refl _, by omega, fun w => by omega, rfl, rfl, h3, h4, Or.inr ⟨rfl, rfl⟩, FQ_I _ _ (by decide), FQ_I _ _ (by decide)⟩
  | succ c ih =>
    intro a fx fm X M ha hx hm h1 h2 h3 h4 h5 h6 h7 h8
    obtain ⟨fx, rfl⟩ : ∃ n', fx = n' + 1 := ⟨fx - 1, by omega⟩
    obtain ⟨fm, rfl⟩ : ∃ n', fm = n' + 1 := ⟨fm - 1, by omega⟩
    have htl := h1.1
    have hb := (h1.2.2 a (by omega)).1
    have e0 : byt b tl a = nI (b a) := by unfold byt; rw [if_pos (by omega)]
    rw [show fX8_takeNumber_5L (fx + 1) X = fX8_takeNumber_5 (fX8_takeNumber_5L fx) X from rfl, show fX10_token_106L (fm + 1) M = fX10_token_106 (fX10_token_106L fm) M from rfl]
    unfold fX8_takeNumber_5 fX7_size fX10_token_106 fX8_takeNumber_75
    rw [zbd_r, h1.2.1, h3, if_neg (nl (by omega)), h4, m_at h2 (by omega), zbd_r, m_dig (by omega), zbd_r, x_byteAt h1 (by omega), zbd_r, e0, x_dig (by omega), zbd_r]
    by_cases zd : 48 ≤ b a ∧ b a ≤ 57
    · rw [if_pos zd, if_neg one0, if_neg one0, h3, x_byteAt h1 (by omega), zbd_r, e0, h4, h6, nsub h7]
      have key : ∀ v : Int32, (a + 1 - pl ≤ 9 → zI X 13 * nI 10 + nI (b a) - nI 48 = v) → ∃ a' X' M', a ≤ a' ∧ a' ≤ tl ∧ (a < tl → 48 ≤ b a ∧ b a ≤ 57 → a < a') ∧ fX8_takeNumber_5L fx (wI (wI X 13 (zI X 13 * nI 10 + nI (b a) - nI 48)) 10 (zI X 10 + nI 1)) = some ((), X') ∧ fX10_token_106L fm (wI (wI M 5 v) 4 (zI M 4 + nI 1)) = some ((), M') ∧ zI X' 10 = nI a' ∧ zI M' 4 = nI a' ∧ ((zI X' 11 = nI 1 ∧ zI M' 2 = nI 1 ∧ zI X' 13 = zI M' 5) ∨ (zI X' 11 = nI 10 ∧ zI M' 2 = nI 5)) ∧ FQ [] [10, 11, 13] [] X X' ∧ FQ [] [2, 4, 5] [] M M' := fun v hv => by
        rw [h3, h4, nadd]
        generalize hX1 : wI (wI X 13 (zI X 13 * nI 10 + nI (b a) - nI 48)) 10 (nI (a + 1)) = X1
        generalize hM1 : wI (wI M 5 v) 4 (nI (a + 1)) = M1
        have fx1 : FQ [] [10, 11, 13] [] X X1 := by rw [← hX1]; exact FQ_trans (FQ_I _ _ (by decide)) (FQ_I _ _ (by decide))
        have fm1 : FQ [] [2, 4, 5] [] M M1 := by rw [← hM1]; exact FQ_trans (FQ_I _ _ (by decide)) (FQ_I _ _ (by decide))
        obtain ⟨a', X', M', r1, r2, r3, r4, r5, r6, r7, r8, r9, r10⟩ := ih (a + 1) fx fm X1 M1 (by omega) (by omega) (by omega) (BX_c h1 fx1 (by decide) (by decide)) (BM_c h2 fm1 (by decide) (by decide)) (by rw [← hX1]; rfl) (by rw [← hM1]; rfl) (by rw [fx1.2.1 12 (by decide)]; exact h5) (by rw [fm1.2.1 3 (by decide)]; exact h6) (by omega) (fun z => by rw [← hX1, ← hM1]; exact hv z)
        exact ⟨a', X', M', by omega, r2, fun _ _ => by omega, r4, r5, r6, r7, r8, FQ_trans fx1 r9, FQ_trans fm1 r10⟩
      unfold fX10_token_161
      by_cases z9 : 9 ≤ a - pl
      · rw [if_pos (qle z9)]
        exact key _ (fun w => by omega)
      · rw [if_neg (nl (by omega)), m_at h2 (by omega), zbd_r]
        exact key _ (fun w => by rw [h8 (by omega), Int32.mul_comm])
    · rw [if_neg zd, if_pos zer0, if_pos zer0, h3, h4, h5, h6, nsub h7]
      by_cases z : a - pl ≤ 9
      · rw [if_neg (nt z), if_pos (qle z)]
        exact ⟨a, _, _, Nat.le_refl _, by omega, fun _ w => absurd w zd, rfl, rfl, h3, h4, Or.inl ⟨rfl, rfl, h8 z⟩, FQ_I _ _ (by decide), FQ_I _ _ (by decide)⟩
      · rw [if_pos (pt (by omega)), if_neg (nl (by omega))]
        exact ⟨a, _, _, Nat.le_refl _, by omega, fun _ w => absurd w zd, rfl, rfl, h3, h4, Or.inr ⟨rfl, rfl⟩, FQ_I _ _ (by decide), FQ_I _ _ (by decide)⟩
/-- the words that are no NAMES -/
def kdw (w : Nat) : Int32 := if w < 13 then nI 3 else if w = 13 then nI 4 else nI 5
theorem x_kow {X : zSt} {w : Nat} (hw : w < 15) (he : zB X 24 w = zL X 0) : ∀ (c i f : Nat), i + c = w → c < f → (∀ j, i ≤ j → j < w → zB X 24 j ≠ zL X 0) → fX8_kindOfWord_2L f (nI i, X) = some (kdw w, wI X 13 (nI w)) := by
  intro c
  induction c with
  | zero =>
    intro i f hi hf _
    obtain ⟨f, rfl⟩ : ∃ n', f = n' + 1 := ⟨f - 1, by omega⟩
    have : i = w := by omega
    subst this
    rw [show fX8_kindOfWord_2L (f + 1) (nI i, X) = fX8_kindOfWord_2 (fX8_kindOfWord_2L f) (nI i) X from rfl]
    unfold fX8_kindOfWord_2 kdw
    rw [if_neg (nl (by omega)), zld_n (by omega) (by omega), if_pos ((lgc0 _ _).mpr he)]
    by_cases z : i < 13
    · rw [if_neg (nl z), if_pos z]
    · rw [if_pos (qle (by omega)), if_neg z]
      by_cases z2 : i = 13
      · rw [if_pos (by rw [z2]), if_pos z2]
      · rw [if_neg (nq z2), if_neg z2]
  | succ c ih =>
    intro i f hi hf hn
    obtain ⟨f, rfl⟩ : ∃ n', f = n' + 1 := ⟨f - 1, by omega⟩
    rw [show fX8_kindOfWord_2L (f + 1) (nI i, X) = fX8_kindOfWord_2 (fX8_kindOfWord_2L f) (nI i) X from rfl]
    unfold fX8_kindOfWord_2
    rw [if_neg (nl (by omega)), zld_n (by omega) (by omega), if_neg (fun z => hn i (Nat.le_refl _) (by omega) ((lgc0 _ _).mp z)), nadd]
    exact ih (i + 1) f (by omega) (by omega) (fun j h1 h2 => hn j (by omega) h2)
theorem x_kowN {X : zSt} (hn : ∀ j, j < 15 → zB X 24 j ≠ zL X 0) : ∀ (c i f : Nat), i + c = 15 → c < f → fX8_kindOfWord_2L f (nI i, X) = some (nI 2, X) := by
  intro c
  induction c with
  | zero =>
    intro i f hi hf
    obtain ⟨f, rfl⟩ : ∃ n', f = n' + 1 := ⟨f - 1, by omega⟩
    rw [show fX8_kindOfWord_2L (f + 1) (nI i, X) = fX8_kindOfWord_2 (fX8_kindOfWord_2L f) (nI i) X from rfl]
    unfold fX8_kindOfWord_2
    rw [if_pos (qle (by omega))]
  | succ c ih =>
    intro i f hi hf
    obtain ⟨f, rfl⟩ : ∃ n', f = n' + 1 := ⟨f - 1, by omega⟩
    rw [show fX8_kindOfWord_2L (f + 1) (nI i, X) = fX8_kindOfWord_2 (fX8_kindOfWord_2L f) (nI i) X from rfl]
    unfold fX8_kindOfWord_2
    rw [if_neg (nl (by omega)), zld_n (by omega) (by omega), if_neg (fun z => hn i (by omega) ((lgc0 _ _).mp z)), nadd]
    exact ih (i + 1) f (by omega) (by omega)
def tkw (w : Nat) : Int32 := if 2 ≤ w then nI 10 + nI w - nI 2 else nI 3 + nI w
theorem wI_same {S : zSt} {k : Nat} {v : Int32} (h : zI S k = v) : wI S k v = S := by
  unfold wI
  have : (fun j => if j = k then v else S.1 j) = S.1 := funext (fun j => by
    by_cases z : j = k
    · rw [if_pos z, z]; exact h.symm
    · rw [if_neg z])
  rw [this]
theorem m_kowE {M : zSt} {f : Nat} {x : Int32} (h : zI M 2 ≠ nI 2) : fX10_token_302L (f + 1) (x, M) = some ((), M) := by
  rw [show fX10_token_302L (f + 1) (x, M) = fX10_token_302 (fX10_token_302L f) x M from rfl]
  unfold fX10_token_302
  by_cases z : nI 15 ≤ x
  · rw [if_pos z]
  · rw [if_neg z, if_neg h]
theorem m_kow {M : zSt} {w : Nat} (hw : w < 15) (he : zB M 2 w = zL M 0) (h2 : zI M 2 = nI 2) : ∀ (c i f : Nat), i + c = w → c + 1 < f → (∀ j, i ≤ j → j < w → zB M 2 j ≠ zL M 0) → fX10_token_302L f (nI i, M) = some ((), wI M 2 (tkw w)) := by
  intro c
  induction c with
  | zero =>
    intro i f hi hf _
    obtain ⟨f, rfl⟩ : ∃ n', f = n' + 1 + 1 := ⟨f - 2, by omega⟩
    have : i = w := by omega
    subst this
    rw [show fX10_token_302L (f + 1 + 1) (nI i, M) = fX10_token_302 (fX10_token_302L (f + 1)) (nI i) M from rfl]
    unfold fX10_token_302 tkw
    rw [if_neg (nl (by omega)), if_pos h2, zld_n (by omega) (by omega), if_pos ((lgc0 _ _).mpr he)]
    by_cases z : 2 ≤ i
    · rw [if_pos (qle z), if_pos z, nadd, nadd, nsub (by omega)]
      exact m_kowE (nq (show 10 + i - 2 ≠ 2 by omega))
    · rw [if_neg (nl (by omega)), if_neg z, nadd, nadd]
      exact m_kowE (nq (show 3 + i ≠ 2 by omega))
  | succ c ih =>
    intro i f hi hf hn
    obtain ⟨f, rfl⟩ : ∃ n', f = n' + 1 := ⟨f - 1, by omega⟩
    rw [show fX10_token_302L (f + 1) (nI i, M) = fX10_token_302 (fX10_token_302L f) (nI i) M from rfl]
    unfold fX10_token_302
    rw [if_neg (nl (by omega)), if_pos h2, zld_n (by omega) (by omega), if_neg (fun z => hn i (Nat.le_refl _) (by omega) ((lgc0 _ _).mp z)), nadd, wI_same rfl]
    exact ih (i + 1) f (by omega) (by omega) (fun j h1 h2 => hn j (by omega) h2)
theorem m_kowN {M : zSt} (hn : ∀ j, j < 15 → zB M 2 j ≠ zL M 0) (h2 : zI M 2 = nI 2) : ∀ (c i f : Nat), i + c = 15 → c < f → fX10_token_302L f (nI i, M) = some ((), M) := by
  intro c
  induction c with
  | zero =>
    intro i f hi hf
    obtain ⟨f, rfl⟩ : ∃ n', f = n' + 1 := ⟨f - 1, by omega⟩
    rw [show fX10_token_302L (f + 1) (nI i, M) = fX10_token_302 (fX10_token_302L f) (nI i) M from rfl]
    unfold fX10_token_302
    rw [if_pos (qle (by omega))]
  | succ c ih =>
    intro i f hi hf
    obtain ⟨f, rfl⟩ : ∃ n', f = n' + 1 := ⟨f - 1, by omega⟩
    rw [show fX10_token_302L (f + 1) (nI i, M) = fX10_token_302 (fX10_token_302L f) (nI i) M from rfl]
    unfold fX10_token_302
    rw [if_neg (nl (by omega)), if_pos h2, zld_n (by omega) (by omega), if_neg (fun z => hn i (by omega) ((lgc0 _ _).mp z)), nadd, wI_same rfl]
    exact ih (i + 1) f (by omega) (by omega)
/-- what a word is, in both -/
def KW (X M : zSt) : Prop := (zI X 11 = nI 2 ∧ zI M 2 = nI 2 ∧ zL X 0 = zL M 0) ∨ (∃ p, p < 13 ∧ zI X 11 = nI 3 ∧ zI X 13 = nI p ∧ zI M 2 = nI (10 + p)) ∨ (zI X 11 = nI 4 ∧ zI M 2 = nI 3) ∨ (zI X 11 = nI 5 ∧ zI M 2 = nI 4)
theorem word_kind {X M : zSt} (hW : WT X M) (hL : zL X 0 = zL M 0) : ∃ X' M', (zbd (fX8_kindOfWord X) (fun r9 S10 => some ((), wI S10 11 r9))) = some ((), X') ∧ fX10_token_302L zFU (nI 0, wI M 2 (nI 2)) = some ((), M') ∧ KW X' M' ∧ FQ [] [11, 13] [] X X' ∧ FQ [] [2] [] M M' := by
  obtain ⟨W, w1, w2, w3⟩ := hW
  unfold fX8_kindOfWord
  by_cases hx : ∃ w, w < 15 ∧ W w = zL X 0
  · obtain ⟨w, hw, he⟩ := hx
    have hxn : ∀ j, j < w → zB X 24 j ≠ zL X 0 := fun j hj z => by
      rw [w1 j (by omega), ← he] at z
      exact absurd (w3 j w (by omega) hw z) (by omega)
    rw [x_kow hw (by rw [w1 w hw]; exact he) w 0 zFU (by omega) (by rw [zFU_s]; omega) (fun j _ hj => hxn j hj), zbd_r]
    obtain ⟨v, hv, hvw⟩ : ∃ v, v < 15 ∧ ((w < 13 ∧ v = w + 2) ∨ (13 ≤ w ∧ v + 13 = w)) := by
      by_cases z : w < 13
      · exact ⟨w + 2, by omega, Or.inl ⟨z, rfl⟩⟩
      · exact ⟨w - 13, by omega, Or.inr ⟨by omega, by omega⟩⟩
    have hvW : ∀ j, j < 15 → zB M 2 j = zL M 0 → j = v := fun j hj z => by
      rw [w2 j hj, ← hL, ← he] at z
      by_cases c : j < 2
      · rw [if_pos c] at z
        have := w3 _ _ (by omega) hw z
        omega
      · rw [if_neg c] at z
        have := w3 _ _ (by omega) hw z
        omega
    have hve : zB M 2 v = zL M 0 := by
      rw [w2 v hv, ← hL, ← he]
      rcases hvw with ⟨a, c⟩ | ⟨a, c⟩
      · rw [if_neg (by omega), c]; rfl
      · rw [if_pos (by omega)]; congr 1; omega
    rw [m_kow (M := wI M 2 (nI 2)) hv hve rfl v 0 zFU (by omega) (by rw [zFU_s]; omega) (fun j _ hj z => by have := hvW j (by omega) z; omega)]
    refine ⟨_, _, rfl, rfl, ?_, FQ_trans (FQ_I _ _ (by decide)) (FQ_I _ _ (by decide)), FQ_trans (FQ_I _ _ (by decide)) (FQ_I _ _ (by decide))⟩
    have e11 : zI (wI (wI X 13 (nI w)) 11 (kdw w)) 11 = kdw w := rfl
    have e13 : zI (wI (wI X 13 (nI w)) 11 (kdw w)) 13 = nI w := rfl
    have e2 : zI (wI (wI M 2 (nI 2)) 2 (tkw v)) 2 = tkw v := rfl
    unfold KW
    rw [e11, e13, e2]
    unfold kdw tkw
    rcases hvw with ⟨a, c⟩ | ⟨a, c⟩
    · refine Or.inr (Or.inl ⟨w, a, by rw [if_pos a], rfl, ?_⟩)
      rw [if_pos (by omega), nadd, nsub (by omega)]
      congr 1; omega
    · by_cases z : w = 13
      · refine Or.inr (Or.inr (Or.inl ⟨by rw [if_neg (by omega), if_pos z], ?_⟩))
        rw [if_neg (by omega), nadd]
        congr 1; omega
      · refine Or.inr (Or.inr (Or.inr ⟨by rw [if_neg (by omega), if_neg z], ?_⟩))
        rw [if_neg (by omega), nadd]
        congr 1; omega
  · have hx' : ∀ w, w < 15 → W w ≠ zL X 0 := fun w hw z => hx ⟨w, hw, z⟩
    rw [x_kowN (fun j hj => by rw [w1 j hj]; exact hx' j hj) 15 0 zFU (by omega) (by rw [zFU_s]; omega), zbd_r]
    rw [m_kowN (M := wI M 2 (nI 2)) (fun j hj z => by
      have z : zB M 2 j = zL M 0 := z
      rw [w2 j hj, ← hL] at z
      by_cases c : j < 2
      · rw [if_pos c] at z
        exact hx' _ (by omega) z
      · rw [if_neg c] at z
        exact hx' _ (by omega) z) rfl 15 0 zFU (by omega) (by rw [zFU_s]; omega)]
    exact ⟨_, _, rfl, rfl, Or.inl ⟨rfl, rfl, hL⟩, FQ_I _ _ (by decide), FQ_I _ _ (by decide)⟩
/-- the letters and digits of a word -/
theorem wd_loop {b : Nat → Nat} {tl pl : Nat} : ∀ (c a fx fm : Nat) (X M : zSt), a + c = tl → c < fx → c < fm → BX b tl X → BM b tl M → WT X M → zI X 10 = nI a → zI M 4 = nI a → zI X 12 = nI pl → zI M 3 = nI pl → pl ≤ a → zL X 0 = zL M 0 →
    ∃ a' X' M', a ≤ a' ∧ a' ≤ tl ∧ (a < tl → 97 ≤ b a ∧ b a ≤ 122 → a < a') ∧ fX8_takeWord_5L fx X = some ((), X') ∧ fX10_token_215L fm M = some ((), M') ∧ zI X' 10 = nI a' ∧ zI M' 4 = nI a' ∧ (KW X' M' ∨ (zI X' 11 = nI 10 ∧ zI M' 2 = nI 5)) ∧ FQ [] [10, 11, 13] [] X X' ∧ FQ [] [2, 4] [] M M' := by
  intro c
  induction c with
  | zero =>
    intro a fx fm X M ha hx hm h1 h2 hW h3 h4 h5 h6 h7 h8
    obtain ⟨fx, rfl⟩ : ∃ n', fx = n' + 1 := ⟨fx - 1, by omega⟩
    obtain ⟨fm, rfl⟩ : ∃ n', fm = n' + 1 := ⟨fm - 1, by omega⟩
    have htl := h1.1
    rw [show fX8_takeWord_5L (fx + 1) X = fX8_takeWord_5 (fX8_takeWord_5L fx) X from rfl, show fX10_token_215L (fm + 1) M = fX10_token_215 (fX10_token_215L fm) M from rfl]
    unfold fX8_takeWord_5 fX7_size fX10_token_215 fX8_takeWord_73
    rw [zbd_r, h1.2.1, h3, if_pos (qle (by omega)), h4, m_atE h2 (by omega) (by omega), zbd_r, m_let (by omega), zbd_r, if_neg (show ¬ (97 ≤ 0 ∧ 0 ≤ 122) by omega), if_pos zer0, h4, m_atE h2 (by omega) (by omega), zbd_r, m_dig (by omega), zbd_r, if_neg (show ¬ (48 ≤ 0 ∧ 0 ≤ 57) by omega), if_pos zer0, h4, h5, h6, nsub h7]
    by_cases z : a - pl ≤ 8
    · rw [if_neg (nt z), if_pos (qle z)]
      obtain ⟨X', M', r1, r2, r3, r4, r5⟩ := word_kind hW h8
      exact ⟨a, X', M', Nat.le_refl _, by omega, fun w => by omega, r1, r2, by rw [r4.2.1 10 (by decide)]; exact h3, by rw [r5.2.1 4 (by decide)]; exact h4, Or.inl r3, FQ_mono r4 (by decide) (by decide) (by decide), FQ_mono r5 (by decide) (by decide) (by decide)⟩
    · rw [if_pos (pt (by omega)), if_neg (nl (by omega)), zFU_s, m_kowE (M := wI M 2 (nI 5)) (show nI 5 ≠ nI 2 by decide)]
      exact ⟨a, _, _, Nat.le_refl _, by omega, fun w => by omega, rfl, rfl, h3, h4, Or.inr ⟨rfl, rfl⟩, FQ_I _ _ (by decide), FQ_I _ _ (by decide)⟩
  | succ c ih =>
    intro a fx fm X M ha hx hm h1 h2 hW h3 h4 h5 h6 h7 h8
    obtain ⟨fx, rfl⟩ : ∃ n', fx = n' + 1 := ⟨fx - 1, by omega⟩
    obtain ⟨fm, rfl⟩ : ∃ n', fm = n' + 1 := ⟨fm - 1, by omega⟩
    have htl := h1.1
    have hb := (h1.2.2 a (by omega)).1
    have e0 : byt b tl a = nI (b a) := by unfold byt; rw [if_pos (by omega)]
    rw [show fX8_takeWord_5L (fx + 1) X = fX8_takeWord_5 (fX8_takeWord_5L fx) X from rfl, show fX10_token_215L (fm + 1) M = fX10_token_215 (fX10_token_215L fm) M from rfl]
    unfold fX8_takeWord_5 fX7_size fX10_token_215 fX8_takeWord_73
    rw [zbd_r, h1.2.1, h3, if_neg (nl (by omega)), h4, m_at h2 (by omega), zbd_r, m_let (by omega), zbd_r, x_byteAt h1 (by omega), zbd_r, e0, x_letd (by omega), zbd_r]
    have go : ∃ a' X' M', a ≤ a' ∧ a' ≤ tl ∧ (a < tl → 97 ≤ b a ∧ b a ≤ 122 → a < a') ∧ fX8_takeWord_5L fx (wI (wL X 0 ((zL X 0 <<< ((nI 8).toInt64 &&& 63)) ||| (nI (b a)).toInt64)) 10 (nI a + nI 1)) = some ((), X') ∧ fX10_token_243 (fX10_token_215L fm) M = some ((), M') ∧ zI X' 10 = nI a' ∧ zI M' 4 = nI a' ∧ (KW X' M' ∨ (zI X' 11 = nI 10 ∧ zI M' 2 = nI 5)) ∧ FQ [] [10, 11, 13] [] X X' ∧ FQ [] [2, 4] [] M M' := by
      unfold fX10_token_243
      rw [h4, m_at h2 (by omega), zbd_r, h4, nadd]
      generalize hX1 : wI (wL X 0 ((zL X 0 <<< ((nI 8).toInt64 &&& 63)) ||| (nI (b a)).toInt64)) 10 (nI (a + 1)) = X1
      generalize hM1 : wI (wL M 0 ((zL M 0 <<< ((nI 8).toInt64 &&& 63)) ||| (nI (b a)).toInt64)) 4 (nI (a + 1)) = M1
      have fx1 : FQ [] [10, 11, 13] [] X X1 := by rw [← hX1]; exact FQ_trans (FQ_L _ _ _) (FQ_I _ _ (by decide))
      have fm1 : FQ [] [2, 4] [] M M1 := by rw [← hM1]; exact FQ_trans (FQ_L _ _ _) (FQ_I _ _ (by decide))
      obtain ⟨a', X', M', r1, r2, r3, r4, r5, r6, r7, r8, r9, r10⟩ := ih (a + 1) fx fm X1 M1 (by omega) (by omega) (by omega) (BX_c h1 fx1 (by decide) (by decide)) (BM_c h2 fm1 (by decide) (by decide)) (by unfold WT at hW ⊢; rw [fx1.2.2 24 (by decide), fm1.2.2 2 (by decide)]; exact hW) (by rw [← hX1]; rfl) (by rw [← hM1]; rfl) (by rw [fx1.2.1 12 (by decide)]; exact h5) (by rw [fm1.2.1 3 (by decide)]; exact h6) (by omega) (by rw [← hX1, ← hM1]; show (zL X 0 <<< _) ||| _ = (zL M 0 <<< _) ||| _; rw [h8])
      exact ⟨a', X', M', by omega, r2, fun _ _ => by omega, r4, r5, r6, r7, r8, FQ_trans fx1 r9, FQ_trans fm1 r10⟩
    by_cases zl : 97 ≤ b a ∧ b a ≤ 122
    · rw [if_pos (Or.inl zl), if_neg one0, if_pos zl, if_neg one0, h3, x_byteAt h1 (by omega), zbd_r, e0, h3]
      exact go
    · rw [if_neg zl, if_pos zer0, h4, m_at h2 (by omega), zbd_r, m_dig (by omega), zbd_r]
      by_cases zd : 48 ≤ b a ∧ b a ≤ 57
      · rw [if_pos (Or.inr zd), if_neg one0, if_pos zd, if_neg one0, h3, x_byteAt h1 (by omega), zbd_r, e0, h3]
        exact go
      · rw [if_neg (show ¬ ((97 ≤ b a ∧ b a ≤ 122) ∨ (48 ≤ b a ∧ b a ≤ 57)) from fun z => z.elim zl zd), if_pos zer0, if_neg zd, if_pos zer0, h3, h4, h5, h6, nsub h7]
        by_cases z : a - pl ≤ 8
        · rw [if_neg (nt z), if_pos (qle z)]
          obtain ⟨X', M', r1, r2, r3, r4, r5⟩ := word_kind hW h8
          exact ⟨a, X', M', Nat.le_refl _, by omega, fun _ w => absurd w zl, r1, r2, by rw [r4.2.1 10 (by decide)]; exact h3, by rw [r5.2.1 4 (by decide)]; exact h4, Or.inl r3, FQ_mono r4 (by decide) (by decide) (by decide), FQ_mono r5 (by decide) (by decide) (by decide)⟩
        · rw [if_pos (pt (by omega)), if_neg (nl (by omega)), zFU_s, m_kowE (M := wI M 2 (nI 5)) (show nI 5 ≠ nI 2 by decide)]
          exact ⟨a, _, _, Nat.le_refl _, by omega, fun _ w => absurd w zl, rfl, rfl, h3, h4, Or.inr ⟨rfl, rfl⟩, FQ_I _ _ (by decide), FQ_I _ _ (by decide)⟩
/-- the TOKEN at hand, in both -/
def KK (X M : zSt) : Prop := (zI X 11 = nI 1 ∧ zI M 2 = nI 1 ∧ zI X 13 = zI M 5) ∨ KW X M ∨ (zI X 11 = nI 6 ∧ zI M 2 = nI 61) ∨ (zI X 11 = nI 7 ∧ zI M 2 = nI 59) ∨ (zI X 11 = nI 8 ∧ zI M 2 = nI 40) ∨ (zI X 11 = nI 9 ∧ zI M 2 = nI 41) ∨ (zI X 11 = nI 10 ∧ zI M 2 = nI 5)
def TK (b : Nat → Nat) (tl pl : Nat) (X M : zSt) : Prop := BX b tl X ∧ BM b tl M ∧ WT X M ∧ zI X 12 = nI pl ∧ zI M 3 = nI pl ∧ zI X 8 = nI 0 ∧ zI M 6 = nI 0 ∧ pl ≤ tl ∧ ∃ a, zI X 10 = nI a ∧ zI M 4 = nI a ∧ a ≤ tl ∧ ((zI X 11 = nI 0 ∧ zI M 2 = nI 0 ∧ pl = a) ∨ (pl < a ∧ KK X M))
theorem advance_sim {b : Nat → Nat} {tl a : Nat} {X M : zSt} (h1 : BX b tl X) (h2 : BM b tl M) (hW : WT X M) (h3 : zI X 10 = nI a) (h4 : zI M 4 = nI a) (ha : a ≤ tl) (h8 : zI X 8 = nI 0) (h6 : zI M 6 = nI 0) :
    ∃ pl' X' M', a ≤ pl' ∧ fX8_advance X = some ((), X') ∧ fX10_token M = some ((), M') ∧ TK b tl pl' X' M' ∧ FQ [] [10, 11, 12, 13] [] X X' ∧ FQ [] [2, 3, 4, 5] [] M M' := by
  have htl := h1.1
  unfold fX8_advance fX10_token
  rw [h3, x_byteAt h1 (by omega), zbd_r, if_pos (show zI M 6 = 0 from h6)]
  obtain ⟨p, X1, M1, r1, r2, r3, r4, r5, r6, r7, r8⟩ := sp_loop (tl - a) a zFU zFU X M (by omega) (by rw [zFU_s]; omega) (by rw [zFU_s]; omega) h1 h2 h3 h4
  rw [r3, r4]
  have g1 := BX_c h1 r7 (by decide) (by decide)
  have g2 := BM_c h2 r8 (by decide) (by decide)
  unfold fX8_advance_63 fX10_token_58
  rw [r5, r6]
  generalize hX2 : wI X1 12 (nI p) = X2
  generalize hM2 : wI M1 3 (nI p) = M2
  have fX2 : FQ [] [10, 11, 12, 13] [] X X2 := by rw [← hX2]; exact FQ_trans (FQ_mono r7 (by decide) (by decide) (by decide)) (FQ_I _ _ (by decide))
  have fM2 : FQ [] [2, 3, 4, 5] [] M M2 := by rw [← hM2]; exact FQ_trans (FQ_mono r8 (by decide) (by decide) (by decide)) (FQ_I _ _ (by decide))
  have g1 := BX_c h1 fX2 (by decide) (by decide)
  have g2 := BM_c h2 fM2 (by decide) (by decide)
  have gW : WT X2 M2 := by unfold WT at hW ⊢; rw [fX2.2.2 24 (by decide), fM2.2.2 2 (by decide)]; exact hW
  have x10 : zI X2 10 = nI p := by rw [← hX2]; exact r5
  have x12 : zI X2 12 = nI p := by rw [← hX2]; rfl
  have m4 : zI M2 4 = nI p := by rw [← hM2]; exact r6
  have m3 : zI M2 3 = nI p := by rw [← hM2]; rfl
  have x8 : zI X2 8 = nI 0 := by rw [fX2.2.1 8 (by decide)]; exact h8
  have m6 : zI M2 6 = nI 0 := by rw [fM2.2.1 6 (by decide)]; exact h6
  have fin : ∀ (a' : Nat) (X' M' : zSt), a' ≤ tl → FQ [] [10, 11, 13] [] X2 X' → FQ [] [2, 4, 5] [] M2 M' → zI X' 10 = nI a' → zI M' 4 = nI a' → ((zI X' 11 = nI 0 ∧ zI M' 2 = nI 0 ∧ p = a') ∨ (p < a' ∧ KK X' M')) → TK b tl p X' M' ∧ FQ [] [10, 11, 12, 13] [] X X' ∧ FQ [] [2, 3, 4, 5] [] M M' := fun a' X' M' q1 q2 q3 q4 q5 q6 =>
    ⟨⟨BX_c g1 q2 (by decide) (by decide), BM_c g2 q3 (by decide) (by decide), by unfold WT at gW ⊢; rw [q2.2.2 24 (by decide), q3.2.2 2 (by decide)]; exact gW, by rw [q2.2.1 12 (by decide)]; exact x12, by rw [q3.2.1 3 (by decide)]; exact m3, by rw [q2.2.1 8 (by decide)]; exact x8, by rw [q3.2.1 6 (by decide)]; exact m6, r2, a', q4, q5, q1, q6⟩, FQ_trans fX2 (FQ_mono q2 (by decide) (by decide) (by decide)), FQ_trans fM2 (FQ_mono q3 (by decide) (by decide) (by decide))⟩
  by_cases hp : p < tl
  · have hb := (h1.2.2 p hp).1
    have e0 : byt b tl p = nI (b p) := by unfold byt; rw [if_pos hp]
    rw [e0, if_neg (nne (by omega) (by decide)), x_dig (by omega), zbd_r, m_at g2 hp, zbd_r, m3, g2.2.1, if_neg (nq (by omega)), m_dig (by omega), zbd_r]
    by_cases zd : 48 ≤ b p ∧ b p ≤ 57
    · rw [if_pos zd, if_neg one0, if_neg one0]
      unfold fX8_takeNumber
      obtain ⟨a', X', M', q1, q2, q3, q4, q5, q6, q7, q8, q9, q10⟩ := nm_loop (pl := p) (tl - p) p zFU zFU (wI X2 13 (nI 0)) (wI M2 5 (nI 0)) (by omega) (by rw [zFU_s]; omega) (by rw [zFU_s]; omega) (BX_c g1 (FQ_I (la := []) (li := [13]) (lb := []) _ _ (by decide)) (by decide) (by decide)) (BM_c g2 (FQ_I (la := []) (li := [5]) (lb := []) _ _ (by decide)) (by decide) (by decide)) x10 m4 x12 m3 (Nat.le_refl _) (fun _ => rfl)
      rw [q4, zbd_r, q5]
      refine ⟨p, X', M', r1, rfl, rfl, fin a' X' M' q2 (FQ_trans (FQ_I _ _ (by decide)) q9) (FQ_trans (FQ_I _ _ (by decide)) q10) q6 q7 (Or.inr ⟨q3 hp zd, ?_⟩)⟩
      rcases q8 with q8 | q8
      · exact Or.inl q8
      · exact Or.inr (Or.inr (Or.inr (Or.inr (Or.inr (Or.inr q8)))))
    · rw [if_neg zd, if_pos zer0, if_pos zer0, x_let (by omega), zbd_r, m_let (by omega), zbd_r]
      by_cases zl : 97 ≤ b p ∧ b p ≤ 122
      · rw [if_pos zl, if_neg one0, if_neg one0]
        unfold fX8_takeWord
        obtain ⟨a', X', M', q1, q2, q3, q4, q5, q6, q7, q8, q9, q10⟩ := wd_loop (pl := p) (tl - p) p zFU zFU (wL X2 0 0) (wL M2 0 0) (by omega) (by rw [zFU_s]; omega) (by rw [zFU_s]; omega) (BX_c g1 (FQ_L (la := []) (li := []) (lb := []) _ _ _) (by decide) (by decide)) (BM_c g2 (FQ_L (la := []) (li := []) (lb := []) _ _ _) (by decide) (by decide)) gW x10 m4 x12 m3 (Nat.le_refl _) rfl
        rw [q4, zbd_r, q5]
        refine ⟨p, X', M', r1, rfl, rfl, fin a' X' M' q2 (FQ_trans (FQ_L _ _ _) q9) (FQ_trans (FQ_L _ _ _) (FQ_mono q10 (by decide) (by decide) (by decide))) q6 q7 (Or.inr ⟨q3 hp zl, ?_⟩)⟩
        rcases q8 with q8 | q8
        · exact Or.inr (Or.inl q8)
        · exact Or.inr (Or.inr (Or.inr (Or.inr (Or.inr (Or.inr q8)))))
      · rw [if_neg zl, if_pos zer0, if_pos zer0]
        have sg : ∀ (k t : Int32), fX8_signOf (nI (b p)) X2 = some (k, X2) → ((k = nI 6 ∧ t = nI 61) ∨ (k = nI 7 ∧ t = nI 59) ∨ (k = nI 8 ∧ t = nI 40) ∨ (k = nI 9 ∧ t = nI 41) ∨ (k = nI 10 ∧ t = nI 5)) → ∃ pl' X' M', a ≤ pl' ∧ (zbd (fX8_signOf (nI (b p)) X2) fun r11 S12 => some ((), wI (wI S12 11 r11) 10 (zI S12 10 + nI 1))) = some ((), X') ∧ some ((), wI (wI M2 4 (zI M2 4 + nI 1)) 2 t) = some ((), M') ∧ TK b tl pl' X' M' ∧ FQ [] [10, 11, 12, 13] [] X X' ∧ FQ [] [2, 3, 4, 5] [] M M' := fun k t e1 e2 => by
          rw [e1, zbd_r, x10, m4, nadd]
          refine ⟨p, _, _, r1, rfl, rfl, fin (p + 1) _ _ (by omega) (FQ_trans (FQ_I _ _ (by decide)) (FQ_I _ _ (by decide))) (FQ_trans (FQ_I _ _ (by decide)) (FQ_I _ _ (by decide))) rfl rfl (Or.inr ⟨by omega, Or.inr (Or.inr e2)⟩)⟩
        by_cases s1 : b p = 61
        · rw [if_pos (by rw [s1]), s1]
          rw [s1] at sg
          exact sg (nI 6) (nI 61) (by unfold fX8_signOf; rw [if_neg (by decide), if_neg (by decide), if_neg (by decide), if_pos rfl]) (Or.inl ⟨rfl, rfl⟩)
        rw [if_neg (nq s1)]
        by_cases s2 : b p = 59
        · rw [if_pos (by rw [s2]), s2]
          rw [s2] at sg
          exact sg (nI 7) (nI 59) (by unfold fX8_signOf; rw [if_neg (by decide), if_neg (by decide), if_pos rfl]) (Or.inr (Or.inl ⟨rfl, rfl⟩))
        rw [if_neg (nq s2)]
        by_cases s3 : b p = 40
        · rw [if_pos (by rw [s3]), s3]
          rw [s3] at sg
          exact sg (nI 8) (nI 40) (by unfold fX8_signOf; rw [if_pos rfl]) (Or.inr (Or.inr (Or.inl ⟨rfl, rfl⟩)))
        rw [if_neg (nq s3)]
        by_cases s4 : b p = 41
        · rw [if_pos (by rw [s4]), s4]
          rw [s4] at sg
          exact sg (nI 9) (nI 41) (by unfold fX8_signOf; rw [if_neg (by decide), if_pos rfl]) (Or.inr (Or.inr (Or.inr (Or.inl ⟨rfl, rfl⟩))))
        rw [if_neg (nq s4)]
        exact sg (nI 10) (nI 5) (by unfold fX8_signOf; rw [if_neg (nq s3), if_neg (nq s4), if_neg (nq s2), if_neg (nq s1)]) (Or.inr (Or.inr (Or.inr (Or.inr ⟨rfl, rfl⟩))))
  · have e0 : byt b tl p = -1 := by unfold byt; rw [if_neg hp]
    have ep : p = tl := by omega
    rw [e0, if_pos rfl, m_atE g2 (by omega) (by omega), zbd_r, m3, g2.2.1, if_pos (by rw [ep])]
    exact ⟨p, _, _, r1, rfl, rfl, fin p _ _ r2 (FQ_I _ _ (by decide)) (FQ_I _ _ (by decide)) x10 m4 (Or.inl ⟨rfl, rfl, rfl⟩)⟩
/-- the next TOKEN -/
theorem adv {b : Nat → Nat} {tl pl : Nat} {X M X1 M1 : zSt} {la li lb la' li' lb' : List Nat} (h : TK b tl pl X M) (hk : zI X 11 ≠ nI 0) (fX : FQ la li lb X X1) (fM : FQ la' li' lb' M M1) (c1 : 11 ∉ la) (c2 : ∀ k, k ∈ [5, 8, 10] → k ∉ li) (c3 : 24 ∉ lb) (d1 : 1 ∉ la') (d2 : ∀ k, k ∈ [1, 4, 6] → k ∉ li') (d3 : 2 ∉ lb') :
    ∃ pl' X' M', pl < pl' ∧ fX8_advance X1 = some ((), X') ∧ fX10_token M1 = some ((), M') ∧ TK b tl pl' X' M' ∧ FQ [] [10, 11, 12, 13] [] X1 X' ∧ FQ [] [2, 3, 4, 5] [] M1 M' := by
  obtain ⟨h1, h2, h3, h4, h5, h6, h7, h8, a, h9, h10, h11, h12⟩ := h
  rcases h12 with h12 | h12
  · exact absurd h12.1 hk
  · obtain ⟨pl', X', M', r1, r2⟩ := advance_sim (BX_c h1 fX c1 (c2 5 (by decide))) (BM_c h2 fM d1 (d2 1 (by decide))) (by unfold WT at h3 ⊢; rw [fX.2.2 24 c3, fM.2.2 2 d3]; exact h3) (by rw [fX.2.1 10 (c2 10 (by decide))]; exact h9) (by rw [fM.2.1 4 (d2 4 (by decide))]; exact h10) h11 (by rw [fX.2.1 8 (c2 8 (by decide))]; exact h6) (by rw [fM.2.1 6 (d2 6 (by decide))]; exact h7)
    exact ⟨pl', X', M', by omega, r2⟩
