/-! what both objects have in common between two calls -/
theorem PS_FR {la li la' li' : List Nat} {nd : Nat} {X M X' M' : zSt} {st ns : Nat} {a : Nat → Nat} (hX : FR la li X X') (hM : FR la' li' M M') (c1 : ∀ k, k ∈ [10, 13, 14, 15, 16, 17, 18, 19, 25, 26, 27, 28, 29, 30, 31, 32] → k ∉ la) (c2 : ∀ k, k ∈ [6, 14, 15, 16, 17, 19, 20, 21] → k ∉ li) (c3 : ∀ k, k ∈ [4, 6, 7, 8, 9, 10, 22, 24, 25, 26, 27, 28, 29, 30, 31, 32] → k ∉ la') (c4 : ∀ k, k ∈ [8, 11, 15, 16, 17, 18, 19, 20, 25] → k ∉ li') (h : PS nd X M st ns a) : PS nd X' M' st ns a := by
  obtain ⟨h1, h2, h3, h4, h5, h6, h7, h8, h9, h10, T, C, h11, ⟨hh, hT, hs, B, b1, b2, b3, b4⟩⟩ := h
  have xA : ∀ k, k ∈ [10, 13, 14, 15, 16, 17, 18, 19, 25, 26, 27, 28, 29, 30, 31, 32] → zA X' k = zA X k := fun k hk => hX.1 k (c1 k hk)
  have xI : ∀ k, k ∈ [6, 14, 15, 16, 17, 19, 20, 21] → zI X' k = zI X k := fun k hk => hX.2.1 k (c2 k hk)
  have mA : ∀ k, k ∈ [4, 6, 7, 8, 9, 10, 22, 24, 25, 26, 27, 28, 29, 30, 31, 32] → zA M' k = zA M k := fun k hk => hM.1 k (c3 k hk)
  have mI : ∀ k, k ∈ [8, 11, 15, 16, 17, 18, 19, 20, 25] → zI M' k = zI M k := fun k hk => hM.2.1 k (c4 k hk)
  have t1 : tX X X' := ⟨fun k hk => xA k (by simp only [List.mem_cons, List.not_mem_nil, or_false] at hk ⊢; omega), xI 6 (by decide), hX.2.2.2 12⟩
  have t2 : tM M M' := ⟨fun k hk => mA k (by simp only [List.mem_cons, List.not_mem_nil, or_false] at hk ⊢; omega), mI 8 (by decide), mI 11 (by decide), hM.2.2.2 3⟩
  have mA2 : ∀ k, k ∈ [24, 25, 26, 27, 28, 29, 30, 31] → zA M' k = zA M k := fun k hk => mA k (by simp only [List.mem_cons, List.not_mem_nil, or_false] at hk ⊢; omega)
  have mI2 : ∀ k, k ∈ [15, 16, 17, 18, 19] → zI M' k = zI M k := fun k hk => mI k (by simp only [List.mem_cons, List.not_mem_nil, or_false] at hk ⊢; omega)
  refine ⟨PRG_t t1 t2 h1, RE_c2 (fun k hk => xA k (by simp only [List.mem_cons, List.not_mem_nil, or_false] at hk ⊢; omega)) (fun k hk => xI k (by simp only [List.mem_cons, List.not_mem_nil, or_false] at hk ⊢; omega)) mA2 mI2 h2, N3_c (mA 24 (by decide)) (mA 26 (by decide)) h3, by rw [xI 21 (by decide)]; exact h4, by rw [mI 20 (by decide)]; exact h5, h6, SWP_a (xA 10 (by decide)) (mA 32 (by decide)) (mI 25 (by decide)) h7, h8, h9, fun z => AE_c (mA 24 (by decide)) (mA 25 (by decide)) (mA 26 (by decide)) (mA 30 (by decide)) (mI 18 (by decide)) (h10 z), T, C, tX_trans h11 t1, hh, hT, hs, B, b1, RE_c mA2 mI2 b2, b3, b4⟩
def TP (X M : zSt) : Prop := ∃ tl, tl ≤ 800 ∧ zI X 5 = nI tl ∧ zI M 1 = nI tl ∧ ∀ i, i < tl → ∃ b, b < 256 ∧ zA X 11 i &&& nI 255 = nI b ∧ zA M 1 i = nI b
/-- the words that are no NAMES: the same in both, in another order -/
def WT (X M : zSt) : Prop := ∃ W : Nat → Int64, (∀ i, i < 15 → zB X 24 i = W i) ∧ (∀ i, i < 15 → zB M 2 i = if i < 2 then W (13 + i) else W (i - 2)) ∧ ∀ i j, i < 15 → j < 15 → W i = W j → i = j
def QS (X : zSt) : Prop := ∃ st0, st0 ≤ 5000 ∧ zI X 21 = nI st0 ∧ ∀ s, s ≤ 5000 → zA X 10 s = nI 0 ∨ (zA X 10 s = nI 1 ∧ s ≤ st0)
def PV (nc : Nat) (X M : zSt) : Prop := zI X 0 = nI 1 ∧ zI M 24 = nI 1 ∧ ∃ nd st ns a, PS nd X M st ns a ∧ ns ≤ nc ∧ zI X 2 = zI M 21 ∧ zI X 3 = zI M 22 ∧ zI X 4 = zI M 23 ∧ (zI X 4 = -1 ∨ ∃ d, d < nd ∧ zI X 4 = nI d)
def LV (nc : Nat) (X M : zSt) : Prop := TP X M ∧ WT X M ∧ zI X 1 = zI M 6 ∧ QS X ∧ ((zI X 0 = nI 0 ∧ zI M 24 = nI 0) ∨ PV nc X M)
theorem PV_FR {la li la' li' : List Nat} {nc : Nat} {X M X' M' : zSt} (hX : FR la li X X') (hM : FR la' li' M M') (c1 : ∀ k, k ∈ [10, 13, 14, 15, 16, 17, 18, 19, 25, 26, 27, 28, 29, 30, 31, 32] → k ∉ la) (c2 : ∀ k, k ∈ [0, 2, 3, 4, 6, 14, 15, 16, 17, 19, 20, 21] → k ∉ li) (c3 : ∀ k, k ∈ [4, 6, 7, 8, 9, 10, 22, 24, 25, 26, 27, 28, 29, 30, 31, 32] → k ∉ la') (c4 : ∀ k, k ∈ [8, 11, 15, 16, 17, 18, 19, 20, 21, 22, 23, 24, 25] → k ∉ li') (h : PV nc X M) : PV (nc + 1) X' M' := by
  obtain ⟨h1, h2, nd, st, ns, a, h3, h4, h5, h6, h7, h8⟩ := h
  refine ⟨by rw [hX.2.1 0 (c2 0 (by decide))]; exact h1, by rw [hM.2.1 24 (c4 24 (by decide))]; exact h2, nd, st, ns, a, PS_FR hX hM c1 (fun k hk => c2 k (by simp only [List.mem_cons, List.not_mem_nil, or_false] at hk ⊢; omega)) c3 (fun k hk => c4 k (by simp only [List.mem_cons, List.not_mem_nil, or_false] at hk ⊢; omega)) h3, by omega, ?_, ?_, ?_, ?_⟩
  · rw [hX.2.1 2 (c2 2 (by decide)), hM.2.1 21 (c4 21 (by decide))]; exact h5
  · rw [hX.2.1 3 (c2 3 (by decide)), hM.2.1 22 (c4 22 (by decide))]; exact h6
  · rw [hX.2.1 4 (c2 4 (by decide)), hM.2.1 23 (c4 23 (by decide))]; exact h7
  · rw [hX.2.1 4 (c2 4 (by decide))]; exact h8
theorem WT_FR {la li la' li' : List Nat} {X M X' M' : zSt} (hX : FR la li X X') (hM : FR la' li' M M') (h : WT X M) : WT X' M' := by
  unfold WT at h ⊢
  rw [hX.2.2.2 24, hM.2.2.2 2]; exact h
theorem TP_FR {la li la' li' : List Nat} {X M X' M' : zSt} (hX : FR la li X X') (hM : FR la' li' M M') (c1 : 11 ∉ la) (c2 : 5 ∉ li) (c3 : 1 ∉ la') (c4 : 1 ∉ li') (h : TP X M) : TP X' M' := by
  unfold TP at h ⊢
  rw [hX.1 11 c1, hX.2.1 5 c2, hM.1 1 c3, hM.2.1 1 c4]; exact h
theorem QS_FR {la li : List Nat} {X X' : zSt} (hX : FR la li X X') (c1 : 10 ∉ la) (c2 : 21 ∉ li) (h : QS X) : QS X' := by
  unfold QS at h ⊢
  rw [hX.1 10 c1, hX.2.1 21 c2]; exact h
theorem LV_FR {la li la' li' : List Nat} {nc : Nat} {X M X' M' : zSt} (hX : FR la li X X') (hM : FR la' li' M M') (c1 : ∀ k, k ∈ [10, 11, 13, 14, 15, 16, 17, 18, 19, 25, 26, 27, 28, 29, 30, 31, 32] → k ∉ la) (c2 : ∀ k, k ∈ [0, 1, 2, 3, 4, 5, 6, 14, 15, 16, 17, 19, 20, 21] → k ∉ li) (c3 : ∀ k, k ∈ [1, 4, 6, 7, 8, 9, 10, 22, 24, 25, 26, 27, 28, 29, 30, 31, 32] → k ∉ la') (c4 : ∀ k, k ∈ [1, 6, 8, 11, 15, 16, 17, 18, 19, 20, 21, 22, 23, 24, 25] → k ∉ li') (h : LV nc X M) : LV (nc + 1) X' M' := by
  obtain ⟨h1, h2, h3, h4, h5⟩ := h
  refine ⟨TP_FR hX hM (c1 11 (by decide)) (c2 5 (by decide)) (c3 1 (by decide)) (c4 1 (by decide)) h1, WT_FR hX hM h2, ?_, QS_FR hX (c1 10 (by decide)) (c2 21 (by decide)) h4, ?_⟩
  · rw [hX.2.1 1 (c2 1 (by decide)), hM.2.1 6 (c4 6 (by decide))]; exact h3
  · rcases h5 with ⟨a, b⟩ | h5
    · exact Or.inl ⟨by rw [hX.2.1 0 (c2 0 (by decide))]; exact a, by rw [hM.2.1 24 (c4 24 (by decide))]; exact b⟩
    · exact Or.inr (PV_FR hX hM (fun k hk => c1 k (by simp only [List.mem_cons, List.not_mem_nil, or_false] at hk ⊢; omega)) (fun k hk => c2 k (by simp only [List.mem_cons, List.not_mem_nil, or_false] at hk ⊢; omega)) (fun k hk => c3 k (by simp only [List.mem_cons, List.not_mem_nil, or_false] at hk ⊢; omega)) (fun k hk => c4 k (by simp only [List.mem_cons, List.not_mem_nil, or_false] at hk ⊢; omega)) h5)
theorem fr0 (M : zSt) : FR [] [0] M (wI M 0 (nI 0)) := FR_I _ _ (by decide)
theorem LV_0 {nc : Nat} {X M : zSt} (h : LV nc X M) : LV (nc + 1) X (wI M 0 (nI 0)) := LV_FR (FR_refl (la := []) (li := []) X) (fr0 M) (by decide) (by decide) (by decide) (by decide) h
/-- a call, in both -/
def CAL (nc : Nat) (x m : Option (Int32 × zSt)) : Prop := ∃ r X' M', x = some (r, X') ∧ m = some (r, M') ∧ LV (nc + 1) X' M'
/-- what the program gives to a question -/
theorem PV.k {nc : Nat} {X M : zSt} (h : PV nc X M) : ¬ zI X 0 = 0 ∧ ¬ zI M 24 = 0 ∧ ∃ nd l pl sk bs, PRG nd X (wI M 0 (nI 0)) ∧ RK nd X (wI M 0 (nI 0)) l pl sk bs ∧ N3 M := by
  obtain ⟨h1, h2, nd, st, ns, a, h3, -⟩ := h
  have h3 := PS_FR (FR_refl (la := []) (li := []) X) (fr0 M) (by decide) (by decide) (by decide) (by decide) h3
  obtain ⟨a1, ⟨l, pl, sk, bs, a2⟩, a3, -⟩ := h3
  exact ⟨by rw [h1]; decide, by rw [h2]; decide, nd, l, pl, sk, bs, a1, a2, a3⟩
theorem c_fault {nc : Nat} {X M : zSt} (h : LV nc X M) : CAL nc (fX9_fault X) (fX10_fault M) := by
  unfold fX9_fault fX10_fault
  exact ⟨_, _, _, rfl, by rw [h.2.2.1], LV_0 h⟩
theorem c_state {nc : Nat} {X M : zSt} (h : LV nc X M) : CAL nc (fX9_state X) (fX10_state M) := by
  unfold fX9_state fX10_state
  rcases h.2.2.2.2 with ⟨a, b⟩ | hp
  · rw [if_pos (show zI X 0 = 0 from a), if_pos (show zI M 24 = 0 from b)]
    exact ⟨_, _, _, rfl, rfl, LV_0 h⟩
  · obtain ⟨h1, h2, -⟩ := hp.k
    obtain ⟨-, -, nd, st, ns, a, -, -, h5, -⟩ := hp
    rw [if_neg h1, if_neg h2]
    exact ⟨_, _, _, rfl, by rw [h5], LV_0 h⟩
theorem c_error {nc : Nat} {X M : zSt} (h : LV nc X M) : CAL nc (fX9_error X) (fX10_error M) := by
  unfold fX9_error fX10_error
  rcases h.2.2.2.2 with ⟨a, b⟩ | hp
  · rw [if_pos (show zI X 0 = 0 from a), if_pos (show zI M 24 = 0 from b)]
    exact ⟨_, _, _, rfl, rfl, LV_0 h⟩
  · obtain ⟨h1, h2, -⟩ := hp.k
    obtain ⟨-, -, nd, st, ns, a, -, -, -, h6, -⟩ := hp
    rw [if_neg h1, if_neg h2]
    exact ⟨_, _, _, rfl, by rw [h6], LV_0 h⟩
theorem RK_look {nd : Nat} {X M : zSt} {l pl sk : Nat} {bs : Nat → Nat} (hP : PRG nd X M) (H : RK nd X M l pl sk bs) : ∃ c e n nM f s, fX2_look X = some (nI c, xL X e n f s) ∧ fX10_look M = some (nI c, mL M nM e) ∧ c < 8 ∧ LK nd M pl sk bs c e n nM f s := by
  obtain ⟨g1, g2, g3, g4, g5, g6, g7, g8⟩ := H
  have hsk := g3.2.2.1
  have hcur : hi pl sk bs (sk - 1) = pl := by unfold hi; rw [if_neg (by omega)]
  exact look_sim g2 g1.1 hP.2.1 g3 g4 (fun i h1 h2 => (g5 (sk - 1) (by omega) i h1 (by rw [hcur]; exact h2)).1)
theorem fr_xL (X : zSt) (e n f s : Int32) : FR [] [22, 23, 24, 25] X (xL X e n f s) := FR_trans (FR_trans (FR_trans (FR_I _ _ (by decide)) (FR_I _ _ (by decide))) (FR_I _ _ (by decide))) (FR_I _ _ (by decide))
theorem fr_mL (M : zSt) (n e : Int32) : FR [] [26, 27] M (mL M n e) := FR_trans (FR_I _ _ (by decide)) (FR_I _ _ (by decide))
theorem c_next {nc : Nat} {X M : zSt} (h : LV nc X M) : CAL nc (fX9_next X) (fX10_next M) := by
  unfold fX9_next fX10_next
  rcases h.2.2.2.2 with ⟨a, b⟩ | hp
  · rw [if_pos (show zI X 0 = 0 from a), if_pos (show zI M 24 = 0 from b)]
    exact ⟨_, _, _, rfl, rfl, LV_0 h⟩
  · obtain ⟨h1, h2, nd, l, pl, sk, bs, h3, h4, -⟩ := hp.k
    obtain ⟨c, e, n, nM, f, s, r1, r2, -⟩ := RK_look h3 h4
    rw [if_neg h1, if_neg h2, r1, r2, zbd_r, zbd_r]
    exact ⟨_, _, _, rfl, rfl, LV_FR (fr_xL X e n f s) (FR_trans (la := []) (li := [0, 26, 27]) (FR_mono (fr0 M) (by decide) (by decide)) (FR_mono (fr_mL _ nM e) (by decide) (by decide))) (by decide) (by decide) (by decide) (by decide) h⟩
theorem c_count {nc : Nat} {X M : zSt} (h : LV nc X M) (v : Int32) : CAL nc (fX9_count v X) (fX10_count v M) := by
  unfold fX9_count fX10_count
  rcases h.2.2.2.2 with ⟨a, b⟩ | hp
  · rw [if_pos (show zI X 0 = 0 from a), if_pos (show zI M 24 = 0 from b)]
    exact ⟨_, _, _, rfl, rfl, LV_0 h⟩
  · obtain ⟨h1, h2, nd, l, pl, sk, bs, h3, h4, -⟩ := hp.k
    obtain ⟨-, -, -, st, ns, a, ⟨-, -, -, s1, s2, -⟩, -⟩ := hp
    rw [if_neg h1, if_neg h2]
    have g1 := h4.1
    have g3 := h4.2.2.1
    have g4 := h4.2.2.2.1
    have hskl := g3.skle
    have hsk := g3.2.2.1
    have hpl := g3.2.2.2.1
    by_cases v0 : v = nI 0
    · rw [if_pos v0, if_pos v0]
      unfold fX0_used
      rw [zbd_r]
      exact ⟨_, _, _, rfl, by rw [show zI M 15 = nI l from g1.2.2.2.1, g1.2.2.1], LV_0 h⟩
    rw [if_neg v0, if_neg v0]
    by_cases v1 : v = nI 1
    · obtain ⟨X', M', c, k1, k2, k3, k4, k5, k6, k7, k8, -⟩ := keep_sim h3 h4
      rw [if_pos v1, if_pos v1]
      unfold fX1_countKept
      rw [k1, k2, zbd_r, zbd_r, zbd_r, k3]
      exact ⟨_, _, _, rfl, rfl, LV_FR k7 (FR_trans (la := [35, 36]) (li := [0, 28]) (FR_mono (fr0 M) (by decide) (by decide)) (FR_mono k8 (by decide) (by decide))) (by decide) (by decide) (by decide) (by decide) h⟩
    rw [if_neg v1, if_neg v1]
    by_cases v2 : v = nI 2
    · rw [if_pos v2, if_pos v2, x_height (g3.xs g4), m_size g3, zbd_r, zbd_r]
      exact ⟨_, _, _, rfl, rfl, LV_0 h⟩
    rw [if_neg v2, if_neg v2]
    by_cases v3 : v = nI 3
    · rw [if_pos v3, if_pos v3]
      unfold fX6_dumped
      rw [zbd_r, g4.2.1]
      exact ⟨_, _, _, rfl, by rw [show zI M 19 = nI sk from g3.2.1, nsub (by omega)], LV_0 h⟩
    rw [if_neg v3, if_neg v3]
    by_cases v4 : v = nI 4
    · rw [if_pos v4, if_pos v4]
      unfold fX2_stepsDone
      rw [zbd_r]
      exact ⟨_, _, _, rfl, by rw [s1, s2], LV_0 h⟩
    rw [if_neg v4, if_neg v4]
    by_cases v5 : v = nI 5
    · rw [if_pos v5, if_pos v5]
      unfold fX0_made
      rw [zbd_r]
      exact ⟨_, _, _, rfl, by rw [show zI X 15 = zI M 17 from g1.2.2.2.2.2.1], LV_0 h⟩
    rw [if_neg v5, if_neg v5]
    by_cases v6 : v = nI 6
    · rw [if_pos v6, if_pos v6]
      unfold fX0_most
      rw [zbd_r]
      exact ⟨_, _, _, rfl, by rw [show zI X 16 = zI M 16 from g1.2.2.2.2.2.2.1], LV_0 h⟩
    rw [if_neg v6, if_neg v6]
    exact ⟨_, _, _, rfl, rfl, LV_0 h⟩
theorem c_way {nc : Nat} {X M : zSt} (h : LV nc X M) (v k : Int32) : CAL nc (fX9_way v k X) (fX10_way v k M) := by
  rcases h.2.2.2.2 with ⟨a, b⟩ | hp
  · unfold fX9_way fX10_way
    rw [if_pos (show zI X 0 = 0 from a), if_pos (show zI M 24 = 0 from b)]
    exact ⟨_, _, _, rfl, rfl, LV_0 h⟩
  · obtain ⟨h1, h2, -⟩ := hp.k
    obtain ⟨-, -, nd, st, ns, a, ⟨p1, ⟨l, pl, sk, bs, p2⟩, -⟩, -⟩ := hp
    obtain ⟨r, X', M', r1, r2, r3, r4⟩ := way_sim p1 p2 v k h1 h2
    exact ⟨r, X', M', r1, r2, LV_FR r3 r4 (by decide) (by decide) (by decide) (by decide) h⟩
theorem c_node {nc : Nat} {X M : zSt} (h : LV nc X M) (v w : Int32) : CAL nc (fX9_node v w X) (fX10_node_ v w M) := by
  unfold fX9_node fX10_node_
  rcases h.2.2.2.2 with ⟨a, b⟩ | hp
  · rw [if_pos (show zI X 0 = 0 from a), if_pos (show zI M 24 = 0 from b)]
    exact ⟨_, _, _, rfl, rfl, LV_0 h⟩
  · obtain ⟨h1, h2, nd, l, pl, sk, bs, h3, h4, h5⟩ := hp.k
    rw [if_neg h1, if_neg h2]
    have g1 := h4.1
    have hLV := LV_0 h
    rcases m_isNode (S := wI M 0 (nI 0)) (v := v) with ⟨n, a1, a2, a3, a4⟩ | ⟨a1, a4⟩
    · have hr := g1.1.live a1 a3
      have hfree : fX0_isFree v X = some (nI 0, X) := by
        unfold fX0_isFree
        rw [a2, x_kind a1, zbd_r, if_neg (fun z => a3 ((g1.free a1).mp z))]
      rw [hfree, zbd_r, if_pos nI_0, a4, zbd_r, if_neg (show ¬ nI 1 = 0 by decide), m_in, zbd_r]
      rw [a2]
      by_cases w0 : w = nI 0
      · have hin : nI 0 ≤ w ∧ w ≤ nI 5 := by rw [w0]; decide
        rw [if_pos w0, if_pos hin, if_neg (show ¬ nI 1 = 0 by decide), if_pos w0, x_kind a1, zbd_r, zld_n a1 (by omega)]
        exact ⟨_, _, _, rfl, by rw [hr.1], hLV⟩
      rw [if_neg w0]
      by_cases w1 : w = nI 1
      · have hin : nI 0 ≤ w ∧ w ≤ nI 5 := by rw [w1]; decide
        rw [if_pos w1, if_pos hin, if_neg (show ¬ nI 1 = 0 by decide), if_neg w0, if_pos w1, x_first a1, zbd_r, zld_n a1 (by omega)]
        exact ⟨_, _, _, rfl, by rw [hr.2.1], hLV⟩
      rw [if_neg w1]
      by_cases w2 : w = nI 2
      · have hin : nI 0 ≤ w ∧ w ≤ nI 5 := by rw [w2]; decide
        rw [if_pos w2, if_pos hin, if_neg (show ¬ nI 1 = 0 by decide), if_neg w0, if_neg w1, if_pos w2, x_second a1, zbd_r, zld_n a1 (by omega), m_fields, zbd_r]
        by_cases t : two (wI M 0 (nI 0)) n
        · rw [if_pos t, if_pos rfl, zld_n a1 (by omega)]
          exact ⟨_, _, _, rfl, by rw [hr.2.2.1], hLV⟩
        · have e1 : ¬ (if zA (wI M 0 (nI 0)) 24 n = nI 6 then nI 1 else nI 0) = nI 2 := by split <;> decide
          rw [if_neg t, if_neg e1]
          refine ⟨_, _, _, rfl, ?_, hLV⟩
          have : zA X 27 n = -3 := by
            rw [hr.2.2.1]
            rcases h5 n a1 with z | z | z | z
            · exact absurd z a3
            · exact absurd (Or.inl z) t
            · exact absurd (Or.inr z) t
            · exact z
          rw [this]
      rw [if_neg w2]
      by_cases w3 : w = nI 3
      · have hin : nI 0 ≤ w ∧ w ≤ nI 5 := by rw [w3]; decide
        rw [if_pos w3, if_pos hin, if_neg (show ¬ nI 1 = 0 by decide), if_neg w0, if_neg w1, if_neg w2, if_pos w3, x_maker a1, zbd_r, zld_n a1 (by omega)]
        exact ⟨_, _, _, rfl, by rw [hr.2.2.2], hLV⟩
      rw [if_neg w3]
      obtain ⟨X', M', c, k1, k2, k3, k4, k5, k6, k7, k8, k9, k10⟩ := keep_sim h3 h4
      have hLV2 : LV (nc + 1) X' M' := LV_FR k7 (FR_trans (la := [35, 36]) (li := [0, 28]) (FR_mono (fr0 M) (by decide) (by decide)) (FR_mono k8 (by decide) (by decide))) (by decide) (by decide) (by decide) (by decide) h
      by_cases w4 : w = nI 4
      · have hin : nI 0 ≤ w ∧ w ≤ nI 5 := by rw [w4]; decide
        obtain ⟨pw, p1, p2⟩ := k10 n a1
        rw [if_pos w4, if_pos hin, if_neg (show ¬ nI 1 = 0 by decide), if_neg w0, if_neg w1, if_neg w2, if_neg w3, if_pos w4, p1, p2, zbd_r, zbd_r]
        exact ⟨_, _, _, rfl, rfl, hLV2⟩
      rw [if_neg w4]
      by_cases w5 : w = nI 5
      · have hin : nI 0 ≤ w ∧ w ≤ nI 5 := by rw [w5]; decide
        obtain ⟨vv, y1, y2, y3⟩ := k9 n a1
        rw [if_pos w5, if_pos hin, if_neg (show ¬ nI 1 = 0 by decide), if_neg w0, if_neg w1, if_neg w2, if_neg w3, if_neg w4]
        unfold fX1_keeps
        rw [k1, zbd_r, x_lengthOf a1, zbd_r, y2, k2, zbd_r, zld_n a1 (by omega)]
        by_cases z : vv = 0
        · rw [z, if_pos (show nI 0 ≤ 0 by decide), zbd_r, if_pos nI_0, if_pos (y3.mp z)]
          exact ⟨_, _, _, rfl, rfl, hLV2⟩
        · rw [if_neg (show ¬ nI vv ≤ 0 from nl (b := 0) (by omega)), zbd_r, if_neg (show ¬ nI 1 = 0 by decide), if_neg (fun q => z (y3.mpr q))]
          exact ⟨_, _, _, rfl, rfl, hLV2⟩
      rw [if_neg w5]
      have hin : ¬ (nI 0 ≤ w ∧ w ≤ nI 5) := fun z => by
        rcases i3 w 6 (by omega) with q | ⟨-, q⟩ | ⟨m, q1, q2⟩
        · have := (ilt _ _).mp q
          exact this z.1
        · have hz := z.2
          rw [Int32.le_iff_toInt_le, nI_toInt (by omega)] at hz
          rw [Int32.le_iff_toInt_le, nI_toInt (by omega)] at q
          omega
        · have : m = 0 ∨ m = 1 ∨ m = 2 ∨ m = 3 ∨ m = 4 ∨ m = 5 := by omega
          rcases this with y | y | y | y | y | y <;> rw [y] at q2
          · exact w0 q2
          · exact w1 q2
          · exact w2 q2
          · exact w3 q2
          · exact w4 q2
          · exact w5 q2
      rw [if_neg hin, if_pos nI_0]
      exact ⟨_, _, _, rfl, rfl, hLV⟩
    · have hfree : fX0_isFree v X = some (nI 1, X) := by
        unfold fX0_isFree
        rcases i3 v 400 (by omega) with q | ⟨q0, q⟩ | ⟨n, q1, q2⟩
        · rw [x_kindN q, zbd_r, if_pos rfl]
        · have : fX0_kindOf v X = some (-1, X) := by
            unfold fX0_kindOf
            rw [if_neg q0, if_pos q]
          rw [this, zbd_r, if_pos rfl]
        · rw [q2, x_kind q1, zbd_r]
          have e7 : zA (wI M 0 (nI 0)) 24 n = nI 7 := by
            by_cases z : zA (wI M 0 (nI 0)) 24 n = nI 7
            · exact z
            · exact absurd ⟨n, q1, q2, z⟩ a1
          rw [if_pos ((g1.free q1).mpr e7)]
      rw [hfree, zbd_r, if_neg (show ¬ nI 1 = 0 by decide), a4, zbd_r, if_pos nI_0]
      exact ⟨_, _, _, rfl, rfl, hLV⟩
