/-! read(): TOKENS taken, deeds added -/
def FL (X M : zSt) : Prop := zI X 8 = zI M 6 ∧ ¬ zI M 6 = 0 ∧ zI X 9 = zI M 7
/-- what reading may write -/
def rX (X X' : zSt) : Prop := FQ [13, 14, 15, 16, 17, 18, 19, 21] [6, 7, 8, 9, 10, 11, 12, 13] [12, 20, 22, 23] X X'
def rM (M M' : zSt) : Prop := FQ [4, 6, 7, 8, 9, 10, 12, 13, 14, 15, 17, 18, 19, 20, 21, 22, 23] [0, 2, 3, 4, 5, 6, 7, 9, 10, 11, 12, 13, 14] [3, 5, 11, 16] M M'
def rN (M M' : zSt) : Prop := FQ [4, 6, 7, 8, 9, 10, 12, 13, 14, 15, 17, 18, 19, 20, 21, 22, 23] [0, 2, 3, 4, 5, 6, 7, 8, 9, 10, 11, 12, 13, 14] [3, 5, 11, 16] M M'
theorem rN_M {M M' : zSt} (h : rM M M') : rN M M' := FQ_mono h (by decide) (by decide) (by decide)
theorem rX_e {o : Nat} {X X' : zSt} (h : eX o X X') : rX X X' := FQ_mono h.1 (by decide) (by decide) (by decide)
theorem rM_e {o : Nat} {X X' : zSt} (h : eM o X X') : rM X X' := FQ_mono h.1 (by decide) (by decide) (by decide)
/-- kinds of TOKENS in both -/
def KP (x m : Nat) : Prop := (x = 0 ∧ m = 0) ∨ (x = 1 ∧ m = 1) ∨ (x = 2 ∧ m = 2) ∨ (x = 3 ∧ 10 ≤ m ∧ m < 23) ∨ (x = 4 ∧ m = 3) ∨ (x = 5 ∧ m = 4) ∨ (x = 6 ∧ m = 61) ∨ (x = 7 ∧ m = 59) ∨ (x = 8 ∧ m = 40) ∨ (x = 9 ∧ m = 41) ∨ (x = 10 ∧ m = 5)
theorem TK_kp {b : Nat → Nat} {tl pl : Nat} {X M : zSt} (h : TK b tl pl X M) : ∃ x m, zI X 11 = nI x ∧ zI M 2 = nI m ∧ KP x m ∧ (x = 1 → zI X 13 = zI M 5) ∧ (x = 2 → zL X 0 = zL M 0) ∧ (x = 3 → zI X 13 = nI (m - 10)) := by
  unfold KP
  obtain ⟨-, -, -, -, -, -, -, -, a, -, -, -, h⟩ := h
  rcases h with ⟨h1, h2, -⟩ | ⟨-, h⟩
  · exact ⟨0, 0, h1, h2, by omega, fun z => by omega, fun z => by omega, fun z => by omega⟩
  rcases h with ⟨h1, h2, h3⟩ | (⟨h1, h2, h3⟩ | ⟨p, hp, h1, h3, h2⟩ | ⟨h1, h2⟩ | ⟨h1, h2⟩) | ⟨h1, h2⟩ | ⟨h1, h2⟩ | ⟨h1, h2⟩ | ⟨h1, h2⟩ | ⟨h1, h2⟩
  · exact ⟨1, 1, h1, h2, by omega, fun _ => h3, fun z => by omega, fun z => by omega⟩
  · exact ⟨2, 2, h1, h2, by omega, fun z => by omega, fun _ => h3, fun z => by omega⟩
  · exact ⟨3, 10 + p, h1, h2, by omega, fun z => by omega, fun z => by omega, fun _ => by rw [h3]; congr 1; omega⟩
  · exact ⟨4, 3, h1, h2, by omega, fun z => by omega, fun z => by omega, fun z => by omega⟩
  · exact ⟨5, 4, h1, h2, by omega, fun z => by omega, fun z => by omega, fun z => by omega⟩
  · exact ⟨6, 61, h1, h2, by omega, fun z => by omega, fun z => by omega, fun z => by omega⟩
  · exact ⟨7, 59, h1, h2, by omega, fun z => by omega, fun z => by omega, fun z => by omega⟩
  · exact ⟨8, 40, h1, h2, by omega, fun z => by omega, fun z => by omega, fun z => by omega⟩
  · exact ⟨9, 41, h1, h2, by omega, fun z => by omega, fun z => by omega, fun z => by omega⟩
  · exact ⟨10, 5, h1, h2, by omega, fun z => by omega, fun z => by omega, fun z => by omega⟩
theorem x_fail (c p : Int32) (X : zSt) : fX5_fail c p X = some (nI 0, wI (wI X 8 c) 9 p) := rfl
theorem x_cannot {X : zSt} {x : Nat} (hx : zI X 11 = nI x) (h : x ≤ 10) : fX5_cannotStand X = some (nI 0, wI (wI X 8 (if x = 10 then nI 1 else nI 2)) 9 (zI X 12)) := by
  unfold fX5_cannotStand fX5_cannotStand_17 fX8_kind fX8_place
  rw [zbd_r, hx]
  by_cases z : x = 10
  · rw [if_pos (by rw [z]), if_pos z]; rfl
  · rw [if_neg (nq z), if_neg z]; rfl
theorem m_fail {c p : Int32} {M : zSt} (h : zI M 6 = nI 0) : fX10_fail c p M = some ((), wI (wI M 6 c) 7 p) := by
  unfold fX10_fail
  rw [if_pos (show zI M 6 = 0 from h)]
theorem m_can1 {M : zSt} {m : Nat} (h : zI M 6 = nI 0) (hm : zI M 2 = nI m) (h5 : m ≠ 5) (hle : m ≤ 100) : fX10_can (nI 1) M = some (nI 1, M) := by
  unfold fX10_can fX10_can_40
  rw [if_pos (show zI M 6 = 0 from h), if_neg one0, hm, if_neg (nq h5), if_pos (show zI M 6 = 0 from h)]
theorem m_can0 {M : zSt} {m : Nat} (h : zI M 6 = nI 0) (hm : zI M 2 = nI m) (hle : m ≤ 100) : fX10_can (nI 0) M = some (nI 0, wI (wI M 6 (if m = 5 then nI 1 else nI 2)) 7 (zI M 3)) := by
  unfold fX10_can fX10_can_40 fX10_can_19 fX10_can_33
  rw [if_pos (show zI M 6 = 0 from h), if_pos zer0, hm]
  by_cases z : m = 5
  · rw [if_pos (by rw [z]), if_pos z, m_fail h, zbd_r]
    unfold fX10_can_40
    exact if_neg (show ¬ nI 1 = 0 by decide)
  · rw [if_neg (nq z), if_neg z, m_fail h, zbd_r]
    unfold fX10_can_40
    exact if_neg (show ¬ nI 2 = 0 by decide)
theorem m_room1 {M : zSt} (h : zI M 6 = nI 0) : fX10_room (nI 1) M = some (nI 1, M) := by
  unfold fX10_room fX10_room_20
  rw [if_pos (show zI M 6 = 0 from h), if_neg one0, if_pos (show zI M 6 = 0 from h)]
theorem m_room0 {M : zSt} (h : zI M 6 = nI 0) : fX10_room (nI 0) M = some (nI 0, wI (wI M 6 (nI 3)) 7 (zI M 3)) := by
  unfold fX10_room
  rw [if_pos (show zI M 6 = 0 from h), if_pos zer0, m_fail h, zbd_r]
  unfold fX10_room_20
  exact if_neg (show ¬ nI 3 = 0 by decide)
/-- the same fault at the same place -/
theorem FL_of {X M : zSt} {c p q : Int32} (hc : ¬ c = 0) (h : p = q) : FL (wI (wI X 8 c) 9 p) (wI (wI M 6 c) 7 q) := ⟨rfl, hc, h⟩
theorem take_sim {b : Nat → Nat} {tl pl kx km : Nat} {X M X1 M1 : zSt} {la li lb la' li' lb' : List Nat} (h : TK b tl pl X M) (hk : (kx = 6 ∧ km = 61) ∨ (kx = 7 ∧ km = 59) ∨ (kx = 9 ∧ km = 41)) (fX : FQ la li lb X X1) (fM : FQ la' li' lb' M M1) (c1 : 11 ∉ la) (c2 : ∀ k, k ∈ [5, 8, 10, 11, 12] → k ∉ li) (c3 : 24 ∉ lb) (d1 : 1 ∉ la') (d2 : ∀ k, k ∈ [1, 2, 3, 4, 6] → k ∉ li') (d3 : 2 ∉ lb') :
    (∃ pl' X' M', pl < pl' ∧ fX5_take (nI kx) X1 = some (nI 1, X') ∧ fX10_need (nI km) M1 = some (nI 1, M') ∧ TK b tl pl' X' M' ∧ FQ [] [10, 11, 12, 13] [] X1 X' ∧ FQ [] [2, 3, 4, 5] [] M1 M')
    ∨ (∃ X' M', fX5_take (nI kx) X1 = some (nI 0, X') ∧ fX10_need (nI km) M1 = some (nI 0, M') ∧ FL X' M' ∧ FQ [] [8, 9] [] X1 X' ∧ FQ [] [6, 7] [] M1 M') := by
  obtain ⟨x, m, k1, k2, k3, -⟩ := TK_kp h
  have e11 : zI X1 11 = nI x := by rw [fX.2.1 11 (c2 11 (by decide))]; exact k1
  have e2 : zI M1 2 = nI m := by rw [fM.2.1 2 (d2 2 (by decide))]; exact k2
  have e6 : zI M1 6 = nI 0 := by rw [fM.2.1 6 (d2 6 (by decide))]; exact h.2.2.2.2.2.2.1
  have e3 : zI X1 12 = zI M1 3 := by rw [fX.2.1 12 (c2 12 (by decide)), fM.2.1 3 (d2 3 (by decide)), h.2.2.2.1, h.2.2.2.2.1]
  unfold KP at k3
  unfold fX5_take fX8_kind fX10_need fX10_need_14
  rw [zbd_r, e11, e2]
  by_cases z : x = kx
  · have z2 : m = km := by omega
    obtain ⟨pl', X', M', r1, r2, r3, r4, r5, r6⟩ := adv h (by rw [k1]; exact nq (by omega)) fX fM c1 (fun k hk => c2 k (by simp only [List.mem_cons, List.not_mem_nil, or_false] at hk ⊢; omega)) c3 d1 (fun k hk => d2 k (by simp only [List.mem_cons, List.not_mem_nil, or_false] at hk ⊢; omega)) d3
    left
    refine ⟨pl', X', M', r1, ?_, ?_, r4, r5, r6⟩
    · rw [if_pos (by rw [z]), r2, zbd_r]
    · rw [if_pos (by rw [z2]), m_can1 e6 e2 (by omega) (by omega), zbd_r, if_neg one0, r3, zbd_r]
      unfold fX10_need_24
      rw [if_pos (show zI M' 6 = 0 from r4.2.2.2.2.2.2.1)]
  · have z2 : m ≠ km := by omega
    right
    have hc : (if m = 5 then nI 1 else nI 2) = (if x = 10 then nI 1 else nI 2) := by
      by_cases y : x = 10
      · rw [if_pos y, if_pos (by omega)]
      · rw [if_neg y, if_neg (by omega)]
    have hc0 : ¬ (if x = 10 then nI 1 else nI 2) = 0 := by
      by_cases y : x = 10
      · rw [if_pos y]; decide
      · rw [if_neg y]; decide
    refine ⟨wI (wI X1 8 (if x = 10 then nI 1 else nI 2)) 9 (zI X1 12), wI (wI M1 6 (if x = 10 then nI 1 else nI 2)) 7 (zI M1 3), ?_, ?_, FL_of hc0 e3, FQ_trans (FQ_I _ _ (by decide)) (FQ_I _ _ (by decide)), FQ_trans (FQ_I _ _ (by decide)) (FQ_I _ _ (by decide))⟩
    · rw [if_neg (nq z (by omega) (by omega)), x_cannot e11 (by omega), zbd_r]; rfl
    · rw [if_neg (nq z2 (by omega) (by omega)), m_can0 e6 e2 (by omega), zbd_r, if_pos zer0, hc]
      unfold fX10_need_24
      rw [if_neg (show ¬ zI (wI (wI M1 6 (if x = 10 then nI 1 else nI 2)) 7 (zI M1 3)) 6 = 0 from hc0)]
def aD (X : zSt) (n : Nat) (d v : Int32) (nm : Int64) (p : Int32) : zSt := wI (wA (wB (wA (wA (wA X 17 n d) 18 n v) 19 n (nI 0)) 20 n nm) 21 n p) 7 (nI (n + 1))
def mE (M : zSt) (n : Nat) (a v : Int32) : zSt := wI (wA (wA M 9 n a) 10 n v) 9 (nI (n + 1))
theorem x_addD {X : zSt} {n : Nat} {d v p : Int32} {nm : Int64} (h : zI X 7 = nI n) (hn : n < 800) : fX4_addDeed_ d v nm p X = some ((), aD X n d v nm p) := by
  unfold fX4_addDeed_ aD
  rw [h, if_neg (nl (by omega)), zck_n hn (by omega), zck_n hn (by omega), zck_n hn (by omega), zck_n hn (by omega), zck_n hn (by omega), ncl (by omega), nadd]
theorem x_addDeed {X : zSt} {n : Nat} {d v : Int32} (h : zI X 7 = nI n) (hn : n < 800) : fX4_addDeed d v X = some ((), aD X n d v 0 (nI 0)) := by
  unfold fX4_addDeed
  rw [x_addD h hn, zbd_r]
theorem x_addName {X : zSt} {n : Nat} {nm : Int64} {p : Int32} (h : zI X 7 = nI n) (hn : n < 800) : fX4_addName nm p X = some ((), aD X n (nI 8) (nI 0) nm p) := by
  unfold fX4_addName
  rw [x_addD h hn, zbd_r]
theorem m_emit {M : zSt} {n : Nat} {a v : Int32} (h : zI M 9 = nI n) (hn : n < 800) : fX10_emit a v M = some (nI n, mE M n a v) := by
  unfold fX10_emit mE
  rw [h, zck_n (by omega) (by omega), zck_n (by omega) (by omega), nadd, nsub (by omega), ncl (by omega)]
  rfl
theorem FQ_aD (X : zSt) (n : Nat) (d v : Int32) (nm : Int64) (p : Int32) : FQ [17, 18, 19, 21] [7] [20] X (aD X n d v nm p) := by
  unfold aD
  exact FQ_trans (FQ_trans (FQ_trans (FQ_trans (FQ_trans (FQ_A _ _ _ (by decide)) (FQ_A _ _ _ (by decide))) (FQ_A _ _ _ (by decide))) (FQ_B _ _ _ (by decide))) (FQ_A _ _ _ (by decide))) (FQ_I _ _ (by decide))
theorem FQ_mE (M : zSt) (n : Nat) (a v : Int32) : FQ [9, 10] [9] [] M (mE M n a v) := by
  unfold mE
  exact FQ_trans (FQ_trans (FQ_A _ _ _ (by decide)) (FQ_A _ _ _ (by decide))) (FQ_I _ _ (by decide))
/-- the loop over what is still to be read, of the reference -/
abbrev eL (n : Nat) (M : zSt) : Option (Unit × zSt) := fX10_expression_15L n M
theorem eL_bad {n : Nat} {M : zSt} (h : ¬ zI M 6 = 0) : eL (n + 1) M = some ((), M) := by
  show fX10_expression_15 (eL n) M = _
  unfold fX10_expression_15
  by_cases z : zI M 12 < 0
  · rw [if_pos z]
  · rw [if_neg z, if_neg h]
theorem eL_atoms {n o : Nat} {M : zSt} (ho : o < 60) (h6 : zI M 6 = nI 0) (h12 : zI M 12 = nI o) (h17 : zA M 17 o = nI 0) : eL (n + 1) M = zbd (fX10_atoms (nI o) M) (fun _ S => eL n S) := by
  show fX10_expression_15 (eL n) M = _
  unfold fX10_expression_15
  rw [h12, if_neg (nneg (by omega)), if_pos (show zI M 6 = 0 from h6), zld_n ho (by omega), h17, if_pos zer0]
theorem eL_let {n o : Nat} {M : zSt} (ho : o < 60) (h6 : zI M 6 = nI 0) (h12 : zI M 12 = nI o) (h17 : zA M 17 o = nI 1) : eL (n + 1) M = zbd (fX10_let (nI o) M) (fun _ S => eL n S) := by
  show fX10_expression_15 (eL n) M = _
  unfold fX10_expression_15
  rw [h12, if_neg (nneg (by omega)), if_pos (show zI M 6 = 0 from h6), zld_n ho (by omega), h17, if_neg one0]
def PR (b : Nat → Nat) (tl dd bg : Nat) (X M : zSt) (pl nd nl ns : Nat) (c : Int32) : Prop :=
  TK b tl pl X M ∧ zI X 7 = nI nd ∧ zI M 9 = nI nd ∧ zI M 10 = nI nl ∧ zI M 11 = nI ns ∧ zI M 8 = nI (dd + 1) ∧ dd < 20 ∧ zI M 14 = c ∧ 3 * nl ≤ pl + 2 ∧ 3 * ns ≤ pl + 15 ∧ bg ≤ nd ∧ ∀ s, s < ns → ∃ l, l < nl ∧ zA M 22 s = nI l
/-- an EXPR was read to its end, in both -/
def OKE (b : Nat → Nat) (tl dd bg sl o : Nat) (c : Int32) (h1 : Nat) (G : Nat → Nat × Nat × Nat) (pl nd nl ns : Nat) (X M : zSt) (x : Option (Int32 × zSt)) (m : Nat → Option (Unit × zSt)) : Prop :=
  ∃ (X' M' : zSt) (pl' nd' nl' ns' : Nat) (G' : Nat → Nat × Nat × Nat) (it : Nat), x = some (nI 1, X') ∧ (∀ n, m (n + it) = eL n M') ∧ it + 3 * pl + sl ≤ 3 * pl' ∧ PR b tl dd bg X' M' pl' nd' nl' ns' c ∧ zI M' 12 = nI o - nI 1 ∧ zI M' 13 = nI o ∧ STP 1 dd c o bg G pl nd nl ns X M G' pl' nd' nl' ns' X' M' ∧ hgt M' bg nd' = h1
/-- or there was a fault, the same in both -/
def BAE (tl sl pl : Nat) (X M : zSt) (x : Option (Int32 × zSt)) (m : Nat → Option (Unit × zSt)) : Prop :=
  ∃ (X' M' : zSt) (it : Nat), x = some (nI 0, X') ∧ (∀ n, m (n + 1 + it) = some ((), M')) ∧ it + 3 * pl + sl ≤ 3 * tl + 2 ∧ FL X' M' ∧ rX X X' ∧ rM M M'
def RES (b : Nat → Nat) (tl dd bg sl o : Nat) (c : Int32) (h1 : Nat) (G : Nat → Nat × Nat × Nat) (pl nd nl ns : Nat) (X M : zSt) (x : Option (Int32 × zSt)) (m : Nat → Option (Unit × zSt)) : Prop :=
  OKE b tl dd bg sl o c h1 G pl nd nl ns X M x m ∨ BAE tl sl pl X M x m
theorem PR_nl {b : Nat → Nat} {tl dd bg : Nat} {X M : zSt} {pl nd nl ns : Nat} {c : Int32} (h : PR b tl dd bg X M pl nd nl ns c) : nl ≤ 267 ∧ ns ≤ 271 ∧ pl ≤ tl ∧ tl ≤ 800 := by
  obtain ⟨h1, -, -, -, -, -, -, -, h2, h3, -⟩ := h
  have := h1.1.1
  have := h1.2.2.2.2.2.2.2.1
  omega
/-- first a part, then the rest -/
theorem RES_chain {b : Nat → Nat} {tl dd bg sl sl1 o : Nat} {c : Int32} {h1 : Nat} {G G1 : Nat → Nat × Nat × Nat} {pl nd nl ns pl1 nd1 nl1 ns1 : Nat} {X M X1 M1 : zSt} {x : Option (Int32 × zSt)} {m m1 : Nat → Option (Unit × zSt)} {it1 : Nat} (hS : STP 0 dd c o bg G pl nd nl ns X M G1 pl1 nd1 nl1 ns1 X1 M1) (hm : ∀ n, m (n + it1) = m1 n) (hit : it1 + 3 * pl + sl ≤ 3 * pl1 + sl1) (h : RES b tl dd bg sl1 o c h1 G1 pl1 nd1 nl1 ns1 X1 M1 x m1) : RES b tl dd bg sl o c h1 G pl nd nl ns X M x m := by
  rcases h with ⟨X', M', pl', nd', nl', ns', G', it, r1, r2, r3, r4, r5, r6, r7, r8⟩ | ⟨X', M', it, r1, r2, r3, r4, r5, r6⟩
  · have := PR_nl r4
    exact Or.inl ⟨X', M', pl', nd', nl', ns', G', it + it1, r1, fun n => by rw [← Nat.add_assoc, hm]; exact r2 n, by omega, r4, r5, r6, STP_trans (by omega) hS r7, r8⟩
  · exact Or.inr ⟨X', M', it + it1, r1, fun n => by rw [← Nat.add_assoc, hm]; exact r2 n, by omega, r4, FQ_trans (rX_e hS.2.2.2.2.2.2.1) r5, FQ_trans (rM_e hS.2.2.2.2.2.2.2.1) r6⟩
