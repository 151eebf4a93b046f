/-- the lets around a deed -/
def encl (G : Nat → Nat × Nat × Nat) (lo nl i : Nat) : List Nat := (List.range 300).filter (fun l => decide (lo ≤ l ∧ l < nl ∧ (G l).1 < i ∧ i < (G l).2.1))
theorem mem_encl {G : Nat → Nat × Nat × Nat} {lo nl i l : Nat} : l ∈ encl G lo nl i ↔ l < 300 ∧ lo ≤ l ∧ l < nl ∧ (G l).1 < i ∧ i < (G l).2.1 := by
  unfold encl
  rw [List.mem_filter, List.mem_range, decide_eq_true_iff]
theorem wt0 {X : zSt} {i : Nat} (h : zA X 17 i = nI 0) : wt X i = 1 := by unfold wt; rw [h, if_pos rfl]
theorem wt1 {X : zSt} {i : Nat} (h : zA X 17 i = nI 1) : wt X i = 1 := by unfold wt; rw [h, if_neg (by decide), if_pos rfl]
theorem wt5 {X : zSt} {i n : Nat} (h : zA X 17 i = nI 5) (h2 : zA X 18 i = nI n) (hn : n ≤ 100) : wt X i = n - 1 := by unfold wt; rw [h, if_neg (by decide), if_neg (by decide), if_pos rfl, h2, ncl (by omega)]
theorem wt6 {X : zSt} {i n : Nat} (h : zA X 17 i = nI 6) (h2 : zA X 18 i = nI n) (hn : n ≤ 100) : wt X i = n := by unfold wt; rw [h, if_neg (by decide), if_neg (by decide), if_neg (by decide), if_pos rfl, h2, ncl (by omega)]
theorem wt7 {X : zSt} {i : Nat} (h : zA X 17 i = nI 7) : wt X i = 0 := by unfold wt; rw [h, if_neg (by decide), if_neg (by decide), if_neg (by decide), if_neg (by decide)]
theorem cop_of {G : Nat → Nat × Nat × Nat} {X2 M S : zSt} {pd k lo nl ns a e i : Nat} (hnl : nl ≤ 300) (hlet : ∀ l, lo ≤ l → l < nl → a ≤ (G l).1 ∧ (G l).1 < (G l).2.1 ∧ (G l).2.1 ≤ e ∧ (G l).2.2 < 12 ∧ rk M l ns ≤ 6 ∧ zA M 9 (G l).1 = nI 9 ∧ zA M 10 (G l).1 = nI l) (h22 : zA S 22 = zA M 22) (hR : RV G X2 M S pd k lo nl ns a i) (h1 : a ≤ i) (h2 : i < e) : Cop k pd ns X2 S (hgt M a) (fun j => wsum X2 j e) (encl G lo nl) (fun l => (G l).2.2) i := by
  have hrk : ∀ l s, rk S l s = rk M l s := fun l s => rk_t s (fun j _ => by rw [h22])
  have hsub : ¬ zA M 9 i = nI 9 → ∀ l, l ∈ encl G lo nl (i + 1) → l ∈ encl G lo nl i := fun h9 l hl => by
    rw [mem_encl] at hl ⊢
    obtain ⟨q1, q2, q3, q4, q5⟩ := hl
    have : (G l).1 ≠ i := fun z => h9 (by rw [← z]; exact (hlet l q2 q3).2.2.2.2.2.1)
    exact ⟨q1, q2, q3, by omega, by omega⟩
  have hw := wsum_f X2 e h2
  rcases hR with ⟨⟨n4, n8, hD⟩, s9, s10⟩ | ⟨x4, s9, m4, l, s, p1, p2, p3, p4, p5, p6, p7, p8⟩ | ⟨x3, s9, m4, p, p1, p2, p3⟩ | ⟨x2, s9, m4, e', p1, p2, p3⟩
  · unfold DR at hD
    rcases hD with ⟨d1, d2, d3⟩ | ⟨d1, d2, d3⟩ | ⟨p, d1, d2, d3, d4, d5, d6⟩ | ⟨d1, -⟩ | ⟨-, d2, -⟩ | ⟨n, d1, d2, d3, d4, d5, d6, d7⟩ | ⟨l, d1, d2, d3, d4, d5, d6, d7, d8, d9⟩ | ⟨l, s, d1, d2, d3, d4, d5, d6, d7, d8, d9, d10, d11⟩
    · refine Or.inl ⟨d1, by rw [s9]; exact d2, by rw [s10]; exact d3, by rw [hgt_s h1, d2, hst1 (by omega)], ?_, hsub (by rw [d2]; decide)⟩
      show wsum X2 i e = wsum X2 (i + 1) e + 1
      rw [hw, wt0 d1]; omega
    · refine Or.inr (Or.inl ⟨d1, d2, by rw [s9]; exact d3, by rw [hgt_s h1, d3, hst1 (by omega)], ?_, hsub (by rw [d3]; decide)⟩)
      show wsum X2 i e = wsum X2 (i + 1) e + 1
      rw [hw, wt1 d1]; omega
    · refine Or.inr (Or.inr (Or.inl ⟨p, d1, d2, d3, d4, by rw [s9]; exact d5, by rw [s10]; exact d6, by rw [hgt_s h1, d5, hst1 (by omega)], ?_, hsub (by rw [d5]; decide)⟩))
      show wsum X2 i e = wsum X2 (i + 1) e + 1
      rw [hw, wt1 d3]; omega
    · exact absurd d1 n8
    · exact absurd d2 n4
    · refine Or.inr (Or.inr (Or.inr (Or.inr (Or.inr (Or.inr (Or.inl ⟨n, d1, d2, d3, d4, d5, by rw [s9]; exact d6, by rw [s10]; exact d7, ?_, ?_, hsub (by rw [d6]; decide)⟩))))))
      · rw [hgt_s h1, d6, d7]
        unfold hst
        rw [if_pos rfl, ncl (by omega)]
      · show wsum X2 i e = wsum X2 (i + 1) e + (n - 1)
        rw [hw, wt5 d4 d5 (by omega)]; omega
    · obtain ⟨w1, w2, w3, w4, w5, w6, w7⟩ := hlet l d1 d2
      refine Or.inr (Or.inr (Or.inr (Or.inr (Or.inr (Or.inr (Or.inr (Or.inl ⟨l, by omega, d4, by rw [hrk]; exact d5, d6, by rw [s9]; exact d7, by rw [s10]; exact d8, ?_, ?_, w4, by rw [hrk]; exact w5, fun l' q => ?_, fun l' q => ?_⟩)))))))
      · rw [hgt_s h1, d7]
        unfold hst
        rw [if_neg (by decide), if_pos rfl]
      · show wsum X2 i e = wsum X2 (i + 1) e + rk S l ns
        rw [hw, hrk, wt6 d4 d5 (by omega)]; omega
      · rw [mem_encl] at q
        have := d9 l' q.2.1 q.2.2.1 q.2.2.2.1 q.2.2.2.2
        show l' ≠ l ∧ (G l').2.2 ≠ (G l).2.2
        refine ⟨fun z => ?_, by omega⟩
        rw [z] at q
        omega
      · rw [mem_encl] at q ⊢
        obtain ⟨q1, q2, q3, q4, q5⟩ := q
        by_cases z : (G l').1 = i
        · left
          have := (hlet l' q2 q3).2.2.2.2.2.2
          rw [z, d8] at this
          exact ((neq (by omega) (by omega)).mp this).symm
        · right
          exact ⟨q1, q2, q3, by omega, by omega⟩
    · refine Or.inr (Or.inr (Or.inr (Or.inr (Or.inr (Or.inr (Or.inr (Or.inr ⟨l, s, ?_, d3, by rw [h22]; exact d4, d5, d6, by rw [hrk]; exact d7, by rw [s9]; exact d8, by rw [s10]; exact d9, ?_, ?_, hsub (by rw [d8]; decide)⟩)))))))
      · rw [mem_encl]; exact ⟨by omega, d1, d2, d10, d11⟩
      · rw [hgt_s h1, d8]
        unfold hst
        rw [if_neg (by decide), if_neg (by decide), if_pos rfl]
      · show wsum X2 i e = wsum X2 (i + 1) e
        rw [hw, wt7 d6]; omega
  · refine Or.inr (Or.inr (Or.inr (Or.inr (Or.inr (Or.inl ⟨l, s, ?_, p3, by rw [h22]; exact p4, x4, by rw [hrk]; exact p5, s9, p8, by rw [hgt_s h1, m4, hst1 (by omega)], ?_, hsub (by rw [m4]; decide)⟩)))))
    · rw [mem_encl]; exact ⟨by omega, p1, p2, p6, p7⟩
    · show wsum X2 i e = wsum X2 (i + 1) e
      rw [hw, wt_8 x4 (by omega)]; omega
  · refine Or.inr (Or.inr (Or.inr (Or.inr (Or.inl ⟨p, p1, x3, p2, s9, p3, by rw [hgt_s h1, m4, hst1 (by omega)], ?_, hsub (by rw [m4]; decide)⟩))))
    show wsum X2 i e = wsum X2 (i + 1) e
    rw [hw, wt_8 x3 (by omega)]; omega
  · refine Or.inr (Or.inr (Or.inr (Or.inl ⟨e', p1, x2, p2, s9, p3, by rw [hgt_s h1, m4, hst1 (by omega)], ?_, hsub (by rw [m4]; decide)⟩)))
    show wsum X2 i e = wsum X2 (i + 1) e
    rw [hw, wt_8 x2 (by omega)]; omega
/-- slots of other DEFINITIONS have other lets -/
theorem RD_own {b : Nat → Nat} {tl k : Nat} {G : Nat → Nat × Nat × Nat} {bs ls ss pd : Nat → Nat} {Y Z : Nat → zSt} {pl nd nl ns : Nat} {X M : zSt} (h : RD b tl k G bs ls ss pd Y Z pl nd nl ns X M) : (∀ d, d < k → ls d ≤ ls (d + 1) ∧ ss d ≤ ss (d + 1)) ∧ (∀ d, d < k → ∀ s, ss d ≤ s → s < ss (d + 1) → zA M 23 s = nI d ∧ ∃ l, ls d ≤ l ∧ l < ls (d + 1) ∧ zA M 22 s = nI l) ∧ nl ≤ 267 ∧ ns ≤ 271 ∧ nd ≤ 800 ∧ ∀ d, d < k → ∀ s, ss (d + 1) ≤ s → s < ns → ∃ l, zA M 22 s = nI l ∧ l ≤ 2000 ∧ ls (d + 1) ≤ l := by
  obtain ⟨hT, hk, -, ⟨g8, g9, g10⟩, ⟨g11, g12, g13, g14, g15, g16⟩, -, -, -, hD⟩ := h
  have hpl : pl ≤ tl := hT.2.2.2.2.2.2.2.1
  have htl : tl ≤ 800 := hT.1.1
  have m1 : ∀ d, d < k → ls d ≤ ls (d + 1) := fun d hd => (hD d hd).2.2.2.2.1.2.1
  have m2 : ∀ d, d < k → ss d ≤ ss (d + 1) := fun d hd => (hD d hd).2.2.2.2.1.2.2.1
  have own : ∀ d, d < k → ∀ s, ss d ≤ s → s < ss (d + 1) → zA M 23 s = nI d ∧ ∃ l, ls d ≤ l ∧ l < ls (d + 1) ∧ zA M 22 s = nI l := fun d hd => (hD d hd).2.2.2.2.1.2.2.2.2.2.2.2
  refine ⟨fun d hd => ⟨m1 d hd, m2 d hd⟩, own, by omega, by omega, by omega, fun d hd s q1 q2 => ?_⟩
  obtain ⟨d', d1, d2, d3⟩ := find_k k s g16 (by omega)
  obtain ⟨-, l, w1, w2, w3⟩ := own d' d1 s d2 d3
  have hdd : d + 1 ≤ d' := by
    rcases Nat.lt_or_ge d' (d + 1) with z | z
    · exfalso
      obtain ⟨c, hc⟩ : ∃ c, d + 1 = d' + 1 + c := ⟨d - d', by omega⟩
      have := mono_k (f := ss) (k := k) m2 c (d' + 1) (by omega)
      rw [← hc] at this
      omega
    · exact z
  obtain ⟨c, hc⟩ : ∃ c, d' = d + 1 + c := ⟨d' - (d + 1), by omega⟩
  have h1 := mono_k (f := ls) (k := k) m1 c (d + 1) (by omega)
  rw [← hc] at h1
  obtain ⟨c2, hc2⟩ : ∃ c2, k = d' + 1 + c2 := ⟨k - (d' + 1), by omega⟩
  have h2 := mono_k (f := ls) (k := k) m1 c2 (d' + 1) (by omega)
  rw [← hc2] at h2
  exact ⟨l, w3, by omega, by omega⟩
theorem prg_of {b : Nat → Nat} {tl k : Nat} {G : Nat → Nat × Nat × Nat} {bs ls ss pd : Nat → Nat} {Y Z : Nat → zSt} {pl nd nl ns : Nat} {X X2 M S : zSt} (h : RD b tl k G bs ls ss pd Y Z pl nd nl ns X M) (hk0 : 0 < k) (hX : FQ [17, 18] [] [] X X2) (hT : TB X X2 0 nd (fun j => zB X 12 j) 0 0 k (nI 2)) (hS : FQ [8, 9, 10] [] [] M S) (h8 : ∀ d, d < k → zA S 8 d = nI (msum M (bs d) (bs (d + 1)) + ow M d ns)) (hR : ∀ d', d' < k → ∀ j, bs d' ≤ j → j < bs (d' + 1) → RV G X2 M S (pd d') k (ls d') (ls (d' + 1)) ns (bs d') j) (hmain : ∃ m, m < k ∧ zB M 3 m = 1835100526 ∧ zA M 4 m = nI 0) : PRG k X2 S := by
  obtain ⟨o1, o2, o3, o4, o5, o6⟩ := RD_own h
  obtain ⟨hT0, hk, ⟨g1, g2, g3, g4, g5, g6, g7⟩, ⟨g8, g9, g10⟩, ⟨g11, g12, g13, g14, g15, g16⟩, hO, hN, hQ, hD⟩ := h
  refine ⟨hk0, ⟨hk, fun d hd => ?_⟩, by rw [hX.2.1 6 (by decide)]; exact g1, by rw [hS.2.1 8 (by decide)]; exact g2, fun d hd => by rw [hX.2.2 12 (by decide), hS.2.2 3 (by decide)]; exact hN d hd, ?_, fun d hd => ?_⟩
  · obtain ⟨⟨a1, a2, a3, -⟩, -⟩ := (hD d hd).2
    rw [hX.1 13 (by decide), hS.1 4 (by decide)]
    exact ⟨by rw [a1, a2], pd d, a3, a2⟩
  · obtain ⟨m, m1, m2, m3⟩ := hmain
    rw [hS.2.2 3 (by decide), hS.1 4 (by decide)]
    refine ⟨m, m1, m2, m3, fun d hd z => ?_⟩
    rcases Nat.lt_trichotomy d m with y | y | y
    · exact absurd (z.trans m2.symm) (hQ d m y m1)
    · exact y
    · exact absurd (m2.trans z.symm) (hQ m d y hd)
  · obtain ⟨⟨c1, c2, c3, c4⟩, ⟨a1, a2, a3, a4, a5, a6, a7, a8⟩, b1, b2, b3, b4, b5, b6⟩ := hD d hd
    have hwY : wsum X2 (bs d) (bs (d + 1)) = wsum (Y d) (bs d) (bs (d + 1)) := wsum_c _ (fun i q1 q2 => by
      rw [TB_w (dk := 2) (by omega) hT i, ← TB_w (dk := 3) (by omega) b5 i]
      unfold wt
      rw [(b6 i q1 q2).1, (b6 i q1 q2).2.1])
    have hsw := SEG_w b3
    have how : ow M d ns = ss (d + 1) - ss d := by
      have := (ow_eq (M := M) hk g16 (fun d hd => (o1 d hd).2) (fun d hd s q1 q2 => (o2 d hd s q1 q2).1) hd ns (by omega)).2.2 (by omega)
      exact this
    have hss := (o1 d hd).2
    have hlet : ∀ l, ls d ≤ l → l < ls (d + 1) → bs d ≤ (G l).1 ∧ (G l).1 < (G l).2.1 ∧ (G l).2.1 ≤ bs (d + 1) ∧ (G l).2.2 < 12 ∧ rk M l ns ≤ 6 ∧ zA M 9 (G l).1 = nI 9 ∧ zA M 10 (G l).1 = nI l := fun l q1 q2 => by
      obtain ⟨w1, w2, w3, w4, w5, w6, w7, w8⟩ := b3.2.2.2.1 l q1 q2
      refine ⟨w1, w2, w3, w5, ?_, w7, w8⟩
      obtain ⟨dl, hdl⟩ : ∃ dl, ns = ss (d + 1) + dl := ⟨ns - ss (d + 1), by omega⟩
      rw [hdl, rk_n (M := M) (fun _ _ => rfl) dl (fun s p1 p2 p3 => by
        obtain ⟨l', r1, r2, r3⟩ := o6 d hd s p1 (by omega)
        rw [r1] at p3
        have := (neq (by omega) (by omega)).mp p3
        omega)]
      exact w6
    refine ⟨pd d, ns, bs d, bs (d + 1), hgt M (bs d), fun j => wsum X2 j (bs (d + 1)), encl G (ls d) (ls (d + 1)), fun l => (G l).2.2, by rw [hS.1 4 (by decide)]; exact a2, a3, by rw [hX.1 14 (by decide)]; exact a4, by rw [hX.1 15 (by decide)]; exact a5, ?_, by rw [hS.1 6 (by decide)]; exact a7, by rw [hS.1 7 (by decide)]; exact a8, ?_, by rw [hS.2.1 11 (by decide)]; exact g6, by omega, hgt_b _ _, b2, wsum_0 X2 _ _ (Nat.le_refl _), fun l q => ?_, c1, b1, b3.2.2.2.2.2.1, fun i l q => ?_, fun i q1 q2 => cop_of (by omega) hlet (hS.1 22 (by decide)) (hR d hd i q1 q2) q1 q2⟩
    · rw [hX.1 16 (by decide), a6]
      show _ = nI (wsum X2 (bs d) (bs (d + 1)))
      rw [hwY]
    · rw [h8 d hd]
      show _ = nI (wsum X2 (bs d) (bs (d + 1)))
      rw [hwY, how, show msum M (bs d) (bs (d + 1)) + (ss (d + 1) - ss d) = wsum (Y d) (bs d) (bs (d + 1)) by omega]
    · rw [mem_encl] at q
      have := (hlet l q.2.1 q.2.2.1).1
      omega
    · rw [mem_encl] at q
      have hl := hlet l q.2.1 q.2.2.1
      refine ⟨by omega, hl.2.2.2.1, ?_⟩
      rw [rk_t ns (M := M) (fun j _ => by rw [hS.1 22 (by decide)])]
      exact hl.2.2.2.2.1
