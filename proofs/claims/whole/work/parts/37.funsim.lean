theorem rk_c {M M' : zSt} (h : zA M' 22 = zA M 22) (l : Nat) : ∀ s, rk M' l s = rk M l s := by
  intro s
  induction s with
  | zero => rfl
  | succ s ih => unfold rk; rw [h, ih]
theorem COK_c {nd pd ns : Nat} {X M X' M' : zSt} {b e : Nat} {hg rm : Nat → Nat} {enc : Nat → List Nat} {lev : Nat → Nat} (h17 : zA X' 17 = zA X 17) (h18 : zA X' 18 = zA X 18) (h19 : zA X' 19 = zA X 19) (h9 : zA M' 9 = zA M 9) (h10 : zA M' 10 = zA M 10) (h22 : zA M' 22 = zA M 22) (h11 : zI M' 11 = zI M 11) (h : COK nd pd ns X M b e hg rm enc lev) : COK nd pd ns X' M' b e hg rm enc lev := by
  have hrk : rk M' = rk M := funext (fun l => funext (rk_c h22 l))
  unfold COK Cop at h ⊢
  rw [hrk, h17, h18, h19, h9, h10, h22, h11]
  exact h
theorem rm_le {nd pd ns : Nat} {X M : zSt} {b e : Nat} {hg rm : Nat → Nat} {enc : Nat → List Nat} {lev : Nat → Nat} (h : COK nd pd ns X M b e hg rm enc lev) : rm b ≤ 9 * 800 := by
  obtain ⟨c1, c2, c3, c4, c5, c6, c7, c8, c9, c10, c11⟩ := h
  have key : ∀ c i, i + c = e → b ≤ i → rm i ≤ 9 * c := by
    intro c
    induction c with
    | zero => intro i hi _; have : i = e := by omega
              rw [this, c5]; omega
    | succ c ih =>
      intro i hi hb
      have h1 := ih (i + 1) (by omega) (by omega)
      rcases c11 i hb (by omega) with ⟨-, -, -, -, o5, -⟩ | ⟨-, -, -, -, o5, -⟩ | ⟨p, -, -, -, -, -, -, -, o5, -⟩ | ⟨j, -, -, -, -, -, -, o5, -⟩ | ⟨p, -, -, -, -, -, -, o5, -⟩ | ⟨lt, s, -, -, -, -, -, -, -, -, o5, -⟩ | ⟨n, n1, n2, -, -, -, -, -, -, o5, -⟩ | ⟨lt, -, -, -, -, -, -, -, o5, -, o8, -, -⟩ | ⟨lt, s, -, -, -, -, -, -, -, -, -, o5, -⟩ <;> omega
  have := key (e - b) b (by omega) (Nat.le_refl _)
  omega
theorem fun_sim {nd d pd ns : Nat} {X M : zSt} {l pl sk b e : Nat} {bs hg rm lev : Nat → Nat} {enc : Nat → List Nat} (H : RK nd X M l pl sk bs) (hnd : nd ≤ 20) (hdn : d < nd) (hpd : pd ≤ 8) (k2 : zA M 24 (en M (pl - 1)) = nI 2) (hM4 : zA M 4 d = nI pd) (hX13 : zA X 13 d = nI pd) (hh : pd < pl - bs (sk - 1))
    (hX14 : zA X 14 d = nI b) (hX15 : zA X 15 d = nI e) (hX16 : zA X 16 d = nI (rm b)) (hM6 : zA M 6 d = nI b) (hM7 : zA M 7 d = nI e) (hC : COK nd pd ns X M b e hg rm enc lev) (hl : l + rm b ≤ 400) :
    ∃ X' M', fX2_makeFunction (nI d) X = some ((), X') ∧ fX10_build (nI d) M = some ((), M') ∧ RK nd X' M' (l + rm b) (pl - pd) sk bs ∧ frX X X' ∧ frM M M' := by
  have hd : d < 20 := by omega
  have hrm := rm_le hC
  have HR := H
  obtain ⟨g1, g2, g3, g4, g5, g6, g7, g8⟩ := H
  have hskl := g3.skle
  have hsk := g3.2.2.1
  have hbl := g3.2.2.2.2.2.2.2.1
  have hpl := g3.2.2.2.1
  have hcur : hi pl sk bs (sk - 1) = pl := by unfold hi; rw [if_neg (by omega)]
  have hxs := g3.xs g4
  have hu := root_unique (X := X) g2 g3 g5 g6 hh (Or.inl k2)
  have hρ := g3.ent (i := pl - 1 - pd) (by omega)
  have h6 : zA M 24 (en M (pl - 1 - pd)) ≠ nI 6 := by
    by_cases z : pd = 0
    · rw [z, Nat.sub_zero, k2]; decide
    · rw [(g5 (sk - 1) (by omega) (pl - 1 - pd) (by omega) (by rw [hcur]; omega)).1]; decide
  obtain ⟨g', q1, -, q3⟩ := give_loop HR hpd hd hh pd 1 zFU (zA X 33) (by omega) (by omega) (by rw [zFU_s]; omega)
  rw [sA_id] at q1
  -- the states in which the EXPR begins to be MADE
  generalize hX0 : wI (wI (sA X 33 g') 26 (nI 0)) 18 (nI d) = X0
  generalize hM0 : wA M 28 d (zA M 28 d + nI 1) = M0
  have x0A : ∀ k, k ≠ 33 → zA X0 k = zA X k := fun k hk => by
    rw [← hX0]
    show (if k = 33 then g' else X.2.2.1 k) = _
    rw [if_neg hk]; rfl
  have x0I : ∀ k, k ≠ 26 → k ≠ 18 → zI X0 k = zI X k := fun k h1 h2 => by
    rw [← hX0]
    simp only [zs, h1, h2, if_false]
    rfl
  have x033 : zA X0 33 = g' := by rw [← hX0]; rfl
  have m0A : ∀ k, k ≠ 28 → zA M0 k = zA M k := fun k hk => by
    rw [← hM0]
    simp only [zs, hk, if_false]
  have m0I : ∀ k, zI M0 k = zI M k := fun k => by rw [← hM0]; rfl
  have m028 : zA M0 28 = upd (zA M 28) d (zA M 28 d + nI 1) := by rw [← hM0]; rfl
  have lv0 : ∀ v, lvn M v → lvn M0 v := fun v hv => lvn_mono (M := M) (fun n _ hn => by rw [m0A 24 (by decide)]; exact hn) hv
  have en0 : ∀ i, en M0 i = en M i := fun i => by show (zA M0 30 i).toNatClampNeg = _; rw [m0A 30 (by decide)]
  have hG0 : GR X0 M0 l := by
    obtain ⟨a1, a2, a3, a4, a5, a6, a7, s, s1, s2, s3⟩ := g1
    refine ⟨fun n hn => ?_, fun n hn => by rw [m0A 24 (by decide)]; exact a2 n hn, by rw [x0I 14 (by decide) (by decide)]; exact a3, by rw [m0I]; exact a4, by rw [m0A 24 (by decide)]; exact a5, by rw [x0I 15 (by decide) (by decide), m0I]; exact a6, by rw [x0I 16 (by decide) (by decide), m0I]; exact a7, s, s1, by rw [x0I 17 (by decide) (by decide)]; exact s2, fun i hi => by rw [m0A 24 (by decide)]; exact s3 i hi⟩
    rw [x0A 25 (by decide), x0A 26 (by decide), x0A 27 (by decide), x0A 28 (by decide), m0A 24 (by decide), m0A 25 (by decide), m0A 26 (by decide), m0A 27 (by decide)]
    exact a1 n hn
  have hW0 : Wg nd M0 := fun n hn h7 => by
    rw [m0A 24 (by decide)] at h7
    exact Wn_mono (M := M) (fun n _ hn => by rw [m0A 24 (by decide)]; exact hn) (by rw [m0A 24 (by decide)]) (by rw [m0A 25 (by decide)]) (by rw [m0A 26 (by decide)]) (g2 n hn h7)
  have hC0 : COK nd pd ns X0 M0 b e hg rm enc lev := COK_c (x0A 17 (by decide)) (x0A 18 (by decide)) (x0A 19 (by decide)) (m0A 9 (by decide)) (m0A 10 (by decide)) (m0A 22 (by decide)) (m0I 11) hC
  have hGv : Gv pd pl X0 M0 := by
    refine ⟨hpl, by omega, by rw [m0I]; exact g3.1, fun p hp => ?_⟩
    have hk := g3.ent (i := pl - 1 - (p + 1)) (by omega)
    have hA := (g5 (sk - 1) (by omega) (pl - 1 - (p + 1)) (by omega) (by rw [hcur]; omega)).1
    rw [m0A 30 (by decide), m0A 26 (by decide), en0, x033]
    exact ⟨lv0 _ (g3.2.2.2.2.2.2.2.2 _ (by omega)), q3 p (by omega) hp, lv0 _ (g2.p1 hk.1 hA).2⟩
  have hdef : ∀ j, j < nd → lvn M0 (nI j) := fun j hj => ⟨j, by omega, rfl, by rw [m0A 24 (by decide)]; exact g7 j hj⟩
  have hb := hC.2.2.2.2.2.2.1
  have he8 := hC.2.2.2.2.2.2.2.1
  have hg0 := hC.2.2.1
  have hMK : MK nd d X0 M0 l X0 M0 (hg b) l (Aq ns M0 enc lev b) := by
    refine ⟨hG0, hW0, by rw [← hX0]; rfl, by rw [← hX0, hg0]; rfl, fun j hj => by rw [hg0] at hj; omega, fun x s hx => ?_, fun n _ _ => ⟨rfl, rfl, rfl, rfl⟩, ⟨fun _ _ => rfl, fun _ _ => rfl, fun _ => rfl, fun _ => rfl⟩, ⟨fun _ _ => rfl, fun _ _ => rfl, fun _ => rfl, fun _ => rfl⟩, ?_, fun _ _ => rfl, Nat.le_refl _, rfl, rfl⟩
    · obtain ⟨-, lt, h1, -⟩ := hx
      exact absurd h1 (hC.2.2.2.2.2.1 lt)
    · rw [Nat.sub_self, nI_0, Int32.add_zero]
  obtain ⟨X1, M1, r1, r2, r3⟩ := make_loop hd hnd hpd hC0 hGv hdef (by omega) (by rw [m0A 7 (by decide)]; exact hM7) (e - b) b l zFU zFU X0 M0 (by omega) (Nat.le_refl _) hl (by rw [zFU_s]; omega) (by rw [zFU_s]; omega) hMK
  obtain ⟨t1, t2, t3, t4, t5, t6, t7, t8, t9, t10, t11, t12, t13, t14⟩ := r1
  have hv := (t5 0 (by omega)).2
  generalize hvv : zA M1 33 0 = v at *
  have hvl := hv.lt
  -- frames of the making
  have x1A : ∀ k, k ∉ [25, 26, 27, 28, 33, 34, 35] → zA X1 k = zA X k := fun k hk => by
    rw [t8.1 k hk]
    exact x0A k (fun z => hk (by rw [z]; decide))
  have x1I : ∀ k, k ∉ [14, 15, 16, 17, 18, 26] → zI X1 k = zI X k := fun k hk => by
    rw [t8.2.1 k hk]
    exact x0I k (fun z => hk (by rw [z]; decide)) (fun z => hk (by rw [z]; decide))
  have m1A : ∀ k, k ∉ [24, 25, 26, 27, 28, 29, 33, 34] → zA M1 k = zA M k := fun k hk => by
    rw [t9.1 k hk]
    exact m0A k (fun z => hk (by rw [z]; decide))
  have m1I : ∀ k, k ∉ [15, 16, 17] → zI M1 k = zI M k := fun k hk => by rw [t9.2.1 k hk, m0I]
  have old : ∀ n, n < 400 → zA M 24 n ≠ nI 7 → zA M1 24 n = zA M 24 n ∧ zA M1 25 n = zA M 25 n ∧ zA M1 26 n = zA M 26 n := fun n hn h7 => by
    have := t7 n hn (by rw [m0A 24 (by decide)]; exact h7)
    rw [m0A 24 (by decide), m0A 25 (by decide), m0A 26 (by decide)] at this
    exact ⟨this.1, this.2.1, this.2.2.1⟩
  have lv1 : ∀ w, lvn M w → lvn M1 w := fun w hw => lvn_mono (M := M) (fun n hn h => by rw [(old n hn h).1]; exact h) hw
  have hρ1 : zA M1 24 (en M (pl - 1 - pd)) ≠ nI 7 := by rw [(old _ hρ.1 hρ.2.2).1]; exact hρ.2.2
  have hGf := become_sim (X := X1) t1 hρ.1 hρ1 (k := 6) (by omega) v (-3)
  -- the class
  have hxm : fX3_make (nI d) (sA X 33 g') = some (v, wI X1 26 (nI 0)) := by
    unfold fX3_make fX0_workFor
    rw [zbd_r, hX0, x_end hd, zbd_r, x0A 15 (by decide), hX15, x_begin hd, zbd_r, x0A 14 (by decide), hX14]
    exact r2
  have hxs1 : XS (wA (wA (wA (wI X1 26 (nI 0)) 25 (en M (pl - 1 - pd)) (nI 6)) 26 (en M (pl - 1 - pd)) v) 27 (en M (pl - 1 - pd)) (-3)) pl (sk - 1) (bs (sk - 1)) := by
    obtain ⟨a1, a2, a3, a4, a5, a6⟩ := hxs
    refine ⟨?_, ?_, ?_, a4, a5, a6⟩
    · show zI X1 19 = _; rw [x1I 19 (by decide)]; exact a1
    · show zI X1 20 = _; rw [x1I 20 (by decide)]; exact a2
    · show zA X1 30 _ = _; rw [x1A 30 (by decide)]; exact a3
  have hX : fX2_makeFunction (nI d) X = some ((), wA (wA (wI (wA (wI (wA (wA (wA (wI X1 26 (nI 0)) 25 (en M (pl - 1 - pd)) (nI 6)) 26 (en M (pl - 1 - pd)) v) 27 (en M (pl - 1 - pd)) (-3)) 19 (nI (pl - (pd + 1)))) 29 (pl - (pd + 1)) v) 19 (nI (pl - (pd + 1) + 1))) 31 d (zA X 31 d + nI 1)) 32 d (zA X 32 d + nI (rm b))) := by
    unfold fX2_makeFunction
    rw [x_params hd, zbd_r, hX13, q1]
    unfold mkX fX2_makeFunction_11
    rw [if_pos (pt (by omega)), x_fromTop (X := sA X 33 g') hxs hh, zbd_r]
    have e29 : zA (sA X 33 g') 29 (pl - 1 - pd) = nI (en M (pl - 1 - pd)) := by
      show zA X 29 _ = _
      rw [g4.2.2.1 _ (by omega), hρ.2.1]
    rw [e29, hxm, zbd_r, x_become hρ.1, zbd_r, nadd, x_pop hxs1 (by omega), zbd_r, x_push (sz := pl - (pd + 1)) rfl (by omega), zbd_r, if_neg (nneg (by omega)), if_neg (nl (by omega)), zld_n hd (by omega), zck_n hd (by omega), zld_n hd (by omega), ncl (by omega), x_nodes hd, zbd_r, zck_n hd (by omega)]
    have e31 : zA X1 31 = zA X 31 := x1A 31 (by decide)
    have e32 : zA X1 32 = zA X 32 := x1A 32 (by decide)
    have e16 : zA X1 16 d = nI (rm b) := by rw [x1A 16 (by decide)]; exact hX16
    show some ((), wA (wA _ 31 d (zA X1 31 d + nI 1)) 32 d (zA X1 32 d + zA X1 16 d)) = _
    rw [e31, e32, e16]
  -- the reference
  have hm1 : zI M1 18 = nI pl := by rw [m1I 18 (by decide)]; exact g3.1
  have hM : fX10_build (nI d) M = some ((), wA (wI (wA (wA (wA M1 24 (en M (pl - 1 - pd)) (nI 6)) 25 (en M (pl - 1 - pd)) v) 26 (en M (pl - 1 - pd)) (-3)) 18 (nI (pl - pd))) 30 (pl - pd - 1) v) := by
    unfold fX10_build
    rw [zld_n (by omega) (by omega), hM4, zld_n hd (by omega), zck_n hd (by omega), zld_n (by omega) (by omega), hM6, ncl (by omega), hM0]
    have := r3 (nI pd)
    rw [hg0] at this
    rw [this]
    obtain ⟨f, hf⟩ : ∃ f, zFU - (e - b) = f + 1 := ⟨zFU - (e - b) - 1, by rw [zFU_s]; omega⟩
    rw [hf]
    show fX10_build_27 (fX10_build_27L f) (nI d) (nI 1) (nI pd) (nI e) M1 = _
    unfold fX10_build_27
    have e30 : zA M1 30 (pl - 1 - pd) = nI (en M (pl - 1 - pd)) := by rw [m1A 30 (by decide)]; exact hρ.2.1
    rw [zld_n (by omega) (by omega), m1A 7 (by decide), hM7, if_pos (qle (by omega)), hm1, nsub (by omega), nsub (by omega), zld_n (by omega) (by omega), e30, show (nI 0 : Int32) = nI 0 from rfl, zld_n (by omega) (by omega), hvv, m_become hρ.1, zbd_r, zld_n (by omega) (by omega)]
    show zck 600 (zI M1 18 - nI pd - nI 1) (some ((), wA (wI _ 18 (zI M1 18 - nI pd)) 30 (zI M1 18 - nI pd - nI 1).toNatClampNeg (zA M1 33 0))) = _
    rw [hm1, nsub (by omega), nsub (by omega), zck_n (by omega) (by omega), ncl (by omega), hvv]
  refine ⟨_, _, hX, hM, ?_, ?_, ?_⟩
  · generalize hρe : en M (pl - 1 - pd) = ρ at *
    generalize hMf : (wA (wI (wA (wA (wA M1 24 ρ (nI 6)) 25 ρ v) 26 ρ (-3)) 18 (nI (pl - pd))) 30 (pl - pd - 1) v) = Mf
    have z24 : zA Mf 24 = upd (zA M1 24) ρ (nI 6) := by rw [← hMf]; rfl
    have z25 : zA Mf 25 = upd (zA M1 25) ρ v := by rw [← hMf]; rfl
    have z26 : zA Mf 26 = upd (zA M1 26) ρ (-3) := by rw [← hMf]; rfl
    have z27 : zA Mf 27 = zA M1 27 := by rw [← hMf]; rfl
    have z30 : zA Mf 30 = upd (zA M 30) (pl - pd - 1) v := by rw [← hMf]; show upd (zA M1 30) _ _ = _; rw [m1A 30 (by decide)]
    have z31 : zA Mf 31 = zA M 31 := by rw [← hMf]; exact m1A 31 (by decide)
    have z28 : zA Mf 28 = upd (zA M 28) d (zA M 28 d + nI 1) := by rw [← hMf, ← m028]; exact t14
    have z29 : ∀ j, zA Mf 29 j = zA M1 29 j := fun j => by rw [← hMf]; rfl
    have i18 : zI Mf 18 = nI (pl - pd) := by rw [← hMf]; rfl
    have i19 : zI Mf 19 = zI M 19 := by rw [← hMf]; exact m1I 19 (by decide)
    have i15 : zI Mf 15 = zI M1 15 := by rw [← hMf]; rfl
    have i16 : zI Mf 16 = zI M1 16 := by rw [← hMf]; rfl
    have i17 : zI Mf 17 = zI M1 17 := by rw [← hMf]; rfl
    have erp : pl - 1 - pd = pl - pd - 1 := by omega
    have en1 : ∀ i, i < pl - 1 - pd → en Mf i = en M i := fun i hi => by show (zA Mf 30 i).toNatClampNeg = _; rw [z30, updN _ _ (by omega)]
    have en2 : en Mf (pl - 1 - pd) = v.toNatClampNeg := by show (zA Mf 30 _).toNatClampNeg = _; rw [z30, erp, updS]
    have mono1 : ∀ k, k < 400 → zA M1 24 k ≠ nI 7 → zA Mf 24 k ≠ nI 7 := fun k _ hk => by rw [z24]; exact updk (by omega) hk
    have mono : ∀ k, k < 400 → zA M 24 k ≠ nI 7 → zA Mf 24 k ≠ nI 7 := fun k hk h => mono1 k hk (by rw [(old k hk h).1]; exact h)
    have ho : ∀ m, m < 400 → zA M 24 m ≠ nI 7 → m ≠ ρ → zA Mf 24 m = zA M 24 m ∧ zA Mf 25 m = zA M 25 m ∧ zA Mf 26 m = zA M 26 m := fun m h1 h2 h3 => by rw [z24, z25, z26, updN _ _ h3, updN _ _ h3, updN _ _ h3]; exact old m h1 h2
    have hf := fire (M := M) (M' := Mf) (r := pl - 1 - pd) (w := v.toNatClampNeg) (bs := bs) g2 g3 g5 g6 (by omega) (by omega) (by rw [hρe]; exact ho) en1 en2 (Or.inr ⟨by rw [hρe, z24, updS], by rw [hρe]; show (zA Mf 25 ρ).toNatClampNeg = _; rw [z25, updS]⟩) (by rw [hρe]; exact h6) (fun i hi => by rw [hρe]; exact hu i (by omega) (by omega))
    have ep : pl - 1 - pd + 1 = pl - pd := by omega
    rw [ep] at hf
    refine ⟨?_, ?_, ?_, ?_, hf.1, hf.2, fun j hj => mono j (by omega) (g7 j hj), ?_⟩
    · obtain ⟨a1, a2, a3, a4, a5, a6, a7, a8⟩ := hGf
      refine ⟨fun m hm => ?_, fun m hm => by rw [z24]; exact a2 m hm, a3, by rw [i15]; exact a4, by rw [z24]; exact a5, by rw [i17]; exact a6, by rw [i16]; exact a7, ?_⟩
      · rw [z24, z25, z26, z27]; exact a1 m hm
      · obtain ⟨s, s1, s2, s3⟩ := a8
        exact ⟨s, s1, s2, fun i hi => by rw [z24]; exact s3 i hi⟩
    · intro m hm h7
      by_cases q : m = ρ
      · subst q
        unfold Wn
        rw [z24, z25, z26, updS, updS, updS]
        exact Or.inr (Or.inr (Or.inr (Or.inr (Or.inr (Or.inr ⟨rfl, lvn_mono mono1 hv⟩)))))
      · rw [z24, updN _ _ q] at h7
        exact Wn_mono (M := M1) mono1 (by rw [z24, updN _ _ q]) (by rw [z25, updN _ _ q]) (by rw [z26, updN _ _ q]) (t2 m hm h7)
    · obtain ⟨a1, a2, a3, a4, a5, a6, a7, a8, a9⟩ := g3
      refine ⟨i18, by rw [i19]; exact a2, a3, by omega, a5, fun i hi => by rw [z31]; exact a6 i hi, a7, by omega, fun i hi => ?_⟩
      rw [z30, upd_ite]
      split
      · exact lvn_mono mono1 hv
      · exact lvn_mono mono (a9 i (by omega))
    · obtain ⟨b1, b2, b3, b4⟩ := g4
      refine ⟨?_, ?_, fun i hi => ?_, fun i hi => ?_⟩
      · show nI (pl - (pd + 1) + 1) = nI (pl - pd)
        have : pl - (pd + 1) + 1 = pl - pd := by omega
        rw [this]
      · show zI X1 20 = _
        rw [x1I 20 (by decide)]; exact b2
      · show upd (zA X1 29) (pl - (pd + 1)) v i = zA Mf 30 i
        have : pl - (pd + 1) = pl - pd - 1 := by omega
        rw [z30, this, upd_ite, upd_ite, x1A 29 (by decide)]
        split
        · rfl
        · exact b3 i (by omega)
      · show zA X1 30 i = zA Mf 31 i
        rw [z31, x1A 30 (by decide)]; exact b4 i hi
    · intro j hj
      rw [z28, z29]
      show upd (zA X1 31) d (zA X 31 d + nI 1) j = _ ∧ upd (zA X1 32) d (zA X 32 d + nI (rm b)) j = _
      rw [x1A 31 (by decide), x1A 32 (by decide)]
      by_cases q : j = d
      · subst q
        rw [updS, updS, updS, t10, m0A 29 (by decide), (g8 j hj).1, (g8 j hj).2]
        have : l + rm b - l = rm b := by omega
        rw [this]
        exact ⟨rfl, rfl⟩
      · rw [updN _ _ q, updN _ _ q, updN _ _ q, t11 j q, m0A 29 (by decide)]
        exact g8 j hj
  · refine ⟨fun k hk => ?_, fun k hk => ?_, fun k => ?_, fun k => ?_⟩
    · have e := x1A k (fun z => hk (by simp only [List.mem_cons, List.not_mem_nil, or_false] at z ⊢; omega))
      rw [← e]
      simp only [List.mem_cons, not_or] at hk
      simp only [zs, hk, if_false]
    · have e := x1I k (fun z => hk (by simp only [List.mem_cons, List.not_mem_nil, or_false] at z ⊢; omega))
      rw [← e]
      simp only [List.mem_cons, not_or] at hk
      simp only [zs, hk, if_false]
    · show zL X1 k = _
      rw [t8.2.2.1, ← hX0]; rfl
    · show zB X1 k = _
      rw [t8.2.2.2, ← hX0]; rfl
  · refine ⟨fun k hk => ?_, fun k hk => ?_, fun k => ?_, fun k => ?_⟩
    · have e := m1A k (fun z => hk (by simp only [List.mem_cons, List.not_mem_nil, or_false] at z ⊢; omega))
      rw [← e]
      simp only [List.mem_cons, not_or] at hk
      simp only [zs, hk, if_false]
    · have e := m1I k (fun z => hk (by simp only [List.mem_cons, List.not_mem_nil, or_false] at z ⊢; omega))
      rw [← e]
      simp only [List.mem_cons, not_or] at hk
      simp only [zs, hk, if_false]
    · show zL M1 k = _
      rw [t9.2.2.1, ← hM0]; rfl
    · show zB M1 k = _
      rw [t9.2.2.2, ← hM0]; rfl
