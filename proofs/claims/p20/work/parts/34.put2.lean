/-- B: into the pool -/
def lm_pk (g : am_S) (q a n : Nat) : am_S := am_up (am_up (am_up g 33 0 q 2) 34 0 q (nI a)) 35 0 q (nI n)
theorem rl_outB {ex : Nat} {be : Nat → Nat} {al : Nat → Bool} {gc gm : am_S} {s fo a n : Nat} (h : rl_R ex be al gc gm) (hs : s < 128) (ha : al s = true) (hfo : fo < 10) (h2 : gc 5 s 2 = 1) (h3 : gc 5 s 3 = nI fo) (h8 : gc 8 0 fo = nI s) (h5 : gc 5 s 5 = -1) (hn : 1 ≤ n) (han : a + n ≤ 64) (hfree : ∀ b, a ≤ b → b < a + n → gc 12 0 b = 0) :
    rl_R ex be al (lc_vc (lc_pk gc s a n) fo) (lm_vc (lm_pk gm (be s) a n) fo) := by
  have hR := h
  obtain ⟨-, -, -, -, hal, -, -, hsh, -, -, har, hpk, hs1, hs2⟩ := h
  have hbs := hal.1 s hs ha
  have hwh := (hsh s hs ha).1
  generalize hgc : lc_vc (lc_pk gc s a n) fo = gc'
  generalize hgm : lm_vc (lm_pk gm (be s) a n) fo = gm'
  have CU : ∀ f, f ≠ 5 → f ≠ 8 → f ≠ 9 → f ≠ 10 → f ≠ 11 → f ≠ 12 → gc' f = gc f := fun f a b c d e k => by rw [← hgc, lc_vc_f b c d]; unfold lc_pk; rw [pu_uf a, pu_uf a, pu_uf a, pu_uf e, pu_ff k]
  have C5 : gc' 5 = (lc_pk gc s a n) 5 := by rw [← hgc]; exact lc_vc_f (by decide) (by decide) (by decide)
  have C5r : ∀ r j, r ≠ s → gc' 5 r j = gc 5 r j := fun r j hr => by rw [C5]; unfold lc_pk; rw [pu_ui hr, pu_ui hr, pu_ui hr, pu_uf (by decide), pu_ff (by decide)]
  have C52 : gc' 5 s 2 = 2 := by rw [C5]; unfold lc_pk; rw [pu_uj (by decide), pu_uj (by decide), pu_us]
  have C53 : gc' 5 s 3 = nI a := by rw [C5]; unfold lc_pk; rw [pu_uj (by decide), pu_us]
  have C54 : gc' 5 s 4 = nI n := by rw [C5]; unfold lc_pk; rw [pu_us]
  have C5j : ∀ j, j ≠ 2 → j ≠ 3 → j ≠ 4 → gc' 5 s j = gc 5 s j := fun j a b c => by rw [C5]; unfold lc_pk; rw [pu_uj c, pu_uj b, pu_uj a, pu_uf (by decide), pu_ff (by decide)]
  have C5a : ∀ r j, j ≠ 2 → j ≠ 3 → j ≠ 4 → gc' 5 r j = gc 5 r j := fun r j a b c => by
    by_cases e : r = s
    · rw [e]; exact C5j j a b c
    · exact C5r r j e
  have C12 : gc' 12 = (pu_fi gc 12 0 a (a + n) (fun _ => 1)) 12 := by rw [← hgc, lc_vc_f (by decide) (by decide) (by decide)]; unfold lc_pk; rw [pu_uf (by decide), pu_uf (by decide), pu_uf (by decide), pu_uf (by decide)]
  have C12i : ∀ b, a ≤ b → b < a + n → gc' 12 0 b = 1 := fun b x y => by rw [C12, pu_fin x y]
  have C12o : ∀ b, ¬ (a ≤ b ∧ b < a + n) → gc' 12 0 b = gc 12 0 b := fun b x => by rw [C12, pu_fout (by omega)]
  have C11 : gc' 11 0 2 = gc 11 0 2 + 1 := by rw [← hgc, lc_vc_f (by decide) (by decide) (by decide)]; unfold lc_pk; rw [pu_uf (by decide), pu_uf (by decide), pu_uf (by decide), pu_us]
  have MU : ∀ f, f ≠ 33 → f ≠ 34 → f ≠ 35 → f ≠ 38 → f ≠ 39 → f ≠ 40 → gm' f = gm f := fun f a b c d e k => by rw [← hgm, lm_vc_f d e k]; unfold lm_pk; rw [pu_uf c, pu_uf b, pu_uf a]
  have M3 : ∀ f, f = 33 ∨ f = 34 ∨ f = 35 → gm' f = (lm_pk gm (be s) a n) f := fun f hf => by rw [← hgm]; exact lm_vc_f (by omega) (by omega) (by omega)
  have M3r : ∀ r, r ≠ be s → gm' 33 0 r = gm 33 0 r ∧ gm' 34 0 r = gm 34 0 r ∧ gm' 35 0 r = gm 35 0 r := fun r hr => by
    rw [M3 33 (by decide), M3 34 (by decide), M3 35 (by decide)]
    unfold lm_pk
    refine ⟨?_, ?_, ?_⟩ <;> rw [pu_uj hr, pu_uj hr, pu_uj hr]
  have M33 : gm' 33 0 (be s) = 2 := by rw [M3 33 (by decide)]; unfold lm_pk; rw [pu_uf (by decide), pu_uf (by decide), pu_us]
  have M34 : gm' 34 0 (be s) = nI a := by rw [M3 34 (by decide)]; unfold lm_pk; rw [pu_uf (by decide), pu_us]
  have M35 : gm' 35 0 (be s) = nI n := by rw [M3 35 (by decide)]; unfold lm_pk; rw [pu_us]
  refine rl_out_R hR hs ha hfo h2 h3 h8 (fun f a b c d e k _ => CU f a b c d e k) C5r (C5j 1 (by decide) (by decide) (by decide)) (fun f hf => ?_) ?_ (fun b hb => ?_) (fun f a b c d e k _ _ => MU f a b c d e k) M3r (by rw [M33, C52]) (fun f hf => ?_) ?_ (Or.inl ⟨C52, by rw [C5j 5 (by decide) (by decide) (by decide)]; exact h5, a, n, C53, C54, hn, han, M34, M35, C12i⟩) ?_ ?_ ?_ ?_
  · rw [← hgc]
    obtain ⟨a, b, c⟩ := lc_vc_o (g := lc_pk gc s a n) hf
    rw [a, b, c]
    unfold lc_pk
    refine ⟨?_, ?_, ?_⟩ <;> rw [pu_uf (by decide), pu_uf (by decide), pu_uf (by decide), pu_uf (by decide), pu_ff (by decide)]
  · rw [← hgc]; exact lc_vc_a
  · by_cases e : a ≤ b ∧ b < a + n
    · exact C12i b e.1 e.2
    · rw [C12o b e]; exact hb
  · rw [← hgm]
    obtain ⟨a, b, c⟩ := lm_vc_o (g := lm_pk gm (be s) a n) hf
    rw [a, b, c]
    unfold lm_pk
    refine ⟨?_, ?_, ?_⟩ <;> rw [pu_uf (by decide), pu_uf (by decide), pu_uf (by decide)]
  · rw [← hgm]; exact lm_vc_a
  · have hin : ∀ r b, rl_in al gc' r b → (r ≠ s ∧ rl_in al gc r b) ∨ (r = s ∧ a ≤ b ∧ b < a + n) := fun r b z => by
      by_cases e : r = s
      · subst e
        obtain ⟨z1, z2, a', n', z3, z4, z5, z6, z7⟩ := z
        rw [C53] at z4
        rw [C54] at z5
        have := pu_inj (by omega) (by omega) z4
        have := pu_inj (by omega) (by omega) z5
        exact Or.inr ⟨rfl, by omega, by omega⟩
      · unfold rl_in at z
        rw [C5r r 2 e, C5r r 3 e, C5r r 4 e] at z
        exact Or.inl ⟨e, z⟩
    have hin' : ∀ r b, r ≠ s → rl_in al gc r b → rl_in al gc' r b := fun r b e z => by
      unfold rl_in
      rw [C5r r 2 e, C5r r 3 e, C5r r 4 e]
      exact z
    have hno : ∀ r b, r < 128 → rl_in al gc r b → ¬ (a ≤ b ∧ b < a + n) := fun r b hr z w => by
      have f0 := hfree b w.1 w.2
      obtain ⟨z1, z2, a', n', z3, z4, z5, z6, z7⟩ := z
      rcases (hsh r hr z1).2.2 with ⟨y, -⟩ | ⟨y, -⟩ | ⟨-, -, a2, n2, y1, y2, y3, y4, y5, y6, y7⟩ | ⟨y, -⟩
      · rw [y] at z2; exact absurd z2 (by decide)
      · rw [y] at z2; exact absurd z2 (by decide)
      · rw [y1] at z4
        rw [y2] at z5
        have e1 := pu_inj (by omega) (by omega) z4
        have e2 := pu_inj (by omega) (by omega) z5
        rw [y7 b (by omega) (by omega)] at f0
        exact absurd f0 (by decide)
      · rw [y] at z2; exact absurd z2 (by decide)
    refine ⟨fun b hb => ?_, fun r r' b hr hr' z z' => ?_⟩
    · by_cases e : a ≤ b ∧ b < a + n
      · exact Or.inr ⟨C12i b e.1 e.2, s, hs, ha, C52, a, n, han, C53, C54, e.1, e.2⟩
      · rw [C12o b e]
        rcases har.1 b hb with z | ⟨z, r, hr, z2⟩
        · exact Or.inl z
        · refine Or.inr ⟨z, r, hr, hin' r b (fun w => ?_) z2⟩
          rw [w] at z2
          have := z2.2.1
          rw [h2] at this
          exact absurd this (by decide)
    · rcases hin r b z with ⟨e, q⟩ | ⟨e, q⟩
      · rcases hin r' b z' with ⟨e', q'⟩ | ⟨e', q'⟩
        · exact har.2 r r' b hr hr' q q'
        · exact absurd q' (hno r b hr q)
      · rcases hin r' b z' with ⟨e', q'⟩ | ⟨e', q'⟩
        · exact absurd q (hno r' b hr' q')
        · rw [e, e']
  · unfold rl_pk
    have m37 := MU 37 (by decide) (by decide) (by decide) (by decide) (by decide) (by decide)
    have hcn : pu_cn (fun q => decide (gm' 37 0 q = 1 ∧ gm' 33 0 q = 2)) 130 = pu_cn (fun q => decide (gm 37 0 q = 1 ∧ gm 33 0 q = 2)) 130 + 1 :=
      pu_cn_up (k := be s) (decide_eq_false (fun z => by rw [hwh, h2] at z; exact absurd z.2 (by decide))) (decide_eq_true ⟨by rw [m37]; exact hbs.2, M33⟩) (fun j hj => by rw [m37, (M3r j hj).1]) 130 hbs.1
    rw [C11, hcn, hpk, nI_1]
  · intro j hj
    rw [CU 15 (by decide) (by decide) (by decide) (by decide) (by decide) (by decide), CU 16 (by decide) (by decide) (by decide) (by decide) (by decide) (by decide), CU 17 (by decide) (by decide) (by decide) (by decide) (by decide) (by decide), MU 41 (by decide) (by decide) (by decide) (by decide) (by decide) (by decide), MU 42 (by decide) (by decide) (by decide) (by decide) (by decide) (by decide), MU 43 (by decide) (by decide) (by decide) (by decide) (by decide) (by decide), MU 44 (by decide) (by decide) (by decide) (by decide) (by decide) (by decide)]
    obtain ⟨a1, a2, a3, a4, a5⟩ := hs1 j hj
    refine ⟨a1, a2, a3, a4, ?_⟩
    rcases a5 with z | z | ⟨z1, z2, r, hr, z3, z4, z5⟩
    · exact Or.inl z
    · exact Or.inr (Or.inl z)
    · exact Or.inr (Or.inr ⟨z1, z2, r, hr, z3, z4, by rw [C5a r 5 (by decide) (by decide) (by decide), C5a r 6 (by decide) (by decide) (by decide)]; exact z5⟩)
  · intro r hr hr2
    rw [C5a r 5 (by decide) (by decide) (by decide), C5a r 6 (by decide) (by decide) (by decide), MU 41 (by decide) (by decide) (by decide) (by decide) (by decide) (by decide)]
    exact hs2 r hr hr2
/-- C: into a slot l that was free -/
def lc_sl (g : am_S) (s l : Nat) : am_S := am_up (am_up (am_up (am_up g 15 0 l 1) 5 s 2 3) 5 s 3 (-1)) 5 s 5 (nI l)
def lm_sl (g : am_S) (q l : Nat) : am_S := am_up (am_up g 41 0 l (nI q)) 33 0 q 3
theorem rl_outC {ex : Nat} {be : Nat → Nat} {al : Nat → Bool} {gc gm : am_S} {s fo l : Nat} (h : rl_R ex be al gc gm) (hs : s < 128) (ha : al s = true) (hfo : fo < 10) (h2 : gc 5 s 2 = 1) (h3 : gc 5 s 3 = nI fo) (h8 : gc 8 0 fo = nI s) (h5 : gc 5 s 5 = -1) (hl : l < 24) (h15 : gc 15 0 l = 0) :
    rl_R ex be al (lc_vc (lc_sl gc s l) fo) (lm_vc (lm_sl gm (be s) l) fo) := by
  have hR := h
  obtain ⟨-, -, -, -, hal, -, -, hsh, -, -, har, hpk, hs1, hs2⟩ := h
  have hbs := hal.1 s hs ha
  have hwh := (hsh s hs ha).1
  have h6 : gc 5 s 6 = -1 := by
    rcases hs2 s hs ha with ⟨-, z⟩ | ⟨k, z1, z2, -⟩
    · exact z
    · rw [h5] at z2; exact absurd z2.symm (pu_m1 (by omega))
  generalize hgc : lc_vc (lc_sl gc s l) fo = gc'
  generalize hgm : lm_vc (lm_sl gm (be s) l) fo = gm'
  have CU : ∀ f, f ≠ 5 → f ≠ 8 → f ≠ 9 → f ≠ 10 → f ≠ 15 → gc' f = gc f := fun f a b c d e => by rw [← hgc, lc_vc_f b c d]; unfold lc_sl; rw [pu_uf a, pu_uf a, pu_uf a, pu_uf e]
  have C5 : gc' 5 = (lc_sl gc s l) 5 := by rw [← hgc]; exact lc_vc_f (by decide) (by decide) (by decide)
  have C5r : ∀ r j, r ≠ s → gc' 5 r j = gc 5 r j := fun r j hr => by rw [C5]; unfold lc_sl; rw [pu_ui hr, pu_ui hr, pu_ui hr, pu_uf (by decide)]
  have C52 : gc' 5 s 2 = 3 := by rw [C5]; unfold lc_sl; rw [pu_uj (by decide), pu_uj (by decide), pu_us]
  have C55 : gc' 5 s 5 = nI l := by rw [C5]; unfold lc_sl; rw [pu_us]
  have C56 : gc' 5 s 6 = -1 := by rw [C5]; unfold lc_sl; rw [pu_uj (by decide), pu_uj (by decide), pu_uj (by decide), pu_uf (by decide)]; exact h6
  have C51 : gc' 5 s 1 = gc 5 s 1 := by rw [C5]; unfold lc_sl; rw [pu_uj (by decide), pu_uj (by decide), pu_uj (by decide), pu_uf (by decide)]
  have C15 : gc' 15 = (am_up gc 15 0 l 1) 15 := by rw [← hgc, lc_vc_f (by decide) (by decide) (by decide)]; unfold lc_sl; rw [pu_uf (by decide), pu_uf (by decide), pu_uf (by decide)]
  have MU : ∀ f, f ≠ 33 → f ≠ 41 → f ≠ 38 → f ≠ 39 → f ≠ 40 → gm' f = gm f := fun f a b c d e => by rw [← hgm, lm_vc_f c d e]; unfold lm_sl; rw [pu_uf a, pu_uf b]
  have M33 : gm' 33 = (am_up gm 33 0 (be s) 3) 33 := by
    rw [← hgm, lm_vc_f (by decide) (by decide) (by decide)]
    unfold lm_sl
    funext i j
    rw [pu_ub, pu_ub, pu_uf (by decide)]
  have M41 : gm' 41 = (am_up gm 41 0 l (nI (be s))) 41 := by rw [← hgm, lm_vc_f (by decide) (by decide) (by decide)]; unfold lm_sl; rw [pu_uf (by decide)]
  have M33r : ∀ r, r ≠ be s → gm' 33 0 r = gm 33 0 r := fun r hr => by rw [M33, pu_uj hr]
  have M33s : gm' 33 0 (be s) = 3 := by rw [M33, pu_us]
  have C12 := CU 12 (by decide) (by decide) (by decide) (by decide) (by decide)
  refine rl_out_R hR hs ha hfo h2 h3 h8 (fun f a b c d _ _ e => CU f a b c d e) C5r C51 (fun f hf => ?_) ?_ (fun b hb => by rw [C12]; exact hb) (fun f a _ _ b c d e _ => MU f a e b c d) (fun r hr => ⟨M33r r hr, by rw [MU 34 (by decide) (by decide) (by decide) (by decide) (by decide)], by rw [MU 35 (by decide) (by decide) (by decide) (by decide) (by decide)]⟩) (by rw [M33s, C52]) (fun f hf => ?_) ?_ (Or.inr ⟨C52, l, hl, C55⟩) ?_ ?_ ?_ ?_
  · rw [← hgc]
    obtain ⟨a, b, c⟩ := lc_vc_o (g := lc_sl gc s l) hf
    rw [a, b, c]
    unfold lc_sl
    refine ⟨?_, ?_, ?_⟩ <;> rw [pu_uf (by decide), pu_uf (by decide), pu_uf (by decide), pu_uf (by decide)]
  · rw [← hgc]; exact lc_vc_a
  · rw [← hgm]
    obtain ⟨a, b, c⟩ := lm_vc_o (g := lm_sl gm (be s) l) hf
    rw [a, b, c]
    unfold lm_sl
    refine ⟨?_, ?_, ?_⟩ <;> rw [pu_uf (by decide), pu_uf (by decide)]
  · rw [← hgm]; exact lm_vc_a
  · exact rl_ar_no har C5r C12 (by rw [h2]; decide) (by rw [C52]; decide)
  · exact rl_pk_no hpk (CU 11 (by decide) (by decide) (by decide) (by decide) (by decide)) (MU 37 (by decide) (by decide) (by decide) (by decide) (by decide)) M33r (by rw [hwh, h2]; decide) (by rw [M33s]; decide)
  · intro j hj
    rw [CU 16 (by decide) (by decide) (by decide) (by decide) (by decide), CU 17 (by decide) (by decide) (by decide) (by decide) (by decide), MU 42 (by decide) (by decide) (by decide) (by decide) (by decide), MU 43 (by decide) (by decide) (by decide) (by decide) (by decide), MU 44 (by decide) (by decide) (by decide) (by decide) (by decide), M41, C15, pu_ub, pu_ub]
    obtain ⟨a1, a2, a3, a4, a5⟩ := hs1 j hj
    refine ⟨a1, a2, a3, a4, ?_⟩
    by_cases e : j = l
    · subst e
      rw [if_pos ⟨rfl, rfl⟩, if_pos ⟨rfl, rfl⟩]
      refine Or.inr (Or.inr ⟨rfl, ?_, s, hs, ha, rfl, Or.inl C55⟩)
      rcases a5 with ⟨-, z, -⟩ | ⟨z, -⟩ | ⟨z, -⟩
      · exact z
      · rw [h15] at z; exact absurd z (by decide)
      · rw [h15] at z; exact absurd z (by decide)
    · rw [if_neg (fun z => e z.2), if_neg (fun z => e z.2)]
      rcases a5 with z | z | ⟨z1, z2, r, hr, z3, z4, z5⟩
      · exact Or.inl z
      · exact Or.inr (Or.inl z)
      · have hne : r ≠ s := fun w => by
          subst w
          rw [h5, h6] at z5
          rcases z5 with z5 | z5 <;> exact absurd z5.symm (pu_m1 (by omega))
        exact Or.inr (Or.inr ⟨z1, z2, r, hr, z3, z4, by rw [C5r r 5 hne, C5r r 6 hne]; exact z5⟩)
  · intro r hr hr2
    rw [M41]
    by_cases e : r = s
    · subst e
      rw [C55, C56]
      exact Or.inr ⟨l, hl, rfl, pu_us, Or.inl rfl⟩
    · rw [C5r r 5 e, C5r r 6 e]
      have hl41 : ∀ k, k < 24 → gm 41 0 k = nI (be r) → am_up gm 41 0 l (nI (be s)) 41 0 k = nI (be r) := fun k hk z => by
        rw [pu_ub]
        by_cases w : k = l
        · subst w
          rcases (hs1 k hk).2.2.2.2 with ⟨-, -, y, -⟩ | ⟨y, -⟩ | ⟨y, -⟩
          · rw [z] at y; exact absurd y (pu_m1 (by have := (hal.1 r hr hr2).1; omega))
          · rw [h15] at y; exact absurd y (by decide)
          · rw [h15] at y; exact absurd y (by decide)
        · rw [if_neg (fun y => w y.2)]; exact z
      rcases hs2 r hr hr2 with z | ⟨k, z1, z2, z3, z4 | ⟨k', w1, w2, w3, w4⟩⟩
      · exact Or.inl z
      · exact Or.inr ⟨k, z1, z2, hl41 k z1 z3, Or.inl z4⟩
      · exact Or.inr ⟨k, z1, z2, hl41 k z1 z3, Or.inr ⟨k', w1, w2, w3, hl41 k' w2 w4⟩⟩
/-- a second slot -/
theorem rl_upper_R {ex : Nat} {be : Nat → Nat} {al : Nat → Bool} {gc gm : am_S} {s l l2 : Nat} (h : rl_R ex be al gc gm) (hs : s < 128) (ha : al s = true) (h5 : gc 5 s 5 = nI l) (h6 : gc 5 s 6 = -1) (hll : l < l2) (hl : l2 < 24) (h15 : gc 15 0 l2 = 0) :
    rl_R ex be al (am_up (am_up gc 15 0 l2 1) 5 s 6 (nI l2)) (am_up gm 41 0 l2 (nI (be s))) := by
  obtain ⟨htk, hrg, hpg, hmp, hal, hdd, hsp, hsh, hfr, hhd, har, hpk, hs1, hs2⟩ := h
  have C : ∀ f, f ≠ 15 → f ≠ 5 → (am_up (am_up gc 15 0 l2 1) 5 s 6 (nI l2)) f = gc f := fun f a b => by rw [pu_uf b, pu_uf a]
  have C5j : ∀ r j, j ≠ 6 → (am_up (am_up gc 15 0 l2 1) 5 s 6 (nI l2)) 5 r j = gc 5 r j := fun r j a => by rw [pu_uj a, pu_uf (by decide)]
  have C5r : ∀ r j, r ≠ s → (am_up (am_up gc 15 0 l2 1) 5 s 6 (nI l2)) 5 r j = gc 5 r j := fun r j a => by rw [pu_ui a, pu_uf (by decide)]
  have C56 : (am_up (am_up gc 15 0 l2 1) 5 s 6 (nI l2)) 5 s 6 = nI l2 := pu_us
  have C15 : (am_up (am_up gc 15 0 l2 1) 5 s 6 (nI l2)) 15 = am_up gc 15 0 l2 1 15 := pu_uf (by decide)
  have M : ∀ f, f ≠ 41 → (am_up gm 41 0 l2 (nI (be s))) f = gm f := fun f a => pu_uf a
  generalize am_up (am_up gc 15 0 l2 1) 5 s 6 (nI l2) = gc' at C C5j C5r C56 C15
  refine ⟨?_, ?_, ?_, ?_, ?_, ?_, ?_, ?_, ?_, ?_, ?_, ?_, ?_, ?_⟩
  · unfold rl_tk; rw [C 19 (by decide) (by decide), C 23 (by decide) (by decide), M 25 (by decide), M 26 (by decide), M 27 (by decide)]; exact htk
  · unfold rl_rg; rw [C 19 (by decide) (by decide), C 20 (by decide) (by decide), C 21 (by decide) (by decide), M 28 (by decide), M 29 (by decide), M 30 (by decide)]; exact hrg
  · unfold rl_pg; rw [C 22 (by decide) (by decide), C 23 (by decide) (by decide), M 31 (by decide), M 32 (by decide)]; exact hpg
  · intro r hr; rw [rl_pc_congr (C 23 (by decide) (by decide)), C5j r 1 (by decide)]; exact hmp r hr
  · unfold rl_al; rw [M 37 (by decide)]; exact hal
  · intro r hr hr2
    have e : r ≠ s := fun w => by rw [w, ha] at hr2; cases hr2
    rw [C5r r 2 e, C5r r 3 e, C5r r 4 e, C5r r 5 e, C5r r 6 e, C 6 (by decide) (by decide)]; exact hdd r hr hr2
  · unfold rl_sp; rw [C 2 (by decide) (by decide), C 4 (by decide) (by decide)]; exact hsp
  · intro r hr hr2
    rw [C5j r 2 (by decide), C5j r 3 (by decide), C5j r 4 (by decide), C5j r 5 (by decide), C 6 (by decide) (by decide), C 8 (by decide) (by decide), C 10 (by decide) (by decide), C 12 (by decide) (by decide), M 33 (by decide), M 34 (by decide), M 35 (by decide), M 36 (by decide)]; exact hsh r hr hr2
  · intro f hf
    rw [C 8 (by decide) (by decide), C 9 (by decide) (by decide), C 10 (by decide) (by decide), M 38 (by decide), M 39 (by decide), M 40 (by decide)]
    obtain ⟨a1, a2, a3, a4, a5, a6, a7, a8⟩ := hfr f hf
    refine ⟨a1, a2, a3, a4, a5, a6, a7, fun r hr z => ?_⟩
    rw [C5j r 2 (by decide), C5j r 3 (by decide)]; exact a8 r hr z
  · unfold rl_hd; rw [C 7 (by decide) (by decide), M 24 (by decide)]; exact hhd
  · have hin : ∀ r b, rl_in al gc' r b ↔ rl_in al gc r b := fun r b => by
      unfold rl_in
      rw [C5j r 2 (by decide), C5j r 3 (by decide), C5j r 4 (by decide)]
    refine ⟨fun b hb => ?_, fun r r' b hr hr' z z' => har.2 r r' b hr hr' ((hin r b).mp z) ((hin r' b).mp z')⟩
    rw [C 12 (by decide) (by decide)]
    rcases har.1 b hb with z | ⟨z, r, hr, z2⟩
    · exact Or.inl z
    · exact Or.inr ⟨z, r, hr, (hin r b).mpr z2⟩
  · unfold rl_pk; rw [C 11 (by decide) (by decide), M 33 (by decide), M 37 (by decide)]; exact hpk
  · intro j hj
    rw [C 16 (by decide) (by decide), C 17 (by decide) (by decide), C15, M 42 (by decide), M 43 (by decide), M 44 (by decide), pu_ub, pu_ub]
    obtain ⟨a1, a2, a3, a4, a5⟩ := hs1 j hj
    refine ⟨a1, a2, a3, a4, ?_⟩
    by_cases e : j = l2
    · subst e
      rw [if_pos ⟨rfl, rfl⟩, if_pos ⟨rfl, rfl⟩]
      refine Or.inr (Or.inr ⟨rfl, ?_, s, hs, ha, rfl, Or.inr C56⟩)
      rcases a5 with ⟨-, z, -⟩ | ⟨z, -⟩ | ⟨z, -⟩
      · exact z
      · rw [h15] at z; exact absurd z (by decide)
      · rw [h15] at z; exact absurd z (by decide)
    · rw [if_neg (fun z => e z.2), if_neg (fun z => e z.2)]
      rcases a5 with z | z | ⟨z1, z2, r, hr, z3, z4, z5⟩
      · exact Or.inl z
      · exact Or.inr (Or.inl z)
      · refine Or.inr (Or.inr ⟨z1, z2, r, hr, z3, z4, ?_⟩)
        by_cases w : r = s
        · subst w
          rw [h6] at z5
          rcases z5 with z5 | z5
          · exact Or.inl (by rw [C5j r 5 (by decide)]; exact z5)
          · exact absurd z5.symm (pu_m1 (by omega))
        · rw [C5r r 5 w, C5r r 6 w]; exact z5
  · intro r hr hr2
    have hl41 : ∀ k, k < 24 → gm 41 0 k = nI (be r) → am_up gm 41 0 l2 (nI (be s)) 41 0 k = nI (be r) := fun k hk z => by
      rw [pu_ub]
      by_cases w : k = l2
      · subst w
        rcases (hs1 k hk).2.2.2.2 with ⟨-, -, y, -⟩ | ⟨y, -⟩ | ⟨y, -⟩
        · rw [z] at y; exact absurd y (pu_m1 (by have := (hal.1 r hr hr2).1; omega))
        · rw [h15] at y; exact absurd y (by decide)
        · rw [h15] at y; exact absurd y (by decide)
      · rw [if_neg (fun y => w y.2)]; exact z
    by_cases e : r = s
    · subst e
      rw [C5j r 5 (by decide), C56]
      rcases hs2 r hr hr2 with ⟨z, -⟩ | ⟨k, z1, z2, z3, z4⟩
      · rw [h5] at z; exact absurd z (pu_m1 (by omega))
      · have : k = l := by rw [h5] at z2; exact (pu_inj (by omega) (by omega) z2).symm
        subst this
        exact Or.inr ⟨k, z1, z2, hl41 k z1 z3, Or.inr ⟨l2, hll, hl, rfl, pu_us⟩⟩
    · rw [C5r r 5 e, C5r r 6 e]
      rcases hs2 r hr hr2 with z | ⟨k, z1, z2, z3, z4 | ⟨k', w1, w2, w3, w4⟩⟩
      · exact Or.inl z
      · exact Or.inr ⟨k, z1, z2, hl41 k z1 z3, Or.inl z4⟩
      · exact Or.inr ⟨k, z1, z2, hl41 k z1 z3, Or.inr ⟨k', w1, w2, w3, hl41 k' w2 w4⟩⟩
