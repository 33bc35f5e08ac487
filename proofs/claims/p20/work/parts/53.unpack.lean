/-! a sheet leaves the pool: as if it were ABSENT, with its words -/
def lc_ab (g : am_S) (s a n : Nat) : am_S := am_up (am_up (lc_up g s a n) 5 s 2 0) 5 s 3 (-1)
theorem rl_unpack_R {ex : Nat} {be : Nat → Nat} {al : Nat → Bool} {gc gm : am_S} {s a n : Nat} (h : rl_R ex be al gc gm) (hs : s < 128) (ha : al s = true) (h2 : gc 5 s 2 = 2) (h3 : gc 5 s 3 = nI a) (h4 : gc 5 s 4 = nI n) (hn : 1 ≤ n) (han : a + n ≤ 64) :
    rl_R ex be al (lc_ab gc s a n) (am_up gm 33 0 (be s) 0) := by
  obtain ⟨htk, hrg, hpg, hmp, hal, hdd, hsp, hsh, hfr, hhd, har, hpk, hs1, hs2⟩ := h
  have hbs := hal.1 s hs ha
  obtain ⟨hwh, hwd, hpl⟩ := hsh s hs ha
  have h5 : gc 5 s 5 = -1 := by
    rcases hpl with ⟨z, -⟩ | ⟨z, -⟩ | ⟨-, z, -⟩ | ⟨z, -⟩
    · rw [h2] at z; exact absurd z (by decide)
    · rw [h2] at z; exact absurd z (by decide)
    · exact z
    · rw [h2] at z; exact absurd z (by decide)
  have C : ∀ c, c ≠ 5 → c ≠ 11 → c ≠ 12 → (lc_ab gc s a n) c = gc c := fun c x y z => by unfold lc_ab lc_up; rw [pu_uf x, pu_uf x, pu_uf x, pu_uf y, pu_ff z]
  have C5r : ∀ r j, r ≠ s → (lc_ab gc s a n) 5 r j = gc 5 r j := fun r j hr => by unfold lc_ab lc_up; rw [pu_ui hr, pu_ui hr, pu_ui hr, pu_uf (by decide), pu_ff (by decide)]
  have C5j : ∀ r j, j ≠ 2 → j ≠ 3 → j ≠ 4 → (lc_ab gc s a n) 5 r j = gc 5 r j := fun r j x y z => by unfold lc_ab lc_up; rw [pu_uj y, pu_uj x, pu_uj z, pu_uf (by decide), pu_ff (by decide)]
  have C52 : (lc_ab gc s a n) 5 s 2 = 0 := by unfold lc_ab; rw [pu_uj (by decide), pu_us]
  have C53 : (lc_ab gc s a n) 5 s 3 = -1 := by unfold lc_ab; rw [pu_us]
  have C12i : ∀ b, a ≤ b → b < a + n → (lc_ab gc s a n) 12 0 b = 0 := fun b x y => by unfold lc_ab lc_up; rw [pu_uf (by decide), pu_uf (by decide), pu_uf (by decide), pu_uf (by decide), pu_fin x y]
  have C12o : ∀ b, ¬ (a ≤ b ∧ b < a + n) → (lc_ab gc s a n) 12 0 b = gc 12 0 b := fun b x => by unfold lc_ab lc_up; rw [pu_uf (by decide), pu_uf (by decide), pu_uf (by decide), pu_uf (by decide), pu_fout (by omega)]
  have C11 : (lc_ab gc s a n) 11 0 2 = gc 11 0 2 - 1 := by unfold lc_ab lc_up; rw [pu_uf (by decide), pu_uf (by decide), pu_uf (by decide), pu_us]
  have M : ∀ c, c ≠ 33 → (am_up gm 33 0 (be s) 0) c = gm c := fun c x => pu_uf x
  have M33 : ∀ r, r ≠ be s → (am_up gm 33 0 (be s) 0) 33 0 r = gm 33 0 r := fun r hr => pu_uj hr
  have M33s : (am_up gm 33 0 (be s) 0) 33 0 (be s) = 0 := pu_us
  have bne : ∀ r, r < 128 → al r = true → r ≠ s → be r ≠ be s := fun r hr har hne z => hne (hal.2.1 r s hr hs har ha z)
  generalize lc_ab gc s a n = gc' at C C5r C5j C52 C53 C12i C12o C11
  generalize am_up gm 33 0 (be s) 0 = gm' at M M33 M33s
  have c : ∀ k, (k ≠ 5 ∧ k ≠ 11 ∧ k ≠ 12) → gc' k = gc k := fun k hk => C k hk.1 hk.2.1 hk.2.2
  have hin : ∀ r b, rl_in al gc' r b → r ≠ s ∧ rl_in al gc r b := fun r b z => by
    have hne : r ≠ s := fun w => by have := z.2.1; rw [w, C52] at this; exact absurd this (by decide)
    refine ⟨hne, ?_⟩
    unfold rl_in at z
    rw [C5r r 2 hne, C5r r 3 hne, C5r r 4 hne] at z
    exact z
  have hin' : ∀ r b, r ≠ s → rl_in al gc r b → rl_in al gc' r b := fun r b hne z => by
    unfold rl_in
    rw [C5r r 2 hne, C5r r 3 hne, C5r r 4 hne]
    exact z
  have sin : ∀ b, a ≤ b → b < a + n → rl_in al gc s b := fun b x y => ⟨ha, h2, a, n, han, h3, h4, x, y⟩
  refine ⟨?_, ?_, ?_, ?_, ?_, ?_, ?_, ?_, ?_, ?_, ?_, ?_, ?_, ?_⟩
  · unfold rl_tk; rw [c 19 (by decide), c 23 (by decide), M 25 (by decide), M 26 (by decide), M 27 (by decide)]; exact htk
  · unfold rl_rg; rw [c 19 (by decide), c 20 (by decide), c 21 (by decide), M 28 (by decide), M 29 (by decide), M 30 (by decide)]; exact hrg
  · unfold rl_pg; rw [c 22 (by decide), c 23 (by decide), M 31 (by decide), M 32 (by decide)]; exact hpg
  · intro r hr; rw [rl_pc_congr (c 23 (by decide)), C5j r 1 (by decide) (by decide) (by decide)]; exact hmp r hr
  · unfold rl_al; rw [M 37 (by decide)]; exact hal
  · intro r hr hr2
    have e : r ≠ s := fun w => by rw [w, ha] at hr2; cases hr2
    rw [C5r r 2 e, C5r r 3 e, C5r r 4 e, C5r r 5 e, C5r r 6 e, c 6 (by decide)]
    exact hdd r hr hr2
  · unfold rl_sp; rw [c 2 (by decide), c 4 (by decide)]; exact hsp
  · intro r hr hr2
    rw [c 6 (by decide), c 8 (by decide), c 10 (by decide), M 34 (by decide), M 35 (by decide), M 36 (by decide)]
    by_cases e : r = s
    · subst e
      rw [M33s, C52, C53, C5j r 5 (by decide) (by decide) (by decide)]
      exact ⟨rfl, hwd, Or.inl ⟨rfl, rfl, h5⟩⟩
    · rw [M33 (be r) (bne r hr hr2 e), C5r r 2 e, C5r r 3 e, C5r r 4 e, C5r r 5 e]
      obtain ⟨a1, a2, a3⟩ := hsh r hr hr2
      refine ⟨a1, a2, ?_⟩
      rcases a3 with z | z | ⟨z1, z2, a', n', z3, z4, z5, z6, z7, z8, z9⟩ | z
      · exact Or.inl z
      · exact Or.inr (Or.inl z)
      · refine Or.inr (Or.inr (Or.inl ⟨z1, z2, a', n', z3, z4, z5, z6, z7, z8, fun b b1 b2 => ?_⟩))
        have hx : ¬ (a ≤ b ∧ b < a + n) := fun w => e (har.2 r s b hr hs ⟨hr2, z1, a', n', z6, z3, z4, b1, b2⟩ (sin b w.1 w.2))
        rw [C12o b hx]; exact z9 b b1 b2
      · exact Or.inr (Or.inr (Or.inr z))
  · intro f hf
    rw [c 8 (by decide), c 9 (by decide), c 10 (by decide), M 38 (by decide), M 39 (by decide), M 40 (by decide)]
    obtain ⟨a1, a2, a3, a4, a5, a6, a7, a8⟩ := hfr f hf
    refine ⟨a1, a2, a3, a4, a5, a6, a7, fun r hr z => ?_⟩
    have e : r ≠ s := fun w => by have := (a8 r hr z).2.1; rw [w, h2] at this; exact absurd this (by decide)
    rw [C5r r 2 e, C5r r 3 e]; exact a8 r hr z
  · unfold rl_hd; rw [c 7 (by decide), M 24 (by decide)]; exact hhd
  · refine ⟨fun b hb => ?_, fun r r' b hr hr' z z' => har.2 r r' b hr hr' (hin r b z).2 (hin r' b z').2⟩
    by_cases e : a ≤ b ∧ b < a + n
    · exact Or.inl (C12i b e.1 e.2)
    · rw [C12o b e]
      rcases har.1 b hb with z | ⟨z, r, hr, y⟩
      · exact Or.inl z
      · refine Or.inr ⟨z, r, hr, hin' r b (fun w => e ?_) y⟩
        rw [w] at y
        obtain ⟨-, -, a', n', y1, y2, y3, y4, y5⟩ := y
        rw [h3] at y2
        rw [h4] at y3
        have := pu_inj (by omega) (by omega) y2
        have := pu_inj (by omega) (by omega) y3
        omega
  · have hcn : pu_cn (fun q => decide (gm 37 0 q = 1 ∧ gm 33 0 q = 2)) 130 = pu_cn (fun q => decide (gm' 37 0 q = 1 ∧ gm' 33 0 q = 2)) 130 + 1 :=
      pu_cn_up (k := be s) (decide_eq_false (fun z => by rw [M33s] at z; exact absurd z.2 (by decide))) (decide_eq_true ⟨hbs.2, by rw [hwh]; exact h2⟩) (fun j hj => by rw [M 37 (by decide), M33 j hj]) 130 hbs.1
    unfold rl_pk
    rw [C11, hpk, hcn, nI_pred]
  · intro k hk
    rw [c 15 (by decide), c 16 (by decide), c 17 (by decide), M 41 (by decide), M 42 (by decide), M 43 (by decide), M 44 (by decide)]
    obtain ⟨a1, a2, a3, a4, a5⟩ := hs1 k hk
    refine ⟨a1, a2, a3, a4, ?_⟩
    rcases a5 with z | z | ⟨z1, z2, r, hr, z3, z4, z5⟩
    · exact Or.inl z
    · exact Or.inr (Or.inl z)
    · exact Or.inr (Or.inr ⟨z1, z2, r, hr, z3, z4, by rw [C5j r 5 (by decide) (by decide) (by decide), C5j r 6 (by decide) (by decide) (by decide)]; exact z5⟩)
  · intro r hr hr2
    rw [C5j r 5 (by decide) (by decide) (by decide), C5j r 6 (by decide) (by decide) (by decide), M 41 (by decide)]
    exact hs2 r hr hr2
