/-! a sheet leaves its frame -/
theorem rl_out_R {ex : Nat} {be : Nat → Nat} {al : Nat → Bool} {gc gm gc' gm' : am_S} {s fo : Nat} (h : rl_R ex be al gc gm) (hs : s < 128) (ha : al s = true) (hfo : fo < 10) (h2 : gc 5 s 2 = 1) (h3 : gc 5 s 3 = nI fo) (h8 : gc 8 0 fo = nI s)
    (cu : ∀ f, f ≠ 5 → f ≠ 8 → f ≠ 9 → f ≠ 10 → f ≠ 11 → f ≠ 12 → f ≠ 15 → gc' f = gc f) (c5 : ∀ r j, r ≠ s → gc' 5 r j = gc 5 r j) (c51 : gc' 5 s 1 = gc 5 s 1)
    (c8 : ∀ f, f ≠ fo → gc' 8 0 f = gc 8 0 f ∧ gc' 9 0 f = gc 9 0 f ∧ gc' 10 0 f = gc 10 0 f) (c8f : gc' 8 0 fo = -1 ∧ gc' 9 0 fo = 0 ∧ gc' 10 0 fo = 0) (c12 : ∀ b, gc 12 0 b = 1 → gc' 12 0 b = 1)
    (mu : ∀ f, f ≠ 33 → f ≠ 34 → f ≠ 35 → f ≠ 38 → f ≠ 39 → f ≠ 40 → f ≠ 41 → f ≠ 42 → gm' f = gm f) (m3 : ∀ r, r ≠ be s → gm' 33 0 r = gm 33 0 r ∧ gm' 34 0 r = gm 34 0 r ∧ gm' 35 0 r = gm 35 0 r) (m33 : gm' 33 0 (be s) = gc' 5 s 2)
    (m8 : ∀ f, f ≠ fo → gm' 38 0 f = gm 38 0 f ∧ gm' 39 0 f = gm 39 0 f ∧ gm' 40 0 f = gm 40 0 f) (m8f : gm' 38 0 fo = -1 ∧ gm' 39 0 fo = 0 ∧ gm' 40 0 fo = 0)
    (hpl : (gc' 5 s 2 = 2 ∧ gc' 5 s 5 = -1 ∧ ∃ a n, gc' 5 s 3 = nI a ∧ gc' 5 s 4 = nI n ∧ 1 ≤ n ∧ a + n ≤ 64 ∧ gm' 34 0 (be s) = nI a ∧ gm' 35 0 (be s) = nI n ∧ ∀ b, a ≤ b → b < a + n → gc' 12 0 b = 1) ∨ (gc' 5 s 2 = 3 ∧ ∃ k, k < 24 ∧ gc' 5 s 5 = nI k))
    (har' : rl_ar al gc') (hpk' : rl_pk gc' gm') (hs1' : rl_s1 be al gc' gm') (hs2' : rl_s2 be al gc' gm') : rl_R ex be al gc' gm' := by
  obtain ⟨htk, hrg, hpg, hmp, hal, hdd, hsp, hsh, hfr, hhd, har, hpk, hs1, hs2⟩ := h
  have c6 := cu 6 (by decide) (by decide) (by decide) (by decide) (by decide) (by decide) (by decide)
  have c19 := cu 19 (by decide) (by decide) (by decide) (by decide) (by decide) (by decide) (by decide)
  have c20 := cu 20 (by decide) (by decide) (by decide) (by decide) (by decide) (by decide) (by decide)
  have c21 := cu 21 (by decide) (by decide) (by decide) (by decide) (by decide) (by decide) (by decide)
  have c22 := cu 22 (by decide) (by decide) (by decide) (by decide) (by decide) (by decide) (by decide)
  have c23 := cu 23 (by decide) (by decide) (by decide) (by decide) (by decide) (by decide) (by decide)
  have c2 := cu 2 (by decide) (by decide) (by decide) (by decide) (by decide) (by decide) (by decide)
  have c4 := cu 4 (by decide) (by decide) (by decide) (by decide) (by decide) (by decide) (by decide)
  have c7 := cu 7 (by decide) (by decide) (by decide) (by decide) (by decide) (by decide) (by decide)
  have M : ∀ f, (f = 24 ∨ f = 25 ∨ f = 26 ∨ f = 27 ∨ f = 28 ∨ f = 29 ∨ f = 30 ∨ f = 31 ∨ f = 32 ∨ f = 36 ∨ f = 37) → gm' f = gm f := fun f hf => mu f (by omega) (by omega) (by omega) (by omega) (by omega) (by omega) (by omega) (by omega)
  have bne : ∀ r, r < 128 → al r = true → r ≠ s → be r ≠ be s := fun r hr har hne z => hne (hal.2.1 r s hr hs har ha z)
  refine ⟨?_, ?_, ?_, ?_, ?_, ?_, ?_, ?_, ?_, ?_, har', hpk', hs1', hs2'⟩
  · intro t ht hne
    rw [c19, c23, M 25 (by decide), M 26 (by decide), M 27 (by decide)]
    exact htk t ht hne
  · intro t ht
    rw [c19, c20, c21, M 28 (by decide), M 29 (by decide), M 30 (by decide)]
    exact hrg t ht
  · unfold rl_pg
    rw [c22, c23, M 31 (by decide), M 32 (by decide)]
    exact hpg
  · intro r hr
    rw [rl_pc_congr c23]
    by_cases e : r = s
    · subst e; rw [c51]; exact hmp r hr
    · rw [c5 r 1 e]; exact hmp r hr
  · unfold rl_al
    rw [M 37 (by decide)]
    exact hal
  · intro r hr hr2
    have e : r ≠ s := fun w => by rw [w, ha] at hr2; cases hr2
    rw [c5 r 2 e, c5 r 3 e, c5 r 4 e, c5 r 5 e, c5 r 6 e, c6]
    exact hdd r hr hr2
  · unfold rl_sp
    rw [c2, c4]
    exact hsp
  · intro r hr hr2
    rw [c6, M 36 (by decide)]
    by_cases e : r = s
    · subst e
      refine ⟨m33, (hsh r hr hr2).2.1, Or.inr (Or.inr ?_)⟩
      rcases hpl with z | z
      · exact Or.inl z
      · exact Or.inr z
    · obtain ⟨a1, a2, a3⟩ := hsh r hr hr2
      obtain ⟨b1, b2, b3⟩ := m3 (be r) (bne r hr hr2 e)
      rw [c5 r 2 e, c5 r 3 e, c5 r 4 e, c5 r 5 e, b1, b2, b3]
      refine ⟨a1, a2, ?_⟩
      rcases a3 with z | ⟨z1, f, z2, z3, z4, z5⟩ | ⟨z1, z2, a, n, z3, z4, z5, z6, z7, z8, z9⟩ | z
      · exact Or.inl z
      · have hne : f ≠ fo := fun w => by
          rw [w, h8] at z4
          exact e (pu_inj (by omega) (by omega) z4).symm
        refine Or.inr (Or.inl ⟨z1, f, z2, z3, ?_, ?_⟩)
        · rw [(c8 f hne).1]; exact z4
        · rw [(c8 f hne).2.2]; exact z5
      · exact Or.inr (Or.inr (Or.inl ⟨z1, z2, a, n, z3, z4, z5, z6, z7, z8, fun b b1 b2 => c12 b (z9 b b1 b2)⟩))
      · exact Or.inr (Or.inr (Or.inr z))
  · intro f hf
    by_cases e : f = fo
    · subst e
      rw [c8f.1, c8f.2.1, c8f.2.2, m8f.1, m8f.2.1, m8f.2.2]
      exact ⟨Or.inl rfl, rl_bi_m.symm, rfl, rfl, Or.inl rfl, Or.inl rfl, fun _ => ⟨rfl, rfl⟩, fun r hr z => absurd z.symm (pu_m1 (by omega))⟩
    · obtain ⟨x1, x2, x3⟩ := c8 f e
      obtain ⟨y1, y2, y3⟩ := m8 f e
      rw [x1, x2, x3, y1, y2, y3]
      obtain ⟨a1, a2, a3, a4, a5, a6, a7, a8⟩ := hfr f hf
      refine ⟨a1, a2, a3, a4, a5, a6, a7, fun r hr z => ?_⟩
      obtain ⟨b1, b2, b3⟩ := a8 r hr z
      have hne : r ≠ s := fun w => by
        subst w
        rw [h3] at b3
        exact e (pu_inj (by omega) (by omega) b3).symm
      exact ⟨b1, by rw [c5 r 2 hne]; exact b2, by rw [c5 r 3 hne]; exact b3⟩
  · unfold rl_hd
    rw [c7, M 24 (by decide)]
    exact hhd
/-- the bytes of the pool, when s is in it neither before nor after -/
theorem rl_ar_no {al : Nat → Bool} {gc gc' : am_S} {s : Nat} (har : rl_ar al gc) (c5 : ∀ r j, r ≠ s → gc' 5 r j = gc 5 r j) (c12 : gc' 12 = gc 12) (h : ¬ gc 5 s 2 = 2) (h' : ¬ gc' 5 s 2 = 2) : rl_ar al gc' := by
  have hin : ∀ r b, rl_in al gc' r b → r ≠ s ∧ rl_in al gc r b := fun r b z => by
    have hne : r ≠ s := fun w => h' (by rw [← w]; exact z.2.1)
    refine ⟨hne, ?_⟩
    unfold rl_in at z
    rw [c5 r 2 hne, c5 r 3 hne, c5 r 4 hne] at z
    exact z
  have hin' : ∀ r b, rl_in al gc r b → rl_in al gc' r b := fun r b z => by
    have hne : r ≠ s := fun w => h (by rw [← w]; exact z.2.1)
    unfold rl_in
    rw [c5 r 2 hne, c5 r 3 hne, c5 r 4 hne]
    exact z
  refine ⟨fun b hb => ?_, fun r r' b hr hr' z z' => har.2 r r' b hr hr' (hin r b z).2 (hin r' b z').2⟩
  rw [c12]
  rcases har.1 b hb with z | ⟨z, r, hr, z2⟩
  · exact Or.inl z
  · exact Or.inr ⟨z, r, hr, hin' r b z2⟩
theorem rl_pk_no {gc gm gc' gm' : am_S} {q : Nat} (hpk : rl_pk gc gm) (c11 : gc' 11 = gc 11) (m37 : gm' 37 = gm 37) (m33 : ∀ r, r ≠ q → gm' 33 0 r = gm 33 0 r) (h : ¬ gm 33 0 q = 2) (h' : ¬ gm' 33 0 q = 2) : rl_pk gc' gm' := by
  unfold rl_pk
  rw [c11, m37, hpk]
  refine congrArg nI (pu_cn_congr 130 (fun j hj => ?_))
  show decide (gm 37 0 j = 1 ∧ gm 33 0 j = 2) = decide (gm 37 0 j = 1 ∧ gm' 33 0 j = 2)
  by_cases e : j = q
  · subst e
    rw [decide_eq_false (fun z => h z.2), decide_eq_false (fun z => h' z.2)]
  · rw [m33 j e]
/-- marking slots as bad -/
theorem rl_bad_s1 {be : Nat → Nat} {al : Nat → Bool} {gc gm : am_S} (lim : Nat) (h : rl_s1 be al gc gm) : rl_s1 be al (tl_c gc lim) (tl_m gc gm lim) := by
  intro k hk
  obtain ⟨a1, a2, a3, a4, a5⟩ := h k hk
  rw [tl_c_f (show 16 ≠ 15 by decide), tl_c_f (show 17 ≠ 15 by decide), tl_c_f (show 5 ≠ 15 by decide), tl_m_f (show 41 ≠ 42 by decide), tl_m_f (show 43 ≠ 42 by decide), tl_m_f (show 44 ≠ 42 by decide)]
  refine ⟨a1, a2, a3, a4, ?_⟩
  by_cases e : k < lim ∧ gc 15 0 k = 0
  · have e1 : tl_c gc lim 15 0 k = 2 := by unfold tl_c; rw [if_pos ⟨⟨rfl, rfl, e.1⟩, e.2⟩]
    have e2 : tl_m gc gm lim 42 0 k = 1 := by unfold tl_m; rw [if_pos ⟨⟨rfl, rfl, e.1⟩, e.2⟩]
    rw [e1, e2]
    rcases a5 with ⟨-, -, z1, z2⟩ | ⟨z, -⟩ | ⟨z, -⟩
    · exact Or.inr (Or.inl ⟨rfl, rfl, z1, z2⟩)
    · rw [e.2] at z; exact absurd z (by decide)
    · rw [e.2] at z; exact absurd z (by decide)
  · have e1 : tl_c gc lim 15 0 k = gc 15 0 k := by unfold tl_c; rw [if_neg (fun z => e ⟨z.1.2.2, z.2⟩)]
    have e2 : tl_m gc gm lim 42 0 k = gm 42 0 k := by unfold tl_m; rw [if_neg (fun z => e ⟨z.1.2.2, z.2⟩)]
    rw [e1, e2]
    exact a5
theorem rl_bad_R {ex : Nat} {be : Nat → Nat} {al : Nat → Bool} {gc gm : am_S} (lim : Nat) (h : rl_R ex be al gc gm) : rl_R ex be al (tl_c gc lim) (tl_m gc gm lim) := by
  obtain ⟨htk, hrg, hpg, hmp, hal, hdd, hsp, hsh, hfr, hhd, har, hpk, hs1, hs2⟩ := h
  have C : ∀ f, f ≠ 15 → tl_c gc lim f = gc f := fun f hf => tl_c_f hf
  have M : ∀ f, f ≠ 42 → tl_m gc gm lim f = gm f := fun f hf => tl_m_f hf
  refine ⟨?_, ?_, ?_, ?_, ?_, ?_, ?_, ?_, ?_, ?_, ?_, ?_, rl_bad_s1 lim hs1, ?_⟩
  · unfold rl_tk; rw [C 19 (by decide), C 23 (by decide), M 25 (by decide), M 26 (by decide), M 27 (by decide)]; exact htk
  · unfold rl_rg; rw [C 19 (by decide), C 20 (by decide), C 21 (by decide), M 28 (by decide), M 29 (by decide), M 30 (by decide)]; exact hrg
  · unfold rl_pg; rw [C 22 (by decide), C 23 (by decide), M 31 (by decide), M 32 (by decide)]; exact hpg
  · intro s hs; rw [rl_pc_congr (C 23 (by decide)), C 5 (by decide)]; exact hmp s hs
  · unfold rl_al; rw [M 37 (by decide)]; exact hal
  · unfold rl_dd; rw [C 5 (by decide), C 6 (by decide)]; exact hdd
  · unfold rl_sp; rw [C 2 (by decide), C 4 (by decide)]; exact hsp
  · unfold rl_sh; rw [C 5 (by decide), C 6 (by decide), C 8 (by decide), C 10 (by decide), C 12 (by decide), M 33 (by decide), M 34 (by decide), M 35 (by decide), M 36 (by decide)]; exact hsh
  · unfold rl_fr; rw [C 5 (by decide), C 8 (by decide), C 9 (by decide), C 10 (by decide), M 38 (by decide), M 39 (by decide), M 40 (by decide)]; exact hfr
  · unfold rl_hd; rw [C 7 (by decide), M 24 (by decide)]; exact hhd
  · unfold rl_ar rl_in; rw [C 5 (by decide), C 12 (by decide)]; exact har
  · unfold rl_pk; rw [C 11 (by decide), M 33 (by decide), M 37 (by decide)]; exact hpk
  · unfold rl_s2; rw [C 5 (by decide), M 41 (by decide)]; exact hs2
theorem rl_sl_P {ex : Nat} {be : Nat → Nat} {al : Nat → Bool} {gc gm : am_S} (h : rl_R ex be al gc gm) : sl_P gc gm := by
  obtain ⟨-, -, -, -, hal, -, -, -, -, -, -, -, hs1, -⟩ := h
  intro k hk
  obtain ⟨a1, -, -, -, a5⟩ := hs1 k hk
  refine ⟨?_, a1⟩
  rcases a5 with ⟨z1, z2, z3, -⟩ | ⟨z1, z2, z3, -⟩ | ⟨z1, z2, s, hs, z3, z4, -⟩
  · rw [z1, z2, z3]; exact ⟨fun _ => ⟨rfl, pu_neg⟩, fun _ => rfl⟩
  · rw [z1, z2, z3]; exact ⟨fun w => absurd w (by decide), fun w => absurd w.1 (by decide)⟩
  · have := (hal.1 s hs z3).1
    rw [z1, z2, z4]; exact ⟨fun w => absurd w (by decide), fun w => absurd w.2 (pu_lt0 (by omega))⟩
