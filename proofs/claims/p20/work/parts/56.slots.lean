/-! slots of a sheet become free, and the marks of its frame change: the relation -/
def rl_k1 (be : Nat → Nat) (s k : Nat) (gc gm gc' gm' : am_S) : Prop := (gc' 15 0 k = gc 15 0 k ∧ gc' 17 0 k = gc 17 0 k ∧ gm' 41 0 k = gm 41 0 k ∧ gm' 44 0 k = gm 44 0 k ∧ (gm 41 0 k = nI (be s) → gc' 5 s 5 = nI k ∨ gc' 5 s 6 = nI k)) ∨ (gm 41 0 k = nI (be s) ∧ gc' 15 0 k = 0 ∧ gc' 17 0 k = 0 ∧ gm' 41 0 k = -1 ∧ gm' 44 0 k = 0)
def rl_f1 (s f : Nat) (gc gm gc' gm' : am_S) : Prop := (gc' 9 0 f = gc 9 0 f ∧ gc' 10 0 f = gc 10 0 f ∧ gm' 39 0 f = gm 39 0 f ∧ gm' 40 0 f = gm 40 0 f) ∨ (gc 8 0 f = nI s ∧ gm' 39 0 f = gc' 9 0 f ∧ gm' 40 0 f = gc' 10 0 f ∧ (gc' 9 0 f = 0 ∨ gc' 9 0 f = 1) ∧ (gc' 10 0 f = 0 ∨ gc' 10 0 f = 1) ∧ (gc' 10 0 f = 1 → gc' 5 s 5 = -1))
theorem rl_wr_R {ex : Nat} {be : Nat → Nat} {al : Nat → Bool} {gc gm gc' gm' : am_S} {s : Nat} (h : rl_R ex be al gc gm) (hs : s < 128) (ha : al s = true)
    (C : ∀ f, f ≠ 5 → f ≠ 9 → f ≠ 10 → f ≠ 15 → f ≠ 17 → gc' f = gc f) (C5 : ∀ r j, r ≠ s ∨ (j ≠ 5 ∧ j ≠ 6) → gc' 5 r j = gc 5 r j) (M : ∀ f, f ≠ 39 → f ≠ 40 → f ≠ 41 → f ≠ 44 → gm' f = gm f)
    (K : ∀ k, k < 24 → rl_k1 be s k gc gm gc' gm') (Fm : ∀ f, f < 10 → rl_f1 s f gc gm gc' gm')
    (S : (gc' 5 s 5 = -1 ∧ gc' 5 s 6 = -1) ∨ ∃ k, k < 24 ∧ gc' 5 s 5 = nI k ∧ gm' 41 0 k = nI (be s) ∧ (gc' 5 s 6 = -1 ∨ ∃ k', k < k' ∧ k' < 24 ∧ gc' 5 s 6 = nI k' ∧ gm' 41 0 k' = nI (be s)))
    (h5 : gc 5 s 5 = -1 → gc' 5 s 5 = -1) (h3 : ¬ gc 5 s 2 = 3) : rl_R ex be al gc' gm' := by
  obtain ⟨htk, hrg, hpg, hmp, hal, hdd, hsp, hsh, hfr, hhd, har, hpk, hs1, hs2⟩ := h
  have c : ∀ f, f ≠ 5 ∧ f ≠ 9 ∧ f ≠ 10 ∧ f ≠ 15 ∧ f ≠ 17 → gc' f = gc f := fun f z => C f z.1 z.2.1 z.2.2.1 z.2.2.2.1 z.2.2.2.2
  have m : ∀ f, f ≠ 39 ∧ f ≠ 40 ∧ f ≠ 41 ∧ f ≠ 44 → gm' f = gm f := fun f z => M f z.1 z.2.1 z.2.2.1 z.2.2.2
  have hbs := (hal.1 s hs ha).1
  refine ⟨?_, ?_, ?_, ?_, ?_, ?_, ?_, ?_, ?_, ?_, ?_, ?_, ?_, ?_⟩
  · unfold rl_tk; rw [c 19 (by decide), c 23 (by decide), m 25 (by decide), m 26 (by decide), m 27 (by decide)]; exact htk
  · unfold rl_rg; rw [c 19 (by decide), c 20 (by decide), c 21 (by decide), m 28 (by decide), m 29 (by decide), m 30 (by decide)]; exact hrg
  · unfold rl_pg; rw [c 22 (by decide), c 23 (by decide), m 31 (by decide), m 32 (by decide)]; exact hpg
  · intro r hr; rw [rl_pc_congr (c 23 (by decide)), C5 r 1 (Or.inr (by decide))]; exact hmp r hr
  · unfold rl_al; rw [m 37 (by decide)]; exact hal
  · intro r hr hr2
    have e : r ≠ s := fun w => by rw [w, ha] at hr2; cases hr2
    rw [C5 r 2 (Or.inl e), C5 r 3 (Or.inl e), C5 r 4 (Or.inl e), C5 r 5 (Or.inl e), C5 r 6 (Or.inl e), c 6 (by decide)]
    exact hdd r hr hr2
  · unfold rl_sp; rw [c 2 (by decide), c 4 (by decide)]; exact hsp
  · intro r hr hr2
    rw [c 6 (by decide), c 8 (by decide), c 12 (by decide), m 33 (by decide), m 34 (by decide), m 35 (by decide), m 36 (by decide), C5 r 2 (Or.inr (by decide)), C5 r 3 (Or.inr (by decide)), C5 r 4 (Or.inr (by decide))]
    obtain ⟨a1, a2, a3⟩ := hsh r hr hr2
    refine ⟨a1, a2, ?_⟩
    by_cases e : r = s
    · subst e
      rcases a3 with ⟨z1, z2, z3⟩ | ⟨z1, f, z2, z3, z4, z5⟩ | ⟨z1, z2, z3⟩ | ⟨z, -⟩
      · exact Or.inl ⟨z1, z2, h5 z3⟩
      · refine Or.inr (Or.inl ⟨z1, f, z2, z3, z4, fun w => ?_⟩)
        rcases Fm f z2 with ⟨-, y, -, -⟩ | ⟨-, -, -, -, -, y⟩
        · rw [y] at w; exact h5 (z5 w)
        · exact y w
      · exact Or.inr (Or.inr (Or.inl ⟨z1, h5 z2, z3⟩))
      · exact absurd z h3
    · rw [C5 r 5 (Or.inl e)]
      rcases a3 with z | ⟨z1, f, z2, z3, z4, z5⟩ | z | z
      · exact Or.inl z
      · refine Or.inr (Or.inl ⟨z1, f, z2, z3, z4, fun w => ?_⟩)
        rcases Fm f z2 with ⟨-, y, -, -⟩ | ⟨y, -⟩
        · rw [y] at w; exact z5 w
        · rw [z4] at y; exact absurd (pu_inj (by omega) (by omega) y) e
      · exact Or.inr (Or.inr (Or.inl z))
      · exact Or.inr (Or.inr (Or.inr z))
  · intro f hf
    rw [c 8 (by decide), m 38 (by decide)]
    obtain ⟨a1, a2, a3, a4, a5, a6, a7, a8⟩ := hfr f hf
    have a8' : ∀ r, r < 128 → gc 8 0 f = nI r → al r = true ∧ gc' 5 r 2 = 1 ∧ gc' 5 r 3 = nI f := fun r hr z => by
      rw [C5 r 2 (Or.inr (by decide)), C5 r 3 (Or.inr (by decide))]; exact a8 r hr z
    rcases Fm f hf with ⟨y1, y2, y3, y4⟩ | ⟨y1, y2, y3, y4, y5, -⟩
    · rw [y1, y2, y3, y4]; exact ⟨a1, a2, a3, a4, a5, a6, a7, a8'⟩
    · exact ⟨a1, a2, y2, y3, y4, y5, fun z => by rw [z] at y1; exact absurd y1.symm (pu_m1 (by omega)), a8'⟩
  · unfold rl_hd; rw [c 7 (by decide), m 24 (by decide)]; exact hhd
  · have hin : ∀ r b, rl_in al gc' r b ↔ rl_in al gc r b := fun r b => by
      unfold rl_in
      rw [C5 r 2 (Or.inr (by decide)), C5 r 3 (Or.inr (by decide)), C5 r 4 (Or.inr (by decide))]
    refine ⟨fun b hb => ?_, fun r r' b hr hr' z z' => har.2 r r' b hr hr' ((hin r b).mp z) ((hin r' b).mp z')⟩
    rw [c 12 (by decide)]
    rcases har.1 b hb with z | ⟨z, r, hr, z2⟩
    · exact Or.inl z
    · exact Or.inr ⟨z, r, hr, (hin r b).mpr z2⟩
  · unfold rl_pk; rw [c 11 (by decide), m 33 (by decide), m 37 (by decide)]; exact hpk
  · intro k hk
    rw [c 16 (by decide), m 42 (by decide), m 43 (by decide)]
    obtain ⟨a1, a2, a3, a4, a5⟩ := hs1 k hk
    rcases K k hk with ⟨y1, y2, y3, y4, y5⟩ | ⟨y0, y1, y2, y3, y4⟩
    · rw [y1, y2, y3, y4]
      refine ⟨a1, a2, a3, a4, ?_⟩
      rcases a5 with z | z | ⟨z1, z2, r, hr, z3, z4, z5⟩
      · exact Or.inl z
      · exact Or.inr (Or.inl z)
      · refine Or.inr (Or.inr ⟨z1, z2, r, hr, z3, z4, ?_⟩)
        by_cases e : r = s
        · subst e; exact y5 z4
        · rw [C5 r 5 (Or.inl e), C5 r 6 (Or.inl e)]; exact z5
    · rw [y1, y2, y3, y4]
      refine ⟨a1, a2, rfl, Or.inl rfl, Or.inl ⟨rfl, ?_, rfl, rfl⟩⟩
      rcases a5 with ⟨-, z, w, -⟩ | ⟨-, -, w, -⟩ | ⟨-, z, -⟩
      · exact z
      · rw [y0] at w; exact absurd w (pu_m1 (by omega))
      · exact z
  · intro r hr hr2
    by_cases e : r = s
    · subst e; exact S
    · rw [C5 r 5 (Or.inl e), C5 r 6 (Or.inl e)]
      have hbr := (hal.1 r hr hr2).1
      have st : ∀ k, k < 24 → gm 41 0 k = nI (be r) → gm' 41 0 k = nI (be r) := fun k hk z => by
        rcases K k hk with ⟨-, -, y, -⟩ | ⟨y, -⟩
        · rw [y]; exact z
        · rw [z] at y; exact absurd (hal.2.1 r s hr hs hr2 ha (pu_inj (by omega) (by omega) y)) e
      rcases hs2 r hr hr2 with z | ⟨k, z1, z2, z3, z4⟩
      · exact Or.inl z
      · refine Or.inr ⟨k, z1, z2, st k z1 z3, ?_⟩
        rcases z4 with z4 | ⟨k', w1, w2, w3, w4⟩
        · exact Or.inl z4
        · exact Or.inr ⟨k', w1, w2, w3, st k' w2 w4⟩
/-- which slots are the sheet's -/
theorem rl_slotk {ex : Nat} {be : Nat → Nat} {al : Nat → Bool} {gc gm : am_S} {s k : Nat} (h : rl_R ex be al gc gm) (hs : s < 128) (ha : al s = true) (hk : k < 24) : gm 41 0 k = nI (be s) ↔ (gc 5 s 5 = nI k ∨ gc 5 s 6 = nI k) := by
  obtain ⟨-, -, -, -, hal, -, -, -, -, -, -, -, hs1, hs2⟩ := h
  have hbs := (hal.1 s hs ha).1
  constructor
  · intro z
    rcases (hs1 k hk).2.2.2.2 with ⟨-, -, w, -⟩ | ⟨-, -, w, -⟩ | ⟨-, -, r, hr, w1, w2, w3⟩
    · rw [w] at z; exact absurd z.symm (pu_m1 (by omega))
    · rw [w] at z; exact absurd z.symm (pu_m1 (by omega))
    · rw [w2] at z
      have hbr := (hal.1 r hr w1).1
      have e := hal.2.1 r s hr hs w1 ha (pu_inj (by omega) (by omega) z)
      rw [← e]; exact w3
  · intro z
    rcases hs2 s hs ha with ⟨w1, w2⟩ | ⟨j, hj, w1, w2, w3⟩
    · rw [w1, w2] at z
      rcases z with z | z <;> exact absurd z.symm (pu_m1 (by omega))
    · rcases z with z | z
      · rw [w1] at z; rw [← pu_inj (by omega) (by omega) z]; exact w2
      · rcases w3 with w3 | ⟨j', y1, y2, y3, y4⟩
        · rw [w3] at z; exact absurd z.symm (pu_m1 (by omega))
        · rw [y3] at z; rw [← pu_inj (by omega) (by omega) z]; exact y4
