/-! a sheet without a frame gets the frame f: the relation, whatever its USED mark will be -/
def lc_st (g : am_S) (s f : Nat) (u : Int32) : am_S := am_up (am_up (am_up (am_up (am_up g 8 0 f (nI s)) 9 0 f u) 10 0 f 0) 5 s 2 1) 5 s 3 (nI f)
def lm_st (g : am_S) (q f : Nat) (u : Int32) : am_S := am_up (am_up (am_up (am_up g 33 0 q 1) 38 0 f (nI q)) 39 0 f u) 40 0 f 0
theorem rl_seat_R {ex : Nat} {be : Nat → Nat} {al : Nat → Bool} {gc gm : am_S} {s f : Nat} {u : Int32} (h : rl_R ex be al gc gm) (hs : s < 128) (ha : al s = true) (hf : f < 10) (h8 : gc 8 0 f = -1) (h2 : gc 5 s 2 = 0 ∨ gc 5 s 2 = 3) (hu : u = 0 ∨ u = 1) :
    rl_R ex be al (lc_st gc s f u) (lm_st gm (be s) f u) := by
  obtain ⟨htk, hrg, hpg, hmp, hal, hdd, hsp, hsh, hfr, hhd, har, hpk, hs1, hs2⟩ := h
  have hbs := hal.1 s hs ha
  have hwh := (hsh s hs ha).1
  have nofr : ∀ f', f' < 10 → ¬ gc 8 0 f' = nI s := fun f' hf' z => by
    have := ((hfr f' hf').2.2.2.2.2.2.2 s hs z).2.1
    rcases h2 with w | w <;> rw [w] at this <;> exact absurd this (by decide)
  have C : ∀ c, c ≠ 5 → c ≠ 8 → c ≠ 9 → c ≠ 10 → (lc_st gc s f u) c = gc c := fun c a b d e => by unfold lc_st; rw [pu_uf a, pu_uf a, pu_uf e, pu_uf d, pu_uf b]
  have C5r : ∀ r j, r ≠ s → (lc_st gc s f u) 5 r j = gc 5 r j := fun r j hr => by unfold lc_st; rw [pu_ui hr, pu_ui hr, pu_uf (by decide), pu_uf (by decide), pu_uf (by decide)]
  have C5j : ∀ r j, j ≠ 2 → j ≠ 3 → (lc_st gc s f u) 5 r j = gc 5 r j := fun r j a b => by unfold lc_st; rw [pu_uj b, pu_uj a, pu_uf (by decide), pu_uf (by decide), pu_uf (by decide)]
  have C52 : (lc_st gc s f u) 5 s 2 = 1 := by unfold lc_st; rw [pu_uj (by decide), pu_us]
  have C53 : (lc_st gc s f u) 5 s 3 = nI f := by unfold lc_st; rw [pu_us]
  have C8 : ∀ f', f' ≠ f → (lc_st gc s f u) 8 0 f' = gc 8 0 f' ∧ (lc_st gc s f u) 9 0 f' = gc 9 0 f' ∧ (lc_st gc s f u) 10 0 f' = gc 10 0 f' := fun f' hne => by
    unfold lc_st
    refine ⟨?_, ?_, ?_⟩ <;> rw [pu_uf (by decide), pu_uf (by decide), pu_uj hne, pu_uj hne, pu_uj hne]
  have C8f : (lc_st gc s f u) 8 0 f = nI s ∧ (lc_st gc s f u) 9 0 f = u ∧ (lc_st gc s f u) 10 0 f = 0 := by
    unfold lc_st
    refine ⟨?_, ?_, ?_⟩
    · rw [pu_uf (by decide), pu_uf (by decide), pu_uf (by decide), pu_uf (by decide), pu_us]
    · rw [pu_uf (by decide), pu_uf (by decide), pu_uf (by decide), pu_us]
    · rw [pu_uf (by decide), pu_uf (by decide), pu_us]
  have M : ∀ c, c ≠ 33 → c ≠ 38 → c ≠ 39 → c ≠ 40 → (lm_st gm (be s) f u) c = gm c := fun c a b d e => by unfold lm_st; rw [pu_uf e, pu_uf d, pu_uf b, pu_uf a]
  have M33 : ∀ r, (lm_st gm (be s) f u) 33 0 r = if r = be s then 1 else gm 33 0 r := fun r => by
    unfold lm_st
    rw [pu_uf (by decide), pu_uf (by decide), pu_uf (by decide), pu_ub]
    by_cases e : r = be s
    · rw [if_pos ⟨rfl, e⟩, if_pos e]
    · rw [if_neg (fun z => e z.2), if_neg e]
  have M8 : ∀ f', f' ≠ f → (lm_st gm (be s) f u) 38 0 f' = gm 38 0 f' ∧ (lm_st gm (be s) f u) 39 0 f' = gm 39 0 f' ∧ (lm_st gm (be s) f u) 40 0 f' = gm 40 0 f' := fun f' hne => by
    unfold lm_st
    refine ⟨?_, ?_, ?_⟩
    · rw [pu_uf (by decide), pu_uf (by decide), pu_uj hne, pu_uf (by decide)]
    · rw [pu_uf (by decide), pu_uj hne, pu_uf (by decide), pu_uf (by decide)]
    · rw [pu_uj hne, pu_uf (by decide), pu_uf (by decide), pu_uf (by decide)]
  have M8f : (lm_st gm (be s) f u) 38 0 f = nI (be s) ∧ (lm_st gm (be s) f u) 39 0 f = u ∧ (lm_st gm (be s) f u) 40 0 f = 0 := by
    unfold lm_st
    refine ⟨?_, ?_, ?_⟩
    · rw [pu_uf (by decide), pu_uf (by decide), pu_us]
    · rw [pu_uf (by decide), pu_us]
    · rw [pu_us]
  have bne : ∀ r, r < 128 → al r = true → r ≠ s → be r ≠ be s := fun r hr har hne z => hne (hal.2.1 r s hr hs har ha z)
  generalize lc_st gc s f u = gc' at C C5r C5j C52 C53 C8 C8f
  generalize lm_st gm (be s) f u = gm' at M M33 M8 M8f
  have c : ∀ k, (k = 2 ∨ k = 4 ∨ k = 6 ∨ k = 7 ∨ 11 ≤ k) → gc' k = gc k := fun k hk => C k (by omega) (by omega) (by omega) (by omega)
  have m : ∀ k, (k < 33 ∨ k = 34 ∨ k = 35 ∨ k = 36 ∨ k = 37 ∨ 41 ≤ k) → gm' k = gm k := fun k hk => M k (by omega) (by omega) (by omega) (by omega)
  refine ⟨?_, ?_, ?_, ?_, ?_, ?_, ?_, ?_, ?_, ?_, ?_, ?_, ?_, ?_⟩
  · unfold rl_tk; rw [c 19 (by decide), c 23 (by decide), m 25 (by decide), m 26 (by decide), m 27 (by decide)]; exact htk
  · unfold rl_rg; rw [c 19 (by decide), c 20 (by decide), c 21 (by decide), m 28 (by decide), m 29 (by decide), m 30 (by decide)]; exact hrg
  · unfold rl_pg; rw [c 22 (by decide), c 23 (by decide), m 31 (by decide), m 32 (by decide)]; exact hpg
  · intro r hr; rw [rl_pc_congr (c 23 (by decide)), C5j r 1 (by decide) (by decide)]; exact hmp r hr
  · unfold rl_al; rw [m 37 (by decide)]; exact hal
  · intro r hr hr2
    have e : r ≠ s := fun w => by rw [w, ha] at hr2; cases hr2
    rw [C5r r 2 e, C5r r 3 e, C5r r 4 e, C5r r 5 e, C5r r 6 e, c 6 (by decide)]
    exact hdd r hr hr2
  · unfold rl_sp; rw [c 2 (by decide), c 4 (by decide)]; exact hsp
  · intro r hr hr2
    rw [M33, c 6 (by decide), c 12 (by decide), m 34 (by decide), m 35 (by decide), m 36 (by decide)]
    by_cases e : r = s
    · subst e
      rw [if_pos rfl, C52]
      exact ⟨rfl, (hsh r hr hr2).2.1, Or.inr (Or.inl ⟨rfl, f, hf, C53, C8f.1, fun z => by rw [C8f.2.2] at z; exact absurd z (by decide)⟩)⟩
    · rw [if_neg (bne r hr hr2 e), C5r r 2 e, C5r r 3 e, C5r r 4 e, C5r r 5 e]
      obtain ⟨a1, a2, a3⟩ := hsh r hr hr2
      refine ⟨a1, a2, ?_⟩
      rcases a3 with z | ⟨z1, f', z2, z3, z4, z5⟩ | z | z
      · exact Or.inl z
      · have hne : f' ≠ f := fun w => by rw [w, h8] at z4; exact pu_m1 (by omega) z4.symm
        exact Or.inr (Or.inl ⟨z1, f', z2, z3, by rw [(C8 f' hne).1]; exact z4, by rw [(C8 f' hne).2.2]; exact z5⟩)
      · exact Or.inr (Or.inr (Or.inl z))
      · exact Or.inr (Or.inr (Or.inr z))
  · intro f' hf'
    by_cases e : f' = f
    · subst e
      rw [C8f.1, C8f.2.1, C8f.2.2, M8f.1, M8f.2.1, M8f.2.2]
      refine ⟨Or.inr ⟨s, hs, rfl⟩, (rl_bi_s hs).symm, rfl, rfl, hu, Or.inl rfl, fun z => absurd z (pu_m1 (by omega)), fun r hr z => ?_⟩
      have := pu_inj (by omega) (by omega) z
      subst this
      exact ⟨ha, C52, C53⟩
    · obtain ⟨x1, x2, x3⟩ := C8 f' e
      obtain ⟨y1, y2, y3⟩ := M8 f' e
      rw [x1, x2, x3, y1, y2, y3]
      obtain ⟨a1, a2, a3, a4, a5, a6, a7, a8⟩ := hfr f' hf'
      refine ⟨a1, a2, a3, a4, a5, a6, a7, fun r hr z => ?_⟩
      have hne : r ≠ s := fun w => nofr f' hf' (by rw [← w]; exact z)
      rw [C5r r 2 hne, C5r r 3 hne]
      exact a8 r hr z
  · unfold rl_hd; rw [c 7 (by decide), m 24 (by decide)]; exact hhd
  · exact rl_ar_no har C5r (c 12 (by decide)) (by rcases h2 with w | w <;> rw [w] <;> decide) (by rw [C52]; decide)
  · exact rl_pk_no (q := be s) hpk (c 11 (by decide)) (m 37 (by decide)) (fun r hr => by rw [M33, if_neg hr]) (by rw [hwh]; rcases h2 with w | w <;> rw [w] <;> decide) (by rw [M33, if_pos rfl]; decide)
  · intro k hk
    rw [c 15 (by decide), c 16 (by decide), c 17 (by decide), m 41 (by decide), m 42 (by decide), m 43 (by decide), m 44 (by decide)]
    obtain ⟨a1, a2, a3, a4, a5⟩ := hs1 k hk
    refine ⟨a1, a2, a3, a4, ?_⟩
    rcases a5 with z | z | ⟨z1, z2, r, hr, z3, z4, z5⟩
    · exact Or.inl z
    · exact Or.inr (Or.inl z)
    · exact Or.inr (Or.inr ⟨z1, z2, r, hr, z3, z4, by rw [C5j r 5 (by decide) (by decide), C5j r 6 (by decide) (by decide)]; exact z5⟩)
  · intro r hr hr2
    rw [C5j r 5 (by decide) (by decide), C5j r 6 (by decide) (by decide), m 41 (by decide)]
    exact hs2 r hr hr2
