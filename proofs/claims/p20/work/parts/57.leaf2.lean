/-! leaves of a touch -/
theorem lc_seat {g : am_S} {s f : Nat} (hs : s < 128) (hf : f < 10) : vX2_seat (nI s) (nI f) g = some (.inl none, lc_st g s f 1) := by
  rw [eX2_seat, if_neg (pu_lt0 (by omega)), if_pos (pu_lt (x := 10) (k := 10) rfl hf (by omega)), pu_in hf (by omega), pu_g, pu_nv hs, pu_g, pu_lt', pu_g, pu_b1, pu_g, pu_lt', pu_g, pu_b0, pu_g, pu_lt', pu_in hs (by omega), pu_g, pu_lt', pu_g, pu_lt', nI_clamp (show f < 2 ^ 31 by omega), nI_clamp (show s < 2 ^ 31 by omega)]
  rfl
theorem lc_touched0 {g : am_S} {f : Nat} (hf : f < 10) : vX2_touched (nI f) 0 g = some (.inl none, am_up g 9 0 f 1) := by
  rw [eX2_touched, if_neg (pu_lt0 (by omega)), if_pos (pu_lt (x := 10) (k := 10) rfl hf (by omega)), pu_in hf (by omega), pu_g, pu_b1, pu_g, pu_lt', if_pos rfl, nI_clamp (by omega)]
theorem lc_touched1 {g : am_S} {f : Nat} (hf : f < 10) : vX2_touched (nI f) 1 g = some (.inl none, am_up (am_up g 9 0 f 1) 10 0 f 1) := by
  rw [eX2_touched, if_neg (pu_lt0 (by omega)), if_pos (pu_lt (x := 10) (k := 10) rfl hf (by omega)), pu_in hf (by omega), pu_g, pu_b1, pu_g, pu_lt', if_neg (by decide), pu_g, pu_g, pu_lt', nI_clamp (by omega)]
/-- a slot that may be released -/
theorem lc_rel {g : am_S} {x : Int32} (h : x = -1 ∨ ∃ k, k < 24 ∧ x = nI k) : ∃ g', vX1_release x g = some (.inl none, g') ∧ (∀ f, f ≠ 15 → f ≠ 17 → g' f = g f) ∧ ∀ k, k < 24 → (x = nI k → g' 15 0 k = 0 ∧ g' 17 0 k = 0) ∧ (¬ x = nI k → g' 15 0 k = g 15 0 k ∧ g' 17 0 k = g 17 0 k) := by
  rcases h with rfl | ⟨k, hk, rfl⟩
  · exact ⟨g, lc_release_no, fun _ _ _ => rfl, fun k hk => ⟨fun z => absurd z.symm (pu_m1 (by omega)), fun _ => ⟨rfl, rfl⟩⟩⟩
  · refine ⟨_, lc_release hk, fun f a b => by rw [pu_uf b, pu_uf a], fun j hj => ⟨fun z => ?_, fun z => ?_⟩⟩
    · rw [← pu_inj (by omega) (by omega) z]
      exact ⟨by rw [pu_uf (by decide), pu_us], pu_us⟩
    · have e : j ≠ k := fun w => z (by rw [w])
      exact ⟨by rw [pu_uf (by decide), pu_uj e], by rw [pu_uj e, pu_uf (by decide)]⟩
theorem lc_giveB {g : am_S} {s : Nat} (hs : s < 128) (h5 : g 5 s 5 = -1 ∨ ∃ k, k < 24 ∧ g 5 s 5 = nI k) (h6 : g 5 s 6 = -1 ∨ ∃ k, k < 24 ∧ g 5 s 6 = nI k) :
    ∃ g', vX1_giveBack (nI s) g = some (.inl none, g') ∧ (∀ f, f ≠ 5 → f ≠ 15 → f ≠ 17 → g' f = g f) ∧ (∀ r j, r ≠ s ∨ (j ≠ 5 ∧ j ≠ 6) → g' 5 r j = g 5 r j) ∧ g' 5 s 5 = -1 ∧ g' 5 s 6 = -1 ∧ ∀ k, k < 24 → (g 5 s 5 = nI k ∨ g 5 s 6 = nI k → g' 15 0 k = 0 ∧ g' 17 0 k = 0) ∧ (¬ (g 5 s 5 = nI k ∨ g 5 s 6 = nI k) → g' 15 0 k = g 15 0 k ∧ g' 17 0 k = g 17 0 k) := by
  obtain ⟨g1, e1, a1, a2⟩ := lc_rel (g := g) h5
  have h6' : g1 5 s 6 = g 5 s 6 := by rw [a1 5 (by decide) (by decide)]
  obtain ⟨g2, e2, b1, b2⟩ := lc_rel (g := g1) h6
  rw [eX1_giveBack, pu_in hs (by omega), pu_g, nI_clamp (by omega), e1, pu_bV, pu_g, h6', e2, pu_bV, pu_g, pu_lt', pu_g, pu_lt']
  have k5 : ∀ r j, g2 5 r j = g 5 r j := fun r j => by rw [b1 5 (by decide) (by decide), a1 5 (by decide) (by decide)]
  refine ⟨_, rfl, fun f c1 c2 c3 => by rw [pu_uf c1, pu_uf c1, b1 f c2 c3, a1 f c2 c3], fun r j hr => ?_, by rw [pu_uj (by decide), pu_us], pu_us, fun k hk => ?_⟩
  · rcases hr with hr | ⟨j5, j6⟩
    · rw [pu_ui hr, pu_ui hr]; exact k5 r j
    · rw [pu_uj j6, pu_uj j5]; exact k5 r j
  · rw [pu_uf (show 15 ≠ 5 by decide), pu_uf (show 15 ≠ 5 by decide), pu_uf (show 17 ≠ 5 by decide), pu_uf (show 17 ≠ 5 by decide)]
    obtain ⟨p1, p2⟩ := a2 k hk
    obtain ⟨q1, q2⟩ := b2 k hk
    by_cases w6 : g 5 s 6 = nI k
    · exact ⟨fun _ => q1 w6, fun z => absurd (Or.inr w6) z⟩
    · obtain ⟨r1, r2⟩ := q2 w6
      rw [r1, r2]
      exact ⟨fun z => p1 (z.resolve_right w6), fun z => p2 (fun w => z (Or.inl w))⟩
theorem lc_gone {g : am_S} {x : Int32} (h : x = -1 ∨ ∃ k, k < 24 ∧ x = nI k) : (vX1_isGone x g = some (.inl (some (.inl 1)), g) ∧ (x = -1 ∨ ∃ k, k < 24 ∧ x = nI k ∧ ¬ g 17 0 k = 0)) ∨ (vX1_isGone x g = some (.inl (some (.inl 0)), g) ∧ ∃ k, k < 24 ∧ x = nI k ∧ g 17 0 k = 0) := by
  rw [eX1_isGone]
  rcases h with rfl | ⟨k, hk, rfl⟩
  · rw [if_pos pu_neg, pu_b1, pu_g]; exact Or.inl ⟨rfl, Or.inl rfl⟩
  · rw [if_neg (pu_lt0 (by omega)), if_neg (pu_nge (x := 24) (k := 24) rfl hk (by omega)), pu_in hk (by omega), pu_g, nI_clamp (by omega), pu_b0, pu_b1, pu_g, pu_g]
    by_cases c : g 17 0 k = 0
    · rw [if_pos c]; exact Or.inr ⟨rfl, k, hk, rfl, c⟩
    · rw [if_neg c]; exact Or.inl ⟨rfl, Or.inr ⟨k, hk, rfl, c⟩⟩
/-- the lost ones of a sheet's slots are given back -/
def rl_two (x y : Int32) : Prop := (x = -1 ∧ y = -1) ∨ ∃ k, k < 24 ∧ x = nI k ∧ (y = -1 ∨ ∃ k', k < k' ∧ k' < 24 ∧ y = nI k')
def lc_lost (s : Nat) (g g' : am_S) : Prop := rl_two (g' 5 s 5) (g' 5 s 6) ∧ (g 5 s 5 = -1 → g' 5 s 5 = -1) ∧
      ∀ k, k < 24 → ((g 5 s 5 = nI k ∨ g 5 s 6 = nI k) ∧ ¬ g 17 0 k = 0 → g' 15 0 k = 0 ∧ g' 17 0 k = 0 ∧ ¬ (g' 5 s 5 = nI k ∨ g' 5 s 6 = nI k)) ∧ (¬ ((g 5 s 5 = nI k ∨ g 5 s 6 = nI k) ∧ ¬ g 17 0 k = 0) → g' 15 0 k = g 15 0 k ∧ g' 17 0 k = g 17 0 k ∧ ((g' 5 s 5 = nI k ∨ g' 5 s 6 = nI k) ↔ (g 5 s 5 = nI k ∨ g 5 s 6 = nI k)))
theorem lc_giveL {g : am_S} {s : Nat} (hs : s < 128) (h : rl_two (g 5 s 5) (g 5 s 6)) :
    ∃ g', vX1_giveBackLost (nI s) g = some (.inl none, g') ∧ (∀ f, f ≠ 5 → f ≠ 15 → f ≠ 17 → g' f = g f) ∧ (∀ r j, r ≠ s ∨ (j ≠ 5 ∧ j ≠ 6) → g' 5 r j = g 5 r j) ∧ lc_lost s g g' := by
  have m1 : ∀ k, k < 24 → ¬ (-1 : Int32) = nI k := fun k hk z => pu_m1 (by omega) z.symm
  have inj : ∀ {a b : Nat}, a < 24 → b < 24 → nI a = nI b → a = b := fun {a b} ha hb z => pu_inj (by omega) (by omega) z
  rcases h with ⟨h5, h6⟩ | ⟨a, ha, h5, h6⟩
  · -- no slots
    refine ⟨g, ?_, fun _ _ _ _ => rfl, fun _ _ _ => rfl, Or.inl ⟨h5, h6⟩, fun z => z, fun k hk => ⟨fun z => ?_, fun _ => ⟨rfl, rfl, Iff.rfl⟩⟩⟩
    · have u6 : am_up g 5 s 6 (-1) = g := rl_up_id h6
      have u5 : am_up g 5 s 5 (-1) = g := rl_up_id h5
      have gm1 : vX1_isGone (-1) g = some (.inl (some (.inl 1)), g) := by rw [eX1_isGone, if_pos pu_neg, pu_b1, pu_g]
      rw [eX1_giveBackLost, pu_in hs (by omega), pu_g, nI_clamp (by omega), h6, gm1, pu_bI, if_neg (by decide), pu_g, h6, lc_release_no, pu_bV, pu_g, pu_lt', u6, eX1_giveBackLost_24, pu_in hs (by omega), pu_g, nI_clamp (by omega), h5, gm1, pu_bI, if_neg (by decide), pu_g, h5, lc_release_no, pu_bV, pu_g, pu_g, pu_lt', h6, u5, pu_g, pu_lt', u6]
    · rw [h5, h6] at z
      rcases z.1 with w | w <;> exact absurd w (m1 k hk)
  · -- one or two: first the upper
    have hU : ∃ g1, vX1_giveBackLost (nI s) g = vX1_giveBackLost_24 (nI s) g1 ∧ (∀ f, f ≠ 5 → f ≠ 15 → f ≠ 17 → g1 f = g f) ∧ (∀ r j, r ≠ s ∨ j ≠ 6 → g1 5 r j = g 5 r j) ∧ (g1 5 s 6 = -1 ∨ ∃ k', a < k' ∧ k' < 24 ∧ g1 5 s 6 = nI k' ∧ g 5 s 6 = nI k') ∧
        ∀ k, k < 24 → (g 5 s 6 = nI k ∧ ¬ g 17 0 k = 0 → g1 15 0 k = 0 ∧ g1 17 0 k = 0 ∧ ¬ g1 5 s 6 = nI k) ∧ (¬ (g 5 s 6 = nI k ∧ ¬ g 17 0 k = 0) → g1 15 0 k = g 15 0 k ∧ g1 17 0 k = g 17 0 k ∧ (g1 5 s 6 = nI k ↔ g 5 s 6 = nI k)) := by
      rw [eX1_giveBackLost, pu_in hs (by omega), pu_g, nI_clamp (by omega)]
      rcases h6 with h6 | ⟨b, hab, hb, h6⟩
      · have u6 : am_up g 5 s 6 (-1) = g := rl_up_id h6
        have gm1 : vX1_isGone (-1) g = some (.inl (some (.inl 1)), g) := by rw [eX1_isGone, if_pos pu_neg, pu_b1, pu_g]
        refine ⟨g, ?_, fun _ _ _ _ => rfl, fun _ _ _ => rfl, Or.inl h6, fun k hk => ⟨fun z => ?_, fun _ => ⟨rfl, rfl, Iff.rfl⟩⟩⟩
        · rw [h6, gm1, pu_bI, if_neg (by decide), pu_g, h6, lc_release_no, pu_bV, pu_g, pu_lt', u6]
        · rw [h6] at z; exact absurd z.1 (m1 k hk)
      · rw [h6]
        rcases lc_gone (g := g) (x := nI b) (Or.inr ⟨b, hb, rfl⟩) with ⟨e, w⟩ | ⟨e, k0, hk0, w1, w2⟩
        · have hlost : ¬ g 17 0 b = 0 := by
            rcases w with w | ⟨k0, hk0, w1, w2⟩
            · exact absurd w.symm (m1 b hb)
            · rw [inj hb hk0 w1]; exact w2
          rw [e, pu_bI, if_neg (show ¬ (1 : Int32) = 0 by decide), pu_g, h6, lc_release hb, pu_bV, pu_g, pu_lt']
          refine ⟨_, rfl, fun f c1 c2 c3 => by rw [pu_uf c1, pu_uf c3, pu_uf c2], fun r j hr => ?_, Or.inl pu_us, fun k hk => ?_⟩
          · rcases hr with hr | hr
            · rw [pu_ui hr, pu_uf (by decide), pu_uf (by decide)]
            · rw [pu_uj hr, pu_uf (by decide), pu_uf (by decide)]
          · rw [pu_us, pu_uf (show 15 ≠ 5 by decide), pu_uf (show 17 ≠ 5 by decide), pu_uf (show 15 ≠ 17 by decide)]
            by_cases c : k = b
            · subst c
              rw [pu_us, pu_us]
              exact ⟨fun _ => ⟨rfl, rfl, m1 k hk⟩, fun z => absurd ⟨rfl, hlost⟩ z⟩
            · rw [pu_uj c, pu_uj c, pu_uf (show 17 ≠ 15 by decide)]
              exact ⟨fun z => absurd (inj hb hk z.1).symm c, fun _ => ⟨rfl, rfl, ⟨fun z => absurd z (m1 k hk), fun z => absurd (inj hb hk z).symm c⟩⟩⟩
        · have hb0 : g 17 0 b = 0 := by rw [inj hb hk0 w1]; exact w2
          rw [e, pu_bI, if_pos rfl]
          refine ⟨g, rfl, fun _ _ _ _ => rfl, fun _ _ _ => rfl, Or.inr ⟨b, hab, hb, h6, rfl⟩, fun k hk => ⟨fun z => ?_, fun _ => ⟨rfl, rfl, by rw [h6]⟩⟩⟩
          rw [← inj hb hk z.1] at z; exact absurd hb0 z.2
    obtain ⟨g1, e1, a1, a2, a3, a4⟩ := hU
    have g15 : g1 5 s 5 = nI a := by rw [a2 s 5 (Or.inr (by decide))]; exact h5
    rw [e1, eX1_giveBackLost_24, pu_in hs (by omega), pu_g, nI_clamp (by omega), g15]
    have ne6 : ¬ g 5 s 6 = nI a := fun z => by
      rcases h6 with w | ⟨b, w1, w2, w3⟩
      · rw [w] at z; exact m1 a ha z
      · rw [w3] at z; have := inj w2 ha z; omega
    have g17a : g1 17 0 a = g 17 0 a := ((a4 a ha).2 (fun z => ne6 z.1)).2.1
    rcases lc_gone (g := g1) (x := nI a) (Or.inr ⟨a, ha, rfl⟩) with ⟨e, w⟩ | ⟨e, k0, hk0, w1, w2⟩
    · have hlost : ¬ g 17 0 a = 0 := by
        rcases w with w | ⟨k0, hk0, w1, w2⟩
        · exact absurd w.symm (m1 a ha)
        · rw [← inj ha hk0 w1, g17a] at w2; exact w2
      rw [e, pu_bI, if_neg (show ¬ (1 : Int32) = 0 by decide), pu_g, g15, lc_release ha, pu_bV, pu_g, pu_g, pu_lt', pu_g, pu_lt']
      rw [show (am_up (am_up g1 15 0 a 0) 17 0 a 0) 5 s 6 = g1 5 s 6 by rw [pu_uf (by decide), pu_uf (by decide)]]
      refine ⟨_, rfl, fun f c1 c2 c3 => by rw [pu_uf c1, pu_uf c1, pu_uf c3, pu_uf c2, a1 f c1 c2 c3], fun r j hr => ?_, ?_, fun z => absurd (h5.symm.trans z) (fun y => m1 a ha y.symm), fun k hk => ?_⟩
      · rcases hr with hr | ⟨j5, j6⟩
        · rw [pu_ui hr, pu_ui hr, pu_uf (by decide), pu_uf (by decide), a2 r j (Or.inl hr)]
        · rw [pu_uj j6, pu_uj j5, pu_uf (by decide), pu_uf (by decide), a2 r j (Or.inr j6)]
      · rw [pu_us, pu_uj (show 5 ≠ 6 by decide), pu_us]
        rcases a3 with z | ⟨k', z1, z2, z3, -⟩
        · exact Or.inl ⟨z, rfl⟩
        · exact Or.inr ⟨k', z2, z3, Or.inl rfl⟩
      · rw [pu_us, pu_uj (show 5 ≠ 6 by decide), pu_us, pu_uf (show 15 ≠ 5 by decide), pu_uf (show 15 ≠ 5 by decide), pu_uf (show 17 ≠ 5 by decide), pu_uf (show 17 ≠ 5 by decide), pu_uf (show 15 ≠ 17 by decide), h5]
        obtain ⟨p1, p2⟩ := a4 k hk
        by_cases c : k = a
        · subst c
          rw [pu_us, pu_us]
          refine ⟨fun _ => ⟨rfl, rfl, fun z => ?_⟩, fun z => absurd ⟨Or.inl rfl, hlost⟩ z⟩
          rcases z with z | z
          · exact ne6 (((p2 (fun q => ne6 q.1)).2.2).mp z)
          · exact m1 k hk z
        · rw [pu_uj c, pu_uj c, pu_uf (show 17 ≠ 15 by decide)]
          have na : ¬ nI a = nI k := fun z => c (inj ha hk z).symm
          refine ⟨fun z => ?_, fun z => ?_⟩
          · obtain ⟨q1, q2, q3⟩ := p1 ⟨z.1.resolve_left na, z.2⟩
            exact ⟨q1, q2, fun y => y.elim q3 (m1 k hk)⟩
          · obtain ⟨q1, q2, q3⟩ := p2 (fun y => z ⟨Or.inr y.1, y.2⟩)
            exact ⟨q1, q2, ⟨fun y => Or.inr (q3.mp (y.resolve_right (m1 k hk))), fun y => Or.inl (q3.mpr (y.resolve_left na))⟩⟩
    · have hk0' : g 17 0 a = 0 := by rw [← g17a, inj ha hk0 w1]; exact w2
      rw [e, pu_bI, if_pos rfl]
      refine ⟨g1, rfl, a1, fun r j hr => a2 r j (hr.imp id And.right), ?_, fun z => absurd (h5.symm.trans z) (fun y => m1 a ha y.symm), fun k hk => ?_⟩
      · rw [g15]
        refine Or.inr ⟨a, ha, rfl, ?_⟩
        rcases a3 with z | ⟨k', z1, z2, z3, -⟩
        · exact Or.inl z
        · exact Or.inr ⟨k', z1, z2, z3⟩
      · obtain ⟨p1, p2⟩ := a4 k hk
        rw [g15, h5]
        refine ⟨fun z => ?_, fun z => ?_⟩
        · have na : ¬ nI a = nI k := fun y => z.2 (by rw [← inj ha hk y]; exact hk0')
          obtain ⟨q1, q2, q3⟩ := p1 ⟨z.1.resolve_left na, z.2⟩
          exact ⟨q1, q2, fun y => y.elim na q3⟩
        · obtain ⟨q1, q2, q3⟩ := p2 (fun y => z ⟨Or.inr y.1, y.2⟩)
          exact ⟨q1, q2, or_congr Iff.rfl q3⟩
/-- the reference: lost slots of q are free, and q is in the frame f -/
theorem lm_bring76 {g : am_S} {q f : Nat} {a1 a3 : Int32} (hq : q < 130) (hf : f < 10) :
    ∃ g', vX7_bring_76 a1 (nI q) a3 (nI f) 0 g = some (.inl (some (.inl 0)), am_up (am_up (am_up (am_up g' 33 0 q 1) 38 0 f (nI q)) 39 0 f 0) 40 0 f 0) ∧ (∀ c, c ≠ 41 → c ≠ 44 → g' c = g c) ∧
      ∀ k, k < 24 → (g 41 0 k = nI q ∧ ¬ g 44 0 k = 0 → g' 41 0 k = -1 ∧ g' 44 0 k = 0) ∧ (¬ (g 41 0 k = nI q ∧ ¬ g 44 0 k = 0) → g' 41 0 k = g 41 0 k ∧ g' 44 0 k = g 44 0 k) := by
  obtain ⟨g', ⟨h1, h2⟩, e⟩ := pu_loop 24 (fun j (x : am_S) => vX7_bring_76 a1 (nI q) a3 (nI f) (nI j) x) (fun j x => (∀ c, c ≠ 41 → c ≠ 44 → x c = g c) ∧ ∀ k, k < 24 → ((k < j ∧ g 41 0 k = nI q ∧ ¬ g 44 0 k = 0) → x 41 0 k = -1 ∧ x 44 0 k = 0) ∧ (¬ (k < j ∧ g 41 0 k = nI q ∧ ¬ g 44 0 k = 0) → x 41 0 k = g 41 0 k ∧ x 44 0 k = g 44 0 k)) (fun j x hj hP => by
    obtain ⟨p1, p2⟩ := hP
    obtain ⟨pj1, pj2⟩ := (p2 j hj).2 (fun z => by omega)
    rw [eX7_bring_76, if_neg (pu_nge (x := 24) (k := 24) rfl hj (by omega)), pu_in hj (by omega), pu_g, pu_g, nI_clamp (by omega), pj1, pj2, nI_1]
    by_cases c1 : g 41 0 j = nI q
    · rw [if_pos c1]
      by_cases c2 : g 44 0 j = 0
      · rw [if_pos c2]
        refine ⟨x, ⟨p1, fun k hk => ⟨fun z => (p2 k hk).1 ⟨?_, z.2⟩, fun z => (p2 k hk).2 (fun w => z ⟨by omega, w.2⟩)⟩⟩, rfl⟩
        rcases Nat.lt_or_ge k j with o | o
        · exact o
        · have : k = j := by omega
          rw [this] at z; exact absurd c2 z.2.2
      · rw [if_neg c2, lm_freeSlot hj, pu_bV]
        refine ⟨_, ⟨fun c a b => by rw [pu_uf b, pu_uf a]; exact p1 c a b, fun k hk => ?_⟩, rfl⟩
        rw [pu_uf (show 41 ≠ 44 by decide)]
        by_cases e : k = j
        · subst e
          rw [pu_us, pu_us]
          exact ⟨fun _ => ⟨rfl, rfl⟩, fun z => absurd ⟨by omega, c1, c2⟩ z⟩
        · rw [pu_uj e, pu_uj e, pu_uf (show 44 ≠ 41 by decide)]
          exact ⟨fun z => (p2 k hk).1 ⟨by omega, z.2⟩, fun z => (p2 k hk).2 (fun w => z ⟨by omega, w.2⟩)⟩
    · rw [if_neg c1]
      refine ⟨x, ⟨p1, fun k hk => ⟨fun z => (p2 k hk).1 ⟨?_, z.2⟩, fun z => (p2 k hk).2 (fun w => z ⟨by omega, w.2⟩)⟩⟩, rfl⟩
      rcases Nat.lt_or_ge k j with o | o
      · exact o
      · have : k = j := by omega
        rw [this] at z; exact absurd z.2.1 c1) 24 0 g rfl ⟨fun _ _ _ => rfl, fun k hk => ⟨fun z => by omega, fun _ => ⟨rfl, rfl⟩⟩⟩
  refine ⟨g', Eq.trans (show vX7_bring_76 a1 (nI q) a3 (nI f) 0 g = vX7_bring_76 a1 (nI q) a3 (nI f) (nI 24) g' from e) ?_, h1, fun k hk => ⟨fun z => (h2 k hk).1 ⟨hk, z⟩, fun z => (h2 k hk).2 (fun w => z w.2)⟩⟩
  rw [eX7_bring_76, if_pos (show (24 : Int32) ≤ nI 24 from by decide), pu_in hq (by omega), pu_g, pu_lt', pu_in hf (by omega), pu_g, pu_lt', pu_g, pu_b0, pu_g, pu_lt', pu_g, pu_g, pu_lt', nI_clamp (show q < 2 ^ 31 by omega), nI_clamp (show f < 2 ^ 31 by omega)]
