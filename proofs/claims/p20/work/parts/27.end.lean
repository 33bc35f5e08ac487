/-! unmap and the end of a process, on both sides -/
/-- every sheet in use but x has a page -/
def rl_fx (x : Nat) (al : Nat → Bool) (gc : am_S) : Prop := ∀ s, s < 128 → al s = true → s ≠ x → 0 < rl_pc gc s
/-- sheets that stay keep all but their mappings -/
def sm_K (al al' : Nat → Bool) (gc gc' : am_S) : Prop := ∀ s, s < 128 → al' s = true → al s = true ∧ gc' 6 s = gc 6 s ∧ ∀ j, j ≠ 1 → gc' 5 s j = gc 5 s j
theorem sm_K_refl {al : Nat → Bool} {gc : am_S} : sm_K al al gc gc := fun s _ h => ⟨h, rfl, fun _ _ => rfl⟩
theorem sm_K_trans {al al' al'' : Nat → Bool} {gc gc' gc'' : am_S} (h1 : sm_K al al' gc gc') (h2 : sm_K al' al'' gc' gc'') : sm_K al al'' gc gc'' := fun s hs h => by
  obtain ⟨a, b, c⟩ := h2 s hs h
  obtain ⟨a', b', c'⟩ := h1 s hs a
  exact ⟨a', b.trans b', fun j hj => (c j hj).trans (c' j hj)⟩
theorem sm_unmap {ex x : Nat} {be : Nat → Nat} {al : Nat → Bool} {gc gm : am_S} {t p : Nat} (h : rl_R ex be al gc gm) (hfx : rl_fx x al gc) (ht : t < 8) (hp : p < 16) (hx : x < 128 → ¬ gc 23 t p = nI x) :
    ∃ al' gc' gm', vX6_unmap (nI t) (nI p) gc = some (.inl none, gc') ∧ vX7_unmap (nI (16 * t + p)) gm = some (.inl none, gm') ∧ rl_R ex be al' gc' gm' ∧ rl_fx x al' gc' ∧ sm_K al al' gc gc' ∧
      (gc' 19 = gc 19 ∧ gc' 20 = gc 20 ∧ gc' 21 = gc 21 ∧ gc' 22 = gc 22 ∧ gc' 23 = am_up gc 23 t p (-1) 23) ∧ (gm' 25 = gm 25 ∧ gm' 26 = gm 26 ∧ gm' 27 = gm 27) ∧ ∀ s, s < 128 → al s = true → ¬ rl_pc (am_up gc 23 t p (-1)) s = 0 ∨ ¬ gc 23 t p = nI s → al' s = true := by
  have hpg := h.2.2.1
  obtain ⟨o1, o2, o3⟩ := hpg t p ht hp
  have hk : 16 * t + p < 128 := by omega
  rcases o1 with o1 | ⟨s, hs, o1⟩
  · rw [o1, rl_bi_m] at o2
    refine ⟨al, gc, gm, ?_, ?_, h, hfx, sm_K_refl, ⟨rfl, rfl, rfl, rfl, ?_⟩, ⟨rfl, rfl, rfl⟩, fun s hs ha _ => ha⟩
    · rw [eX6_unmap, pu_in ht (by omega), pu_g, pu_g, pu_in hp (by omega), pu_g, nI_clamp (by omega), nI_clamp (by omega), pu_lv, o1, if_pos pu_neg]
    · rw [eX7_unmap, pu_in hk (by omega), pu_g, nI_clamp (by omega), pu_lv, pu_g, o2, pu_lt', if_pos pu_neg, rl_up_id o2]
    · rw [rl_up_id o1]
  · rw [o1, rl_bi_s hs] at o2
    obtain ⟨ha, -, -⟩ := o3 s hs o1
    obtain ⟨R1, hv⟩ := rl_off_R h ht hp hs o1
    have hbs := (h.2.2.2.2.1.1 s hs ha).1
    have hm1 : ∀ r, r < 128 → ¬ (-1 : Int32) = nI r := fun r hr z => pu_m1 (by omega) z.symm
    have hpo : ∀ r, r < 128 → r ≠ s → rl_pc (am_up gc 23 t p (-1)) r = rl_pc gc r := fun r hr hne => rl_pc_other hp (fun z => hne (pu_inj (by omega) (by omega) (z.symm.trans o1))) (hm1 r hr)
    have hsx : s ≠ x := fun z => by subst z; exact hx hs o1
    generalize hg3 : am_up (am_up gc 23 t p (-1)) 5 s 1 (gc 5 s 1 - 1) = g3 at R1 hv
    generalize hm : am_up gm 31 0 (16 * t + p) (-1) = m1 at R1
    have ef : ∀ f, f ≠ 5 → f ≠ 23 → g3 f = gc f := fun f h1 h2 => by rw [← hg3, pu_uf h1, pu_uf h2]
    have e23 : g3 23 = am_up gc 23 t p (-1) 23 := by rw [← hg3, pu_uf (by decide)]
    have e5 : ∀ r j, j ≠ 1 → g3 5 r j = gc 5 r j := fun r j hj => by rw [← hg3, pu_uj hj, pu_uf (by decide)]
    have em : ∀ f, f ≠ 31 → m1 f = gm f := fun f h1 => by rw [← hm, pu_uf h1]
    have hmap : lm_mp m1 (nI (be s)) = rl_pc (am_up gc 23 t p (-1)) s := by rw [rl_mp_eq R1.2.2.1 R1.2.2.2.2.1 hs ha, rl_pc_congr e23]
    have hle := rl_pc_le (am_up gc 23 t p (-1)) s
    -- the class and the reference up to the count
    have C : vX6_unmap (nI t) (nI p) gc = if nI (rl_pc (am_up gc 23 t p (-1)) s) ≤ 0 then (if (g3 5 s 2) = 1 then (am_bV (vX2_vacate (g3 5 s 3) g3) (fun g5 => vX6_unmap_75 (nI t) (nI p) (nI s) g5)) else (if (g3 5 s 2) = 2 then (am_bV (vX0_unpack (nI s) g3) (fun g4 => vX6_unmap_75 (nI t) (nI p) (nI s) g4)) else vX6_unmap_75 (nI t) (nI p) (nI s) g3)) else some (.inl none, g3) := by
      rw [eX6_unmap, pu_in ht (by omega), pu_g, pu_g, pu_in hp (by omega), pu_g, nI_clamp (show t < 2 ^ 31 by omega), nI_clamp (show p < 2 ^ 31 by omega), pu_lv, o1, if_neg (pu_lt0 (by omega)), pu_g, pu_g, pu_g, pu_nvm, pu_g, pu_lt', pu_in hs (by omega), pu_g, pu_g, nI_clamp (show s < 2 ^ 31 by omega), pu_lt', pu_uf (g := gc) (show 5 ≠ 23 by decide), hg3, pu_g, hv, pu_g, pu_g, pu_g]
    have M : vX7_unmap (nI (16 * t + p)) gm = if nI (rl_pc (am_up gc 23 t p (-1)) s) ≤ 0 then (am_bI (vX7_frameOf (nI (be s)) (am_up m1 37 0 (be s) 0)) (fun r7 g6 => if r7 < 0 then (vX7_unmap_49 (nI (16 * t + p)) (nI (be s)) r7 g6) else am_bV (vX7_clearFrame r7 g6) (fun g8 => vX7_unmap_49 (nI (16 * t + p)) (nI (be s)) r7 g8))) else some (.inl none, m1) := by
      rw [eX7_unmap, pu_in hk (by omega), pu_g, nI_clamp (by omega), pu_lv, pu_g, o2, pu_lt', hm, if_neg (pu_lt0 (by omega)), lm_mappings, pu_bI, hmap, pu_in hbs (by omega), pu_g, pu_b0, pu_g, nI_clamp (by omega), pu_lt']
    by_cases hz : rl_pc (am_up gc 23 t p (-1)) s = 0
    · -- the sheet goes
      rw [hz, if_pos (show nI 0 ≤ 0 from by decide)] at C M
      obtain ⟨fo, lo, hi, k1, k2, hh⟩ := rl_Fh_ex R1 hs ha
      have hh' := hh
      obtain ⟨hh1, hh2, hh3, hh4⟩ := hh
      have hnd := rl_nd_lt hs ha
      have hfr := R1.2.2.2.2.2.2.2.2.1
      have hall := R1.2.2.2.2.1
      have hfo : fo ≤ 10 := by rcases hh1 with z | z <;> omega
      have hk1 : k1 ≤ 24 := by rcases hh3 with z | z <;> omega
      have hk2 : k2 ≤ 24 := by rcases hh4 with z | z <;> omega
      have hx1 : fo < 10 → ¬ lo < hi := fun z => by
        rcases hh1 with ⟨a, -⟩ | ⟨-, a⟩
        · rcases hh2 with ⟨b, -⟩ | ⟨-, b⟩
          · rw [a] at b; exact absurd b (by decide)
          · omega
        · omega
      have hx2 : ¬ lo < hi → lo = 0 ∧ hi = 0 := fun z => by
        rcases hh2 with ⟨-, b, -⟩ | ⟨-, b⟩
        · exact absurd b z
        · exact b
      have hk1' : (k1 < 24 ∧ g3 5 s 5 = nI k1) ∨ (k1 = 24 ∧ g3 5 s 5 = -1) := by rcases hh3 with ⟨a, b, -⟩ | z; exact Or.inl ⟨a, b⟩; exact Or.inr z
      have hk2' : (k2 < 24 ∧ g3 5 s 6 = nI k2) ∨ (k2 = 24 ∧ g3 5 s 6 = -1) := by rcases hh4 with ⟨a, b, -⟩ | z; exact Or.inl ⟨a, b⟩; exact Or.inr z
      have h2n : g3 2 0 2 = nI (rl_nd al) := R1.2.2.2.2.2.2.1.1
      have C2 : vX6_unmap (nI t) (nI p) gc = some (.inl none, rl_t (rl_u (rl_v g3 fo) s lo hi) s k1 k2 (rl_nd al)) := by
        rw [C]
        rcases hh1 with ⟨a, b, c, d⟩ | ⟨a, b⟩
        · rw [if_pos a, c, lc_vacate b, pu_bV]
          have e1 : rl_v g3 fo = am_up (am_up (am_up g3 8 0 fo (-1)) 9 0 fo 0) 10 0 fo 0 := by unfold rl_v; rw [if_pos b]
          have e2 : rl_u (rl_v g3 fo) s lo hi = rl_v g3 fo := by unfold rl_u; rw [if_neg (hx1 b)]
          rw [e2, ← e1]
          exact rl_75 hs hnd (by rw [rl_v_f (by decide) (by decide) (by decide)]; exact h2n) (by rw [rl_v_f (by decide) (by decide) (by decide)]; exact hk1') (by rw [rl_v_f (by decide) (by decide) (by decide)]; exact hk2')
        · have e1 : rl_v g3 fo = g3 := by unfold rl_v; rw [if_neg (by omega)]
          rw [if_neg a, e1]
          rcases hh2 with ⟨a2, b2, c2, d2, f2⟩ | ⟨a2, b2, c2⟩
          · have e2 : rl_u g3 s lo hi = lc_up g3 s lo (hi - lo) := by unfold rl_u; rw [if_pos b2]
            rw [if_pos a2, lc_unpack hs d2 f2 (by omega), pu_bV, ← e2]
            have q5 : ∀ j, j ≠ 4 → (rl_u g3 s lo hi) 5 s j = g3 5 s j := fun j hj => by rw [e2]; unfold lc_up; rw [pu_uj hj, pu_uf (by decide), pu_ff (by decide)]
            exact rl_75 hs hnd (by rw [rl_u_f (by decide) (by decide) (by decide)]; exact h2n) (by rw [q5 5 (by decide)]; exact hk1') (by rw [q5 6 (by decide)]; exact hk2')
          · have e2 : rl_u g3 s lo hi = g3 := by unfold rl_u; rw [if_neg (by omega)]
            rw [if_neg a2, e2]
            exact rl_75 hs hnd h2n hk1' hk2'
      have M2 : vX7_unmap (nI (16 * t + p)) gm = some (.inl none, rl_mt m1 (be s) fo) := by
        rw [M]
        rcases hh1 with ⟨a, b, c, d⟩ | ⟨a, b⟩
        · rw [rl_frameOf hfr hall hs ha b c d (pu_uf (by decide)), pu_bI, if_neg (pu_lt0 (by omega)), lm_clearFrame b, pu_bV]
          have e1 : rl_mv (am_up m1 37 0 (be s) 0) fo = am_up (am_up (am_up (am_up m1 37 0 (be s) 0) 38 0 fo (-1)) 39 0 fo 0) 40 0 fo 0 := by unfold rl_mv; rw [if_pos b]
          rw [← e1]
          exact rl_m49 hbs
        · rw [rl_frameOf_no hfr hall hs ha a (pu_uf (by decide)), pu_bI, if_pos pu_neg]
          have e1 : rl_mv (am_up m1 37 0 (be s) 0) fo = am_up m1 37 0 (be s) 0 := by unfold rl_mv; rw [if_neg (by omega)]
          have := rl_m49 (g := m1) (fo := fo) (a1 := nI (16 * t + p)) (a3 := -1) hbs
          rw [e1] at this
          exact this
      have FC := rl_t_Fc (g := g3) (s := s) (n := rl_nd al) hx1 hx2 hfo hk1 hk2
      have FM := rl_mt_Fm (g := m1) (q := be s) hfo
      have R2 := rl_free_R R1 hs ha (by rw [rl_pc_congr e23]; exact hz) hh' FC FM
      obtain ⟨⟨c19, c20, c21, c22, c23, -, -⟩, c5, -, c6, -⟩ := FC
      obtain ⟨⟨-, m25, m26, m27, -⟩, -⟩ := FM
      refine ⟨_, _, _, C2, M2, R2, fun r hr hr2 hrx => ?_, fun r hr hr2 => ?_, ⟨?_, ?_, ?_, ?_, ?_⟩, ⟨?_, ?_, ?_⟩, fun r hr hr2 hor => ?_⟩
      · obtain ⟨hne, har⟩ := rl_no_t hr2
        rw [rl_pc_congr c23, rl_pc_congr e23, hpo r hr hne]
        exact hfx r hr har hrx
      · obtain ⟨hne, har⟩ := rl_no_t hr2
        refine ⟨har, ?_, fun j hj => ?_⟩
        · funext k
          rw [c6 r k hne, ef 6 (by decide) (by decide)]
        · rw [c5 r j hne, e5 r j hj]
      · rw [c19, ef 19 (by decide) (by decide)]
      · rw [c20, ef 20 (by decide) (by decide)]
      · rw [c21, ef 21 (by decide) (by decide)]
      · rw [c22, ef 22 (by decide) (by decide)]
      · rw [c23, e23]
      · rw [m25, em 25 (by decide)]
      · rw [m26, em 26 (by decide)]
      · rw [m27, em 27 (by decide)]
      · rcases hor with z | z
        · rw [rl_no_i (fun w => z (by rw [w]; exact hz))]; exact hr2
        · rw [rl_no_i (fun w => z (by rw [w]; exact o1))]; exact hr2
    · have hgt : ¬ nI (rl_pc (am_up gc 23 t p (-1)) s) ≤ 0 := pu_nle (x := 0) (k := 0) rfl (by omega) (by omega)
      rw [if_neg hgt] at C M
      refine ⟨al, g3, m1, C, M, R1, fun r hr hr2 hrx => ?_, fun r hr hr2 => ⟨hr2, by rw [ef 6 (by decide) (by decide)], fun j hj => e5 r j hj⟩, ⟨ef 19 (by decide) (by decide), ef 20 (by decide) (by decide), ef 21 (by decide) (by decide), ef 22 (by decide) (by decide), e23⟩, ⟨em 25 (by decide), em 26 (by decide), em 27 (by decide)⟩, fun r hr hr2 _ => hr2⟩
      rw [rl_pc_congr e23]
      by_cases e : r = s
      · subst e; omega
      · rw [hpo r hr e]; exact hfx r hr hr2 hrx
