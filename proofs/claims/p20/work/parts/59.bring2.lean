/-! a sheet is brought in, on both sides: the whole of it -/
theorem sm_bring {be : Nat → Nat} {al : Nat → Bool} {gc gm : am_S} {t p s : Nat} {A2 A3 A5 A6 : Int32} (R : rl_R 8 be al gc gm) (F : rl_fx 128 al gc) (ht : t < 8) (hp : p < 16) (hl : gc 19 t 4 = 1) (hs : s < 128) (hx : gc 23 t p = nI s) (h2 : ¬ gc 5 s 2 = 1) :
    (∃ al' gc' gm', vX6_touch_74 (nI t) A2 A3 (nI s) A5 A6 gc = some (.inl (some (.inr (.inr (5, (-1))))), gc') ∧ vX7_bring (nI t) (nI (be s)) gm = some (.inl (some (.inl 2)), gm') ∧ rl_R 8 be al' gc' gm' ∧ rl_fx 128 al' gc' ∧ gc' 19 t 4 = 0) ∨
    ∃ al' gc' gm' f, f < 10 ∧ vX6_touch_74 (nI t) A2 A3 (nI s) A5 A6 gc = vX6_touch_112 (nI t) A2 A3 (nI s) A5 A6 (some (.inl (nI f))) gc' ∧ vX7_bring (nI t) (nI (be s)) gm = some (.inl (some (.inl 0)), gm') ∧ rl_R 8 be al' gc' (am_up gm' 39 0 f 1) ∧ rl_fx 128 al' gc' ∧ al' s = true ∧ (gc' 5 s 2 = 1 ∧ gc' 5 s 3 = nI f ∧ gc' 8 0 f = nI s) ∧ gc' 19 t = gc 19 t ∧ gc' 20 = gc 20 ∧ gc' 22 = gc 22 ∧ gc' 23 t = gc 23 t ∧ (∀ r, r < 128 → al' r = true → al r = true) ∧ gm' 39 0 f = 0 := by
  have ha : al s = true := ((R.2.2.1 t p ht hp).2.2 s hs hx).1
  have hbs := (R.2.2.2.2.1.1 s hs ha).1
  rw [eX6_touch_74]
  rcases sm_start R F ht hs ha h2 with ⟨al', gc', gm', c, m, R', F', d⟩ | ⟨k, x, hk, c, m⟩
  · rw [c, pu_bI, if_pos rfl, eX6_touch_94, if_pos rfl]
    exact Or.inl ⟨al', gc', gm', rfl, m, R', F', d⟩
  · have R0 := rl_fault_R (k := k) R ht hk
    have F0 : rl_fx 128 al (am_up gc 21 t k (gc 21 t k + 1)) := fun r hr a b => by rw [rl_pc_congr (pu_uf (by decide))]; exact F r hr a b
    rw [c, pu_bI, if_neg (show ¬ (1 : Int32) = 0 by decide), m, eX7_bring_55, lm_fault ht hk, pu_bV]
    have k0 : ∀ c, c ≠ 21 → (am_up gc 21 t k (gc 21 t k + 1)) c = gc c := fun c hc => pu_uf hc
    generalize am_up gc 21 t k (gc 21 t k + 1) = g0 at R0 F0 k0
    generalize am_up gm 30 0 (3 * t + k) (gm 30 0 (3 * t + k) + 1) = m0 at R0
    obtain ⟨alF, gF, mF, RF, FF, ⟨f, hf, eC, eM, h8, G⟩ | ⟨eC, eM, d⟩⟩ := sm_find (keep := -1) ht R0 F0 (by rw [k0 19 (by decide)]; exact hl)
    · rw [eC, eM, pu_bI, pu_bI, if_pos (pu_ge (x := 0) (k := 0) rfl (by omega) (by omega)), eX6_touch_94, if_neg (pu_m1 (by omega))]
      obtain ⟨G1, G2, G3, G4, G5, G6⟩ := G
      have hxF : gF 23 t p = nI s := by rw [G5, k0 23 (by decide)]; exact hx
      have haF := ((RF.2.2.1 t p ht hp).2.2 s hs hxF).1
      obtain ⟨-, -, g5⟩ := G6 s hs haF
      have h2F : ¬ gF 5 s 2 = 1 := by
        rw [g5 (fun w => by rw [k0 5 (by decide)] at w; exact absurd w h2) 2 (by decide), k0 5 (by decide)]; exact h2
      obtain ⟨GC, GB, e1, RB, c1, c2, ⟨b1, b2, b3, b4, b5, b6, b7⟩, c3, L1, L2, L3⟩ := lc_bringIn RF hs haF hf h8 h2F
      obtain ⟨M1, e2, d1, d2⟩ := lm_bring76 (a1 := nI t) (a3 := x) (g := mF) hbs hf
      rw [e1, pu_bV, e2]
      have own : ∀ j, j < 24 → (mF 41 0 j = nI (be s) ↔ (gF 5 s 5 = nI j ∨ gF 5 s 6 = nI j)) := fun j hj => rl_slotk RF hs haF hj
      have l44 : ∀ j, j < 24 → mF 44 0 j = gF 17 0 j := fun j hj => (RF.2.2.2.2.2.2.2.2.2.2.2.2.1 j hj).2.2.1
      obtain ⟨MP, hM⟩ : ∃ MP, MP = am_up (am_up (am_up (am_up (am_up M1 33 0 (be s) 1) 38 0 f (nI (be s))) 39 0 f 0) 40 0 f 0) 39 0 f 1 := ⟨_, rfl⟩
      have N1 : ∀ c, c ≠ 33 → c ≠ 38 → c ≠ 39 → c ≠ 40 → MP c = M1 c := fun c x1 x2 x3 x4 => by rw [hM, pu_uf x3, pu_uf x4, pu_uf x3, pu_uf x2, pu_uf x1]
      have N2 : ∀ c, c ≠ 33 → c ≠ 38 → c ≠ 39 → c ≠ 40 → (lm_st mF (be s) f 1) c = mF c := fun c x1 x2 x3 x4 => by unfold lm_st; rw [pu_uf x4, pu_uf x3, pu_uf x2, pu_uf x1]
      have keep41 : ∀ j, j < 24 → (GC 5 s 5 = nI j ∨ GC 5 s 6 = nI j) → MP 41 0 j = nI (be s) := fun j hj w => by
        rw [N1 41 (by decide) (by decide) (by decide) (by decide)]
        by_cases q : (gF 5 s 5 = nI j ∨ gF 5 s 6 = nI j) ∧ ¬ gF 17 0 j = 0
        · exact absurd w ((L3 j hj).1 q).2.2
        · have o := (own j hj).mpr (((L3 j hj).2 q).2.2.mp w)
          rw [((d2 j hj).2 (fun y => q ⟨(own j hj).mp y.1, by rw [← l44 j hj]; exact y.2⟩)).1]
          exact o
      have RW : rl_R 8 be alF GC MP := by
        refine rl_wr_R RB hs haF (fun c a _ _ b d => c1 c a b d) c2 (fun c m39 m40 m41 m44 => ?_) (fun j hj => ?_) (fun f' hf' => ?_) ?_ (fun z => L2 (by rw [← b6]; exact z)) (by rw [b1]; decide)
        · rw [hM]
          unfold lm_st
          rw [pu_uf m39, pu_uf m40, pu_uf m39, pu_uf m40, pu_uf m39]
          exact pu_cong (pu_cong (d1 c m41 m44))
        · unfold rl_k1
          rw [b4, b5, N1 41 (by decide) (by decide) (by decide) (by decide), N1 44 (by decide) (by decide) (by decide) (by decide), N2 41 (by decide) (by decide) (by decide) (by decide), N2 44 (by decide) (by decide) (by decide) (by decide)]
          by_cases q : (gF 5 s 5 = nI j ∨ gF 5 s 6 = nI j) ∧ ¬ gF 17 0 j = 0
          · obtain ⟨y1, y2, -⟩ := (L3 j hj).1 q
            obtain ⟨y3, y4⟩ := (d2 j hj).1 ⟨(own j hj).mpr q.1, by rw [l44 j hj]; exact q.2⟩
            exact Or.inr ⟨(own j hj).mpr q.1, y1, y2, y3, y4⟩
          · obtain ⟨y1, y2, y5⟩ := (L3 j hj).2 q
            obtain ⟨y3, y4⟩ := (d2 j hj).2 (fun y => q ⟨(own j hj).mp y.1, by rw [← l44 j hj]; exact y.2⟩)
            exact Or.inl ⟨y1, y2, y3, y4, fun w => y5.mpr ((own j hj).mp w)⟩
        · refine Or.inl ⟨by rw [c1 9 (by decide) (by decide) (by decide)], by rw [c1 10 (by decide) (by decide) (by decide)], ?_, ?_⟩
          · rw [hM]
            unfold lm_st
            rw [pu_uf (show 39 ≠ 40 by decide), pu_ub, pu_ub, pu_uf (show 39 ≠ 40 by decide)]
            by_cases e : f' = f
            · rw [if_pos ⟨rfl, e⟩, if_pos ⟨rfl, e⟩]
            · rw [if_neg (fun z => e z.2), if_neg (fun z => e z.2), pu_uj e, pu_uf (show 39 ≠ 38 by decide), pu_uf (show 39 ≠ 38 by decide), pu_uf (show 39 ≠ 33 by decide), pu_uf (show 39 ≠ 33 by decide), d1 39 (by decide) (by decide)]
          · rw [hM]
            unfold lm_st
            rw [pu_uf (show 40 ≠ 39 by decide), pu_ub, pu_ub]
            by_cases e : f' = f
            · rw [if_pos ⟨rfl, e⟩, if_pos ⟨rfl, e⟩]
            · rw [if_neg (fun z => e z.2), if_neg (fun z => e z.2), pu_uf (show 40 ≠ 39 by decide), pu_uf (show 40 ≠ 39 by decide), pu_uf (show 40 ≠ 38 by decide), pu_uf (show 40 ≠ 38 by decide), pu_uf (show 40 ≠ 33 by decide), pu_uf (show 40 ≠ 33 by decide), d1 40 (by decide) (by decide)]
        · rcases L1 with y | ⟨j, hj, y1, y2⟩
          · exact Or.inl y
          · refine Or.inr ⟨j, hj, y1, keep41 j hj (Or.inl y1), ?_⟩
            rcases y2 with y2 | ⟨j', w1, w2, w3⟩
            · exact Or.inl y2
            · exact Or.inr ⟨j', w1, w2, w3, keep41 j' w2 (Or.inr w3)⟩
      have kC : ∀ c, 19 ≤ c → GC c = gF c := fun c hc => (c1 c (by omega) (by omega) (by omega)).trans (c3 c hc)
      rw [hM] at RW
      refine Or.inr ⟨alF, GC, _, f, hf, rfl, rfl, RW, fun r hr a b => ?_, haF, ⟨?_, ?_, ?_⟩, ?_, ?_, ?_, ?_, fun r hr z => (G6 r hr z).1, by rw [pu_uf (by decide), pu_us]⟩
      · rw [rl_pc_congr (kC 23 (by omega))]; exact FF r hr a b
      · rw [c2 s 2 (Or.inr (by decide))]; exact b1
      · rw [c2 s 3 (Or.inr (by decide))]; exact b2
      · rw [c1 8 (by decide) (by decide) (by decide)]; exact b3
      · rw [kC 19 (by omega), G1, k0 19 (by decide)]
      · rw [kC 20 (by omega), G2, k0 20 (by decide)]
      · rw [kC 22 (by omega), G4, k0 22 (by decide)]
      · rw [kC 23 (by omega), G5, k0 23 (by decide)]
    · rw [eC, eM, pu_bI, pu_bI, if_neg (by decide), eX6_touch_94, if_pos rfl]
      exact Or.inl ⟨alF, gF, mF, rfl, rfl, RF, FF, d⟩
