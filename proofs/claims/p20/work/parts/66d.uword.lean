/-! words that are put, and touches within a run, each side for itself -/
theorem uc_put {w b4 : Int32} (hw : (w = 1 ∧ b4 = 0) ∨ (w = 2 ∧ b4 = 1)) {gc gm : am_S} (x y v : Int32) (h : rl_Q gc gm) : ∃ k gc' gm', la_wV th_134 (vX6_put x y v w gc) k gc' ∧ rl_Q gc' gm' := by
  have Q := h
  obtain ⟨be, al, R, F⟩ := h
  rw [eX6_put]
  rcases sm_living R.1 rfl x with ⟨e1, -⟩ | ⟨t, ht, rfl, hl, e1, -⟩
  · rw [e1, pu_bAx]
    exact ⟨1, gc, gm, Or.inr ⟨1, rfl, rfl, by decide⟩, Q⟩
  · rw [e1, pu_bA19]
    rcases lc_addr y gc with ⟨a, ha, rfl, e2⟩ | ⟨-, e2⟩
    · have r8 : nI a - nI a / 8 * 8 = nI (a % 8) := pu_r8 ⟨a, ha⟩
      have h8 : a % 8 < 8 := by omega
      rw [e2, pu_bV]
      obtain ⟨m, be', al', gc', gm', R', F', res⟩ := sm_TOc hw R F ht ha hl
      rcases res with ⟨c, -, d⟩ | ⟨c, -, d⟩ | ⟨s, hs, c, -, d1, -⟩
      · rw [c, pu_bA5, if_pos pu_neg, lc_untouched ht, d, if_neg (by decide), pu_bVx]
        exact ⟨2, gc', gm', Or.inr ⟨3, rfl, rfl, by decide⟩, be', al', R', F'⟩
      · rw [c, pu_bA5, if_pos pu_neg, lc_untouched ht, d, if_pos rfl, pu_bVx]
        exact ⟨3, gc', gm', Or.inr ⟨4, rfl, rfl, by decide⟩, be', al', R', F'⟩
      · have has := ((R'.2.2.1 t (a / 8) ht (by omega)).2.2 s hs d1).1
        rw [c, pu_bA5, if_neg (pu_lt0 (show s < 2147483648 by omega)), pu_in hs (by omega), pu_g, pu_nz8, pu_g, pu_g, r8, pu_in h8 (by omega), pu_g, pu_lt', nI_clamp (show s < 2 ^ 31 by omega), nI_clamp (show a % 8 < 2 ^ 31 by omega)]
        exact ⟨0, _, _, Or.inl ⟨rfl, rfl⟩, be', al', rl_word_R R' hs has h8, rl_fx_23 F' (pu_uf (by decide))⟩
    · rw [e2, pu_bVx]
      exact ⟨1, gc, gm, Or.inr ⟨1, rfl, rfl, by decide⟩, Q⟩
theorem um_put {w b4 : Int32} (hw : (w = 1 ∧ b4 = 0) ∨ (w = 2 ∧ b4 = 1)) {gc gm : am_S} (x y v : Int32) (h : rl_Q gc gm) : ∃ gc' gm', am_bI (vX7_access x y 1 b4 gm) (fun r2 g1 => if r2 < 0 then (some (.inl none, g1)) else am_g (am_in r2 1040) (am_lt (am_up g1 36 0 r2.toNatClampNeg v) (fun g3 => some (.inl none, g3)))) = some (.inl none, gm') ∧ rl_Q gc' gm' := by
  have Q := h
  obtain ⟨be, al, R, F⟩ := h
  rw [eX7_access]
  rcases sm_living R.1 rfl x with ⟨e1, e2⟩ | ⟨t, ht, rfl, hl, e1, e2⟩
  · rw [e2, pu_bI, if_pos rfl, eX7_access_19, lm_acc1, pu_bI, if_pos pu_neg]
    exact ⟨gc, _, rfl, rl_thr Q⟩
  · rw [e2, pu_bI, if_neg (show ¬ (1 : Int32) = 0 by decide)]
    rcases sm_num (n := 128) (by omega) y gm with ⟨a, ha, rfl, e3⟩ | ⟨hy, e3⟩
    · have e3' : vX7_isNumber (nI a) 128 gm = _ := e3
      have d8 : nI a / 8 = nI (a / 8) := pu_d8 ⟨a, ha⟩
      have r8 : nI a - nI (a / 8) * 8 = nI (a % 8) := by rw [← d8]; exact pu_r8 ⟨a, ha⟩
      have h8 : a % 8 < 8 := by omega
      rw [e3', pu_bI, if_neg (show ¬ (1 : Int32) = 0 by decide), eX7_access_24, pu_lt', pu_us, if_pos (show (0 : Int32) ≤ 0 by decide), pu_nz8, pu_g, d8]
      obtain ⟨c, be', al', gc', gm', R', F', res⟩ := sm_TOm hw (rl_thr_R (v := 0) R) F ht ha hl
      rcases res with ⟨-, m, d⟩ | ⟨-, m, d⟩ | ⟨s, hs, -, m, d1, -⟩
      · rw [m, pu_bI, if_pos rfl, eX7_access_72, pu_lt', pu_us, if_neg (by decide), pu_bI, if_pos pu_neg]
        exact ⟨gc', _, rfl, be', al', rl_thr_R R', F'⟩
      · rw [m, pu_bI, if_neg (by decide), if_pos rfl, eX7_access_72, pu_lt', pu_us, if_neg (by decide), pu_bI, if_pos pu_neg]
        exact ⟨gc', _, rfl, be', al', rl_thr_R R', F'⟩
      · obtain ⟨-, p2, p3⟩ := R'.2.2.1 t (a / 8) ht (by omega)
        have has := (p3 s hs d1).1
        have hbs := (R'.2.2.2.2.1.1 s hs has).1
        rw [d1, rl_bi_s hs] at p2
        rw [m, pu_bI, if_neg (by decide), if_neg (by decide), eX7_access_72, pu_lt', pu_us, if_pos (by decide), pu_nz8, pu_g, d8, pu_16, pu_in (show 16 * t + a / 8 < 128 by omega) (by omega), pu_g, pu_g, nI_clamp (show 16 * t + a / 8 < 2 ^ 31 by omega), pu_uf (show 31 ≠ 24 by decide), p2, r8, pu_8, pu_bI, if_neg (pu_lt0 (by omega)), pu_in (show 8 * be' s + a % 8 < 1040 by omega) (by omega), pu_g, pu_lt', nI_clamp (show 8 * be' s + a % 8 < 2 ^ 31 by omega)]
        exact ⟨am_up gc' 6 s (a % 8) v, _, rfl, be', al', rl_word_R (rl_thr_R R') hs has h8, rl_fx_23 F' (pu_uf (by decide))⟩
    · have e3' : vX7_isNumber y 128 gm = _ := e3
      rw [e3', pu_bI, if_pos rfl, eX7_access_19, lm_acc1, pu_bI, if_pos pu_neg]
      exact ⟨gc, _, rfl, rl_thr Q⟩
theorem uc_reach {be : Nat → Nat} {al : Nat → Bool} {gc gm : am_S} {t : Nat} (x : Int32) (R : rl_R 8 be al gc gm) (F : rl_fx 128 al gc) (ht : t < 8) (hl : gc 19 t 4 = 1) :
    ∃ be' al' gc' gm', rl_R 8 be' al' gc' gm' ∧ rl_fx 128 al' gc' ∧
      ((∃ gT, vX6_touch (nI t) x 1 gc = some (.inl (some (.inr (.inr (5, (-1))))), gT) ∧ vX6_endRefused (nI t) gT = some (.inl none, gc')) ∨
       ∃ s a, s < 128 ∧ a < 128 ∧ x = nI a ∧ al' s = true ∧ vX6_touch (nI t) x 1 gc = some (.inl (some (.inr (.inr (5, nI s)))), gc')) := by
  have dead : ∀ {be1 : Nat → Nat} {al1 : Nat → Bool} {gT gN : am_S}, rl_R 8 be1 al1 gT gN → rl_fx 128 al1 gT → gT 19 t 4 = 1 → ∃ al' gc' gm', rl_R 8 be1 al' gc' gm' ∧ rl_fx 128 al' gc' ∧ vX6_endRefused (nI t) gT = some (.inl none, gc') := by
    intro be1 al1 gT gN R1 F1 h1
    obtain ⟨al', gc', gm', c, m, R', F', -⟩ := sm_endTask (why := 3) R1 F1 ht
    refine ⟨al', gc', gm', R', F', ?_⟩
    rw [eX6_endRefused, pu_in ht (by omega), pu_g, nI_clamp (by omega), h1, if_neg (by decide), c, pu_bV]
  rcases sm_num (n := 128) (by omega) x gm with ⟨a, ha, rfl, -⟩ | ⟨hx, -⟩
  · obtain ⟨m, be', al', gT, gN, R', F', res⟩ := sm_TOc (Or.inl ⟨rfl, rfl⟩) R F ht ha hl
    rcases res with ⟨c, -, d⟩ | ⟨c, -, d⟩ | ⟨s, hs, c, -, d1, -⟩
    · obtain ⟨al2, gc2, gm2, R2, F2, c2⟩ := dead R' F' d
      exact ⟨be', al2, gc2, gm2, R2, F2, Or.inl ⟨gT, c, c2⟩⟩
    · refine ⟨be', al', gT, gN, R', F', Or.inl ⟨gT, c, ?_⟩⟩
      rw [eX6_endRefused, pu_in ht (by omega), pu_g, nI_clamp (by omega), d, if_pos rfl]
    · exact ⟨be', al', gT, gN, R', F', Or.inr ⟨s, a, hs, ha, rfl, ((R'.2.2.1 t (a / 8) ht (by omega)).2.2 s hs d1).1, c⟩⟩
  · obtain ⟨al2, gc2, gm2, R2, F2, c2⟩ := dead R F hl
    refine ⟨be, al2, gc2, gm2, R2, F2, Or.inl ⟨gc, ?_, c2⟩⟩
    have sf : vX5_sheetFor (nI t) x 1 gc = some (.inl (some (.inr (.inr (5, (-1))))), gc) := by
      rw [eX5_sheetFor]
      rcases hx with z | ⟨z, z'⟩
      · rw [if_pos z]
      · rw [if_neg z, if_neg (show ¬ x < 128 from Int32.not_lt.mpr z')]
    rw [eX6_touch, pu_in ht (by omega), pu_g, sf, pu_bA5, if_pos pu_neg]
theorem um_reach {be : Nat → Nat} {al : Nat → Bool} {gc gm : am_S} {t : Nat} (x : Int32) (R : rl_R 8 be al gc gm) (F : rl_fx 128 al gc) (ht : t < 8) (hl : gc 19 t 4 = 1) :
    ∃ be' al' gc' gm', rl_R 8 be' al' gc' gm' ∧ rl_fx 128 al' gc' ∧
      (vX7_reaches (nI t) x 1 gm = some (.inl (some (.inl 0)), gm') ∨
       ∃ s a, s < 128 ∧ a < 128 ∧ x = nI a ∧ al' s = true ∧ be' s < 130 ∧ vX7_reaches (nI t) x 1 gm = some (.inl (some (.inl 1)), gm') ∧ gm' 31 0 (16 * t + a / 8) = nI (be' s)) := by
  have dead : ∀ {be1 : Nat → Nat} {al1 : Nat → Bool} {gT gN : am_S}, rl_R 8 be1 al1 gT gN → rl_fx 128 al1 gT → ∃ al' gc' gm', rl_R 8 be1 al' gc' gm' ∧ rl_fx 128 al' gc' ∧ vX7_reaches_25 (nI t) x 1 1 gN = some (.inl (some (.inl 0)), gm') := by
    intro be1 al1 gT gN R1 F1
    obtain ⟨al', gc', gm', c, m, R', F', -⟩ := sm_endTask (why := 3) R1 F1 ht
    refine ⟨al', gc', gm', R', F', ?_⟩
    rw [eX7_reaches_25, if_pos rfl, m, pu_bV, if_neg (by decide), pu_b0, pu_g]
  rw [eX7_reaches]
  rcases sm_num (n := 128) (by omega) x gm with ⟨a, ha, rfl, e⟩ | ⟨hx, e⟩
  · have e' : vX7_isNumber (nI a) 128 gm = _ := e
    have d8 : nI a / 8 = nI (a / 8) := pu_d8 ⟨a, ha⟩
    rw [e', pu_bI, if_neg (show ¬ (1 : Int32) = 0 by decide), pu_nz8, pu_g, d8]
    obtain ⟨c, be', al', gT, gN, R', F', res⟩ := sm_TOm (w := 1) (b4 := 0) (Or.inl ⟨rfl, rfl⟩) R F ht ha hl
    rcases res with ⟨-, m, d⟩ | ⟨-, m, d⟩ | ⟨s, hs, -, m, d1, -⟩
    · obtain ⟨al2, gc2, gm2, R2, F2, m2⟩ := dead R' F'
      rw [m, pu_bI, m2]
      exact ⟨be', al2, gc2, gm2, R2, F2, Or.inl rfl⟩
    · rw [m, pu_bI, eX7_reaches_25, if_neg (by decide), if_neg (by decide), pu_b0, pu_g]
      exact ⟨be', al', gT, gN, R', F', Or.inl rfl⟩
    · obtain ⟨-, p2, p3⟩ := R'.2.2.1 t (a / 8) ht (by omega)
      have has := (p3 s hs d1).1
      rw [d1, rl_bi_s hs] at p2
      rw [m, pu_bI, eX7_reaches_25, if_neg (by decide), if_pos rfl, pu_b1, pu_g]
      exact ⟨be', al', gT, gN, R', F', Or.inr ⟨s, a, hs, ha, rfl, has, (R'.2.2.2.2.1.1 s hs has).1, rfl, p2⟩⟩
  · have e' : vX7_isNumber x 128 gm = _ := e
    obtain ⟨al2, gc2, gm2, R2, F2, m2⟩ := dead R F
    rw [e', pu_bI, if_pos rfl, m2]
    exact ⟨be, al2, gc2, gm2, R2, F2, Or.inl rfl⟩
