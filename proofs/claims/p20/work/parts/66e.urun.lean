/-! instructions and runs, each side for itself -/
theorem uc_perform {be : Nat → Nat} {al : Nat → Bool} {gc gm : am_S} {t : Nat} (w : Int32) (R0 : rl_R 8 be al gc gm) (F0 : rl_fx 128 al gc) (ht : t < 8) (hl0 : gc 19 t 4 = 1) :
    ∃ be' al' gc' gm', rl_R 8 be' al' gc' gm' ∧ rl_fx 128 al' gc' ∧ vX6_perform (nI t) w (am_up gc 19 t 6 (gc 19 t 6 + 1)) = some (.inl none, gc') := by
  by_cases w3 : (w.toUInt32 >>> (Int32.toUInt32 24 &&& Int32.toUInt32 31)).toInt32 = (((0 + 1 + 1) + 1))
  · have R := rl_cnt_R (t := t) (v := gc 19 t 6 + 1) R0
    have F := rl_fx_23 (gc' := am_up gc 19 t 6 (gc 19 t 6 + 1)) F0 (pu_uf (by decide))
    have hl : (am_up gc 19 t 6 (gc 19 t 6 + 1)) 19 t 4 = 1 := by rw [pu_uj (by decide)]; exact hl0
    generalize am_up gc 19 t 6 (gc 19 t 6 + 1) = g at R F hl
    generalize am_up gm 28 0 t (gc 19 t 6 + 1) = m at R
    obtain ⟨r, hr, er⟩ := pu_and3 (w >>> (((22 : Int32) &&& (31 : Int32)) : Int32) : Int32)
    obtain ⟨q, hq, eq⟩ := pu_and3 (w >>> (((20 : Int32) &&& (31 : Int32)) : Int32) : Int32)
    rw [eX6_perform, pu_sh22, pu_sh20, er, eq, pu_lv, pu_lv, pu_lv, pu_in ht (by omega), pu_g, pu_g, pu_in hq (by omega), pu_g, pu_lv, nI_clamp (show t < 2 ^ 31 by omega), nI_clamp (show q < 2 ^ 31 by omega)]
    generalize w.toInt16.toInt32 = n
    generalize (w.toUInt32 >>> (Int32.toUInt32 24 &&& Int32.toUInt32 31)).toInt32 = W at w3
    generalize g 20 t q + n = x
    rw [if_neg (by rw [w3]; decide), if_neg (by rw [w3]; decide), if_neg (by rw [w3]; decide), if_pos w3]
    obtain ⟨be', al', gc', gm', R', F', ⟨gT, c1, c2⟩ | ⟨s, a, hs, ha, rfl, has, c1⟩⟩ := uc_reach x R F ht hl
    · rw [c1, pu_bA5, if_pos pu_neg, c2, pu_bV]
      exact ⟨be', al', gc', gm', R', F', rfl⟩
    · have d8 : nI a / 8 = nI (a / 8) := pu_d8 ⟨a, ha⟩
      have r8 : nI a - nI (a / 8) * 8 = nI (a % 8) := by rw [← d8]; exact pu_r8 ⟨a, ha⟩
      have h8 : a % 8 < 8 := by omega
      rw [c1, pu_bA5, if_neg (pu_lt0 (by omega)), pu_in hs (by omega), pu_g, pu_nz8, pu_g, pu_g, pu_in hr (by omega), pu_g, pu_g, d8, r8, pu_in h8 (by omega), pu_g, pu_lt', nI_clamp (show s < 2 ^ 31 by omega), nI_clamp (show a % 8 < 2 ^ 31 by omega), nI_clamp (show r < 2 ^ 31 by omega)]
      exact ⟨be', al', _, _, rl_word_R R' hs has h8, rl_fx_23 F' (pu_uf (by decide)), rfl⟩
  · obtain ⟨be', al', gc', gm', R', F', e1, -⟩ := sm_perform w (fun z => absurd z w3) R0 F0 ht hl0
    exact ⟨be', al', gc', gm', R', F', e1⟩
theorem um_perform {be : Nat → Nat} {al : Nat → Bool} {gc gm : am_S} {t : Nat} (w : Int32) (R0 : rl_R 8 be al gc gm) (F0 : rl_fx 128 al gc) (ht : t < 8) (hl0 : gc 19 t 4 = 1) :
    ∃ be' al' gc' gm', rl_R 8 be' al' gc' gm' ∧ rl_fx 128 al' gc' ∧ vX7_step_54 (nI t) w gm = some (.inl none, gm') := by
  by_cases w3 : (w.toUInt32 >>> (Int32.toUInt32 24 &&& Int32.toUInt32 31)).toInt32 = (((0 + 1 + 1) + 1))
  · have cn : gm 28 0 t = gc 19 t 6 := (R0.2.1 t ht).1
    have R := rl_cnt_R (t := t) (v := gc 19 t 6 + 1) R0
    have F := rl_fx_23 (gc' := am_up gc 19 t 6 (gc 19 t 6 + 1)) F0 (pu_uf (by decide))
    have hl : (am_up gc 19 t 6 (gc 19 t 6 + 1)) 19 t 4 = 1 := by rw [pu_uj (by decide)]; exact hl0
    rw [eX7_step_54, pu_in ht (by omega), pu_g, pu_g, pu_lt', nI_clamp (show t < 2 ^ 31 by omega), cn]
    generalize am_up gc 19 t 6 (gc 19 t 6 + 1) = g at R F hl
    generalize am_up gm 28 0 t (gc 19 t 6 + 1) = m at R
    obtain ⟨r, hr, er⟩ := pu_and3 (w >>> (((22 : Int32) &&& (31 : Int32)) : Int32) : Int32)
    obtain ⟨q, hq, eq⟩ := pu_and3 (w >>> (((20 : Int32) &&& (31 : Int32)) : Int32) : Int32)
    have hr4 : 4 * t + r < 32 := by omega
    rw [er, eq, pu_4, pu_lv, pu_4, pu_lv, pu_lv, pu_in (show 4 * t + q < 32 by omega) (by omega), pu_g, pu_lv, eX7_step_103]
    generalize m 29 0 (nI (4 * t + q)).toNatClampNeg + w.toInt16.toInt32 = x
    generalize w.toInt16.toInt32 = n
    generalize (w.toUInt32 >>> (Int32.toUInt32 24 &&& Int32.toUInt32 31)).toInt32 = W at w3
    rw [if_neg (by rw [w3]; decide), if_neg (by rw [w3]; decide), if_neg (by rw [w3]; decide), if_pos w3]
    obtain ⟨be', al', gc', gm', R', F', c1 | ⟨s, a, hs, ha, rfl, has, hbs, c2, c3⟩⟩ := um_reach x R F ht hl
    · rw [c1, pu_bI, if_pos rfl]
      exact ⟨be', al', gc', gm', R', F', rfl⟩
    · have d8 : nI a / 8 = nI (a / 8) := pu_d8 ⟨a, ha⟩
      have r8 : nI a - nI (a / 8) * 8 = nI (a % 8) := by rw [← d8]; exact pu_r8 ⟨a, ha⟩
      have h8 : a % 8 < 8 := by omega
      rw [c2, pu_bI, if_neg (show ¬ (1 : Int32) = 0 by decide), pu_nz8, pu_g, d8, r8, pu_16, pu_in (show 16 * t + a / 8 < 128 by omega) (by omega), pu_g, pu_g, pu_in hr4 (by omega), pu_g, nI_clamp (show 16 * t + a / 8 < 2 ^ 31 by omega), c3, pu_8, pu_in (show 8 * be' s + a % 8 < 1040 by omega) (by omega), pu_g, pu_lt', nI_clamp (show 8 * be' s + a % 8 < 2 ^ 31 by omega)]
      exact ⟨be', al', _, _, rl_word_R R' hs has h8, rl_fx_23 F' (pu_uf (by decide)), rfl⟩
  · obtain ⟨be', al', gc', gm', R', F', -, e2⟩ := sm_perform w (fun z => absurd z w3) R0 F0 ht hl0
    exact ⟨be', al', gc', gm', R', F', e2⟩
theorem uc_step {be : Nat → Nat} {al : Nat → Bool} {gc gm : am_S} {t : Nat} (R : rl_R 8 be al gc gm) (F : rl_fx 128 al gc) (ht : t < 8) (hl : gc 19 t 4 = 1) :
    ∃ be' al' gc' gm', rl_R 8 be' al' gc' gm' ∧ rl_fx 128 al' gc' ∧ ∀ (a1 a2 j : Int32) (p5 p6 : Option am_v), ¬ a2 ≤ j → ∃ o5 o6, vX6_run_30 a1 a2 (nI t) j p5 p6 gc = vX6_run_30 a1 a2 (nI t) (j + 1) o5 o6 gc' := by
  have start : ∀ (a1 a2 j : Int32) (p5 p6 : Option am_v), ¬ a2 ≤ j → vX6_run_30 a1 a2 (nI t) j p5 p6 gc = am_bA 5 (vX6_touch (nI t) (gc 19 t 6) 0 gc) (fun r3 g2 => if r3 < 0 then (am_bV (vX6_endRefused (nI t) g2) (fun g6 => vX6_run_30 a1 a2 (nI t) (j + 1) (some (.inl (gc 19 t 6))) (some (.inr (.inr (5, r3)))) g6)) else am_g (am_in (nI t) 8) (am_lt (am_up g2 19 (nI t).toNatClampNeg 6 (gc 19 t 6 + 1)) (fun g4 => am_g (am_in r3 128) (am_g (am_nz 8) (am_g (am_in r3 128) (am_g (am_in (gc 19 t 6 - gc 19 t 6 / 8 * 8) 8) (am_bV (vX6_perform (nI t) (g4 6 r3.toNatClampNeg (gc 19 t 6 - gc 19 t 6 / 8 * 8).toNatClampNeg) g4) (fun g5 => vX6_run_30 a1 a2 (nI t) (j + 1) (some (.inl (gc 19 t 6))) (some (.inr (.inr (5, r3)))) g5)))))))) := by
    intro a1 a2 j p5 p6 h
    rw [eX6_run_30, if_neg h, pu_in ht (by omega), pu_g, nI_clamp (show t < 2 ^ 31 by omega), hl, if_neg (by decide), pu_g, pu_lv]
  obtain ⟨be', al', gc', gm', R', F', ⟨gT, c1, c2, c3⟩ | ⟨s, a, hs, ha, ea, has, hbs, c1, c2, c3, c4, c5⟩⟩ := sm_reach sm_TO_r (gc 19 t 6) R F ht hl
  · refine ⟨be', al', gc', gm', R', F', fun a1 a2 j p5 p6 h => ⟨some (.inl (gc 19 t 6)), some (.inr (.inr (5, (-1)))), ?_⟩⟩
    rw [start a1 a2 j p5 p6 h, c1, pu_bA5, if_pos pu_neg, c2, pu_bV]
  · have d8 : nI a / 8 = nI (a / 8) := pu_d8 ⟨a, ha⟩
    have r8 : nI a - nI (a / 8) * 8 = nI (a % 8) := by rw [← d8]; exact pu_r8 ⟨a, ha⟩
    have h8 : a % 8 < 8 := by omega
    have ea' : gc' 19 t 6 = nI a := by rw [c4]; exact ea
    obtain ⟨be2, al2, gc2, gm2, R2, F2, e1⟩ := uc_perform (gc' 6 s (a % 8)) R' F' ht (by rw [c4]; exact hl)
    refine ⟨be2, al2, gc2, gm2, R2, F2, fun a1 a2 j p5 p6 h => ⟨some (.inl (nI a)), some (.inr (.inr (5, nI s))), ?_⟩⟩
    have q6 : ∀ v : Int32, (am_up gc' 19 t 6 v) 6 s (a % 8) = gc' 6 s (a % 8) := fun v => by rw [pu_uf (by decide)]
    rw [ea'] at e1
    rw [start a1 a2 j p5 p6 h, c1, pu_bA5, if_neg (pu_lt0 (by omega)), pu_in ht (by omega), pu_g, pu_lt', pu_in hs (by omega), pu_g, pu_nz8, pu_g, pu_g, ea, d8, r8, pu_in h8 (by omega), pu_g, nI_clamp (show t < 2 ^ 31 by omega), nI_clamp (show s < 2 ^ 31 by omega), nI_clamp (show a % 8 < 2 ^ 31 by omega), q6, e1, pu_bV]
theorem um_step {be : Nat → Nat} {al : Nat → Bool} {gc gm : am_S} {t : Nat} (R : rl_R 8 be al gc gm) (F : rl_fx 128 al gc) (ht : t < 8) (hl : gc 19 t 4 = 1) :
    ∃ be' al' gc' gm', rl_R 8 be' al' gc' gm' ∧ rl_fx 128 al' gc' ∧ vX7_step (nI t) gm = some (.inl none, gm') := by
  have cn : gm 28 0 t = gc 19 t 6 := (R.2.1 t ht).1
  rw [eX7_step, pu_in ht (by omega), pu_g, nI_clamp (show t < 2 ^ 31 by omega), cn]
  obtain ⟨be', al', gc', gm', R', F', ⟨gT, c1, c2, c3⟩ | ⟨s, a, hs, ha, ea, has, hbs, c1, c2, c3, c4, c5⟩⟩ := sm_reach sm_TO_r (gc 19 t 6) R F ht hl
  · rw [c3, pu_bI, if_pos rfl]
    exact ⟨be', al', gc', gm', R', F', rfl⟩
  · have d8 : nI a / 8 = nI (a / 8) := pu_d8 ⟨a, ha⟩
    have r8 : nI a - nI (a / 8) * 8 = nI (a % 8) := by rw [← d8]; exact pu_r8 ⟨a, ha⟩
    have h8 : a % 8 < 8 := by omega
    have cn' : gm' 28 0 t = nI a := by rw [(R'.2.1 t ht).1, c4]; exact ea
    obtain ⟨be2, al2, gc2, gm2, R2, F2, e2⟩ := um_perform (gc' 6 s (a % 8)) R' F' ht (by rw [c4]; exact hl)
    refine ⟨be2, al2, gc2, gm2, R2, F2, ?_⟩
    rw [c2, pu_bI, if_neg (show ¬ (1 : Int32) = 0 by decide), pu_g, pu_nz8, pu_g, cn', d8, r8, pu_16, pu_in (show 16 * t + a / 8 < 128 by omega) (by omega), pu_g, pu_g, pu_g, nI_clamp (show 16 * t + a / 8 < 2 ^ 31 by omega), c3, pu_8, pu_in (show 8 * be' s + a % 8 < 1040 by omega) (by omega), pu_g, pu_lv, nI_clamp (show 8 * be' s + a % 8 < 2 ^ 31 by omega), (R'.2.2.2.2.2.2.2.1 s hs has).2.1 (a % 8) h8, e2]
theorem uc_runl {t n : Nat} {A1 : Int32} (ht : t < 8) (hn : n ≤ 200) : ∀ (d j : Nat) (be : Nat → Nat) (al : Nat → Bool) (gc gm : am_S) (p5 p6 : Option am_v), j + d = n → rl_R 8 be al gc gm → rl_fx 128 al gc →
    ∃ gc' gm' w, rl_Q gc' gm' ∧ vX6_run_30 A1 (nI n) (nI t) (nI j) p5 p6 gc = some (.inl (some (.inl w)), gc') := by
  intro d
  induction d with
  | zero =>
    intro j be al gc gm p5 p6 hj R F
    have e : j = n := by omega
    subst e
    rw [eX6_run_30, if_pos (nI_le (Nat.le_refl _) (by omega))]
    exact ⟨gc, gm, nI j, ⟨be, al, R, F⟩, rfl⟩
  | succ d ih =>
    intro j be al gc gm p5 p6 hj R F
    obtain ⟨t1, t2, -⟩ := R.1 t ht (by omega)
    have nle : ¬ nI n ≤ nI j := nI_ge (by omega) (by omega)
    rcases t2 with z | z
    · rw [eX6_run_30, if_neg nle, pu_in ht (by omega), pu_g, nI_clamp (by omega), z, if_pos rfl]
      exact ⟨gc, gm, nI j, ⟨be, al, R, F⟩, rfl⟩
    · obtain ⟨be', al', gc', gm', R', F', c⟩ := uc_step R F ht z
      obtain ⟨o5, o6, c'⟩ := c A1 (nI n) (nI j) p5 p6 nle
      obtain ⟨gc2, gm2, w, Q, e1⟩ := ih (j + 1) be' al' gc' gm' o5 o6 (by omega) R' F'
      refine ⟨gc2, gm2, w, Q, ?_⟩
      rw [c', nI_1]; exact e1
theorem um_runl {t n : Nat} (ht : t < 8) (hn : n ≤ 200) : ∀ (d j : Nat) (be : Nat → Nat) (al : Nat → Bool) (gc gm : am_S), j + d = n → rl_R 8 be al gc gm → rl_fx 128 al gc →
    ∃ gc' gm' w, rl_Q gc' gm' ∧ vX7_run_43 (nI t) (nI n) (nI j) gm = some (.inl (some (.inl w)), gm') := by
  intro d
  induction d with
  | zero =>
    intro j be al gc gm hj R F
    have e : j = n := by omega
    subst e
    rw [eX7_run_43, if_pos (nI_le (Nat.le_refl _) (by omega))]
    exact ⟨gc, gm, nI j, ⟨be, al, R, F⟩, rfl⟩
  | succ d ih =>
    intro j be al gc gm hj R F
    obtain ⟨t1, t2, -⟩ := R.1 t ht (by omega)
    have nle : ¬ nI n ≤ nI j := nI_ge (by omega) (by omega)
    rcases t2 with z | z
    · rw [eX7_run_43, if_neg nle, pu_in ht (by omega), pu_g, nI_clamp (by omega), t1, z, if_pos rfl]
      exact ⟨gc, gm, nI j, ⟨be, al, R, F⟩, rfl⟩
    · obtain ⟨be', al', gc', gm', R', F', m⟩ := um_step R F ht z
      obtain ⟨gc2, gm2, w, Q, e2⟩ := ih (j + 1) be' al' gc' gm' (by omega) R' F'
      refine ⟨gc2, gm2, w, Q, ?_⟩
      rw [eX7_run_43, if_neg nle, pu_in ht (by omega), pu_g, nI_clamp (by omega), t1, z, if_neg (by decide), m, pu_bV, nI_1]; exact e2
/-- how the class's call that answers comes out -/
def uc_O (th : Nat → Int32) (r : am_R) (gc' : am_S) : Prop := (∃ w, r = some (.inl (some (.inl w)), gc')) ∨ ∃ e, r = some (.inr e, gc') ∧ ¬ th e = 0
theorem uc_run {gc gm : am_S} (x y : Int32) (h : rl_Q gc gm) : ∃ gc' gm', uc_O th_12 (vX6_run x y gc) gc' ∧ rl_Q gc' gm' := by
  have Q := h
  obtain ⟨be, al, R, F⟩ := h
  rw [eX6_run]
  rcases sm_living R.1 rfl x with ⟨e1, -⟩ | ⟨t, ht, rfl, hl, e1, -⟩
  · rw [e1, pu_bAx]
    exact ⟨gc, gm, Or.inr ⟨1, rfl, by decide⟩, Q⟩
  · rw [e1, pu_bA19]
    by_cases y0 : y < 0
    · rw [if_pos y0]
      exact ⟨gc, gm, Or.inr ⟨2, rfl, by decide⟩, Q⟩
    rw [if_neg y0]
    by_cases y2 : y ≤ 200
    · rw [if_pos y2]
      obtain ⟨n, hn, rfl⟩ := nI_of y0
      have hn2 : n ≤ 200 := (nI_leI (a := n) (b := 200) hn (by omega)).mp y2
      obtain ⟨gc', gm', w, Q', c⟩ := uc_runl (A1 := nI t) ht hn2 n 0 be al gc gm none none (Nat.zero_add _) R F
      exact ⟨gc', gm', Or.inl ⟨w, c⟩, Q'⟩
    · rw [if_neg y2]
      exact ⟨gc, gm, Or.inr ⟨2, rfl, by decide⟩, Q⟩
theorem um_run {gc gm : am_S} (x y : Int32) (h : rl_Q gc gm) : ∃ gc' gm' w, vX7_run x y gm = some (.inl (some (.inl w)), gm') ∧ rl_Q gc' gm' := by
  have Q := h
  obtain ⟨be, al, R, F⟩ := h
  have thr : ∀ v : Int32, ¬ v ≤ 0 → vX7_run_29 x y v gm = some (.inl (some (.inl 0)), am_up gm 24 0 0 v) := fun v hv => by
    rw [eX7_run_29, pu_lt', pu_us, if_neg hv]
  rw [eX7_run]
  rcases sm_living R.1 rfl x with ⟨e1, e2⟩ | ⟨t, ht, rfl, hl, e1, e2⟩
  · rw [e2, pu_bI, if_pos rfl, thr 1 (by decide)]
    exact ⟨gc, _, 0, rfl, rl_thr Q⟩
  rw [e2, pu_bI, if_neg (show ¬ (1 : Int32) = 0 by decide)]
  by_cases y0 : y < 0
  · rw [if_pos y0, eX7_run_24, thr 2 (by decide)]
    exact ⟨gc, _, 0, rfl, rl_thr Q⟩
  rw [if_neg y0]
  by_cases y2 : y ≤ 200
  · rw [if_pos y2, eX7_run_29, pu_lt', pu_us, if_pos (show (0 : Int32) ≤ 0 by decide)]
    obtain ⟨n, hn, rfl⟩ := nI_of y0
    have hn2 : n ≤ 200 := (nI_leI (a := n) (b := 200) hn (by omega)).mp y2
    obtain ⟨gc', gm', w, Q', m⟩ := um_runl ht hn2 n 0 be al gc (am_up gm 24 0 0 0) (Nat.zero_add _) (rl_thr_R R) F
    exact ⟨gc', gm', w, m, Q'⟩
  · rw [if_neg y2, eX7_run_24, thr 2 (by decide)]
    exact ⟨gc, _, 0, rfl, rl_thr Q⟩
