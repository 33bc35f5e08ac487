/-! about -/
theorem sm_mapd {be : Nat → Nat} {al : Nat → Bool} {gc gm : am_S} {t : Nat} {w : Int32} (hpg : rl_pg be al gc gm) (hal : rl_al be al gm) (ht : t < 8) : ∃ n, vX5_mappedPages (nI t) gc = some (.inl (some (.inl (nI n))), gc) ∧ vX7_about_163 (nI t) w 0 0 gm = some (.inl (some (.inl (nI n))), gm) := by
  rw [eX5_mappedPages]
  obtain ⟨a, b, rfl, e1, e2⟩ := pu_loop2 16 (fun j (a : Nat) => vX5_mappedPages_4 (nI t) (nI a) (nI j) gc) (fun j (b : Nat) => vX7_about_163 (nI t) w (nI b) (nI j) gm) (fun j a b => a = b) (fun j a b hj hp => by
    subst hp
    obtain ⟨o1, o2, o3⟩ := hpg t j ht hj
    show ∃ a' b' : Nat, a' = b' ∧ vX5_mappedPages_4 (nI t) (nI a) (nI j) gc = vX5_mappedPages_4 (nI t) (nI a') (nI (j + 1)) gc ∧ vX7_about_163 (nI t) w (nI a) (nI j) gm = vX7_about_163 (nI t) w (nI b') (nI (j + 1)) gm
    rw [eX5_mappedPages_4, eX7_about_163, if_neg (pu_nge (x := 16) (k := 16) rfl hj (by omega)), if_neg (pu_nge (x := 16) (k := 16) rfl hj (by omega)), pu_in ht (by omega), pu_g, pu_g, pu_in hj (by omega), pu_g, pu_16, pu_in (show 16 * t + j < 128 by omega) (by omega), pu_g, nI_clamp (show t < 2 ^ 31 by omega), nI_clamp (show j < 2 ^ 31 by omega), nI_clamp (show 16 * t + j < 2 ^ 31 by omega), o2, pu_lv, nI_1, nI_1]
    rcases o1 with z | ⟨s, hs, z⟩
    · rw [z, rl_bi_m, if_pos pu_neg, if_pos pu_neg]
      exact ⟨a, a, rfl, rfl, rfl⟩
    · have hb := (hal.1 s hs (o3 s hs z).1).1
      rw [z, rl_bi_s hs, if_neg (pu_lt0 (by omega)), if_neg (pu_lt0 (by omega))]
      exact ⟨a + 1, a + 1, rfl, rfl, rfl⟩) 16 0 0 0 rfl rfl
  refine ⟨a, ?_, ?_⟩
  · refine Eq.trans (show vX5_mappedPages_4 (nI t) 0 0 gc = vX5_mappedPages_4 (nI t) (nI a) (nI 16) gc from e1) ?_
    rw [eX5_mappedPages_4, if_pos (show (16 : Int32) ≤ nI 16 from by decide)]
  · refine Eq.trans (show vX7_about_163 (nI t) w 0 0 gm = vX7_about_163 (nI t) w (nI a) (nI 16) gm from e2) ?_
    rw [eX7_about_163, if_pos (show (16 : Int32) ≤ nI 16 from by decide)]
theorem sm_about {gc gm : am_S} (x w : Int32) (h : rl_Q gc gm) : sm_OB (vX6_about x w gc) (vX7_about x w gm) := by
  have h' := rl_thr (v := 0) h
  obtain ⟨be, al, R0, F⟩ := h
  have R := rl_thr_R (v := 0) R0
  have go : ∀ v : Int32, sm_OB (some (.inl (some (.inl v)), gc)) (some (.inl (some (.inl v)), am_up gm 24 0 0 0)) := fun v => ⟨gc, _, v, h', rfl, rfl⟩
  rw [eX6_about, eX7_about, pu_lt']
  generalize hY : am_up gm 24 0 0 0 = Y at R go
  rcases sm_num (n := 8) (by omega) x Y with ⟨t, ht, rfl, e⟩ | ⟨hx, e⟩
  · have e' : vX7_isNumber (nI t) 8 Y = _ := e
    rw [e', pu_bI, if_neg (show ¬ (1 : Int32) = 0 by decide), if_neg (pu_lt0 (by omega)), if_neg (pu_nge (x := 8) (k := 8) rfl ht (by omega))]
    by_cases w0 : w < 0
    · rw [if_pos w0, if_pos w0]; exact go _
    · rw [if_neg w0, if_neg w0]
      by_cases w12 : w ≤ 12
      · rw [if_pos w12, if_pos w12]
        obtain ⟨j, hj0, rfl⟩ := nI_of w0
        have hj : j ≤ 12 := (nI_leI (a := j) (b := 12) hj0 (by omega)).mp w12
        obtain ⟨t1, t2, t3, t4, t5, t6⟩ := R.1 t ht (by omega)
        obtain ⟨g1, g2, g3⟩ := R.2.1 t ht
        have T78 : ¬ gc 19 t 4 = 0 → vX6_about_78 (nI t) (nI j) (nI t) gc = am_bI (vX5_told (nI t) (nI j) gc) (fun r2 g1 => some (.inl (some (.inl r2)), g1)) := fun hl => by
          rw [eX6_about_78, pu_in ht (by omega), pu_g, nI_clamp (by omega), if_neg hl, pu_g]
        have T78d : gc 19 t 4 = 0 → vX6_about_78 (nI t) (nI j) (nI t) gc = some (.inl (some (.inl 0)), gc) := fun hl => by
          rw [eX6_about_78, pu_in ht (by omega), pu_g, nI_clamp (by omega), if_pos hl]
        have M76d : gc 19 t 4 = 0 → vX7_about_76 (nI t) (nI j) Y = some (.inl (some (.inl 0)), Y) := fun hl => by
          rw [eX7_about_76, pu_in ht (by omega), pu_g, nI_clamp (by omega), t1, if_pos hl]
        by_cases j0 : j = 0
        · subst j0
          rw [if_pos (show nI 0 = 0 from rfl), if_pos (show nI 0 = 0 from rfl), pu_in ht (by omega), pu_g, pu_g, pu_g, nI_clamp (by omega), t1, t6]
          rw [pu_g]
          by_cases hl : gc 19 t 4 = 0
          · rw [if_pos hl]; exact go _
          · rw [if_neg hl]
            have hl1 : gc 19 t 4 = 1 := by rcases t2 with z | z; exact absurd z hl; exact z
            rw [(t4 hl1).2]; exact go _
        · rw [if_neg (pu_ne (x := 0) (k := 0) rfl j0 (by omega) (by omega)), if_neg (pu_ne (x := 0) (k := 0) rfl j0 (by omega) (by omega)), pu_in ht (by omega), pu_g, pu_g, nI_clamp (by omega)]
          by_cases j7 : 7 ≤ j ∧ j ≤ 9
          · have d1 : nI j - 7 = nI (j - 7) := pu_sub (a := j) (b := 7) (by omega)
            have d2 : (3 : Int32) * nI t + nI j - 7 = nI (3 * t + (j - 7)) := by rw [pu_3]; refine Eq.trans (pu_sub (a := 3 * t + j) (b := 7) (by omega)) (congrArg nI (by omega))
            rw [if_neg (pu_ne (x := 1) (k := 1) rfl (by omega) (by omega) (by omega)), if_neg (pu_nlt (x := 7) (k := 7) rfl (by omega) (by omega)), if_neg (pu_ngt (x := 9) (k := 9) rfl (by omega) (by omega)), if_neg (pu_nlt (x := 7) (k := 7) rfl (by omega) (by omega)), if_neg (pu_nge (x := 10) (k := 10) rfl (by omega) (by omega)), pu_g, pu_g, d1, d2, pu_in (show j - 7 < 3 by omega) (by omega), pu_g, pu_in (show 3 * t + (j - 7) < 24 by omega) (by omega), pu_g, nI_clamp (show j - 7 < 2 ^ 31 by omega), nI_clamp (show 3 * t + (j - 7) < 2 ^ 31 by omega), g3 (j - 7) (by omega)]
            exact go _
          · have cm : (if nI j < 7 then vX7_about_76 (nI t) (nI j) Y else if 10 ≤ nI j then vX7_about_76 (nI t) (nI j) Y else am_g (am_in (((3 * nI t) + nI j) - 7) 24) (some (.inl (some (.inl (Y 30 0 (((3 * nI t) + nI j) - 7).toNatClampNeg))), Y))) = vX7_about_76 (nI t) (nI j) Y := by
              by_cases o : j < 7
              · rw [if_pos (pu_lt (x := 7) (k := 7) rfl o (by omega))]
              · rw [if_neg (pu_nlt (x := 7) (k := 7) rfl (by omega) (by omega)), if_pos (pu_ge (x := 10) (k := 10) rfl (by omega) (by omega))]
            rw [cm]
            by_cases j1 : j = 1
            · subst j1
              rw [if_pos (show nI 1 = 1 from rfl)]
              by_cases hl : gc 19 t 4 = 0
              · rw [if_pos hl, M76d hl]; exact go _
              · rw [if_neg hl, eX7_about_76, pu_in ht (by omega), pu_g, nI_clamp (by omega), t1, if_neg hl, if_pos (show nI 1 = 1 from rfl)]; exact go _
            · have cc : (if nI j < 7 then vX6_about_78 (nI t) (nI j) (nI t) gc else if 9 < nI j then vX6_about_78 (nI t) (nI j) (nI t) gc else am_g true (am_g true (am_g (am_in (nI j - 7) 3) (some (.inl (some (.inl (gc 21 t (nI j - 7).toNatClampNeg))), gc))))) = vX6_about_78 (nI t) (nI j) (nI t) gc := by
                by_cases o : j < 7
                · rw [if_pos (pu_lt (x := 7) (k := 7) rfl o (by omega))]
                · rw [if_neg (pu_nlt (x := 7) (k := 7) rfl (by omega) (by omega)), if_pos (pu_gt (x := 9) (k := 9) rfl (by omega) (by omega))]
              rw [if_neg (pu_ne (x := 1) (k := 1) rfl j1 (by omega) (by omega)), cc]
              by_cases hl : gc 19 t 4 = 0
              · rw [T78d hl, M76d hl]; exact go _
              · have hl1 : gc 19 t 4 = 1 := by rcases t2 with z | z; exact absurd z hl; exact z
                rw [T78 hl, eX5_told, eX7_about_76, pu_in ht (by omega), pu_g, nI_clamp (by omega), t1, if_neg hl, if_neg (pu_ne (x := 1) (k := 1) rfl j1 (by omega) (by omega))]
                by_cases j2 : j = 2
                · subst j2
                  rw [if_pos (show nI 2 = 2 from rfl), if_pos (show nI 2 = 2 from rfl), pu_g, pu_bI, pu_g, g1]; exact go _
                · rw [if_neg (pu_ne (x := 2) (k := 2) rfl j2 (by omega) (by omega)), if_neg (pu_ne (x := 2) (k := 2) rfl j2 (by omega) (by omega))]
                  by_cases j6 : j ≤ 6
                  · have d1 : nI j - 3 = nI (j - 3) := pu_sub (a := j) (b := 3) (by omega)
                    have d2 : (4 : Int32) * nI t + nI j - 3 = nI (4 * t + (j - 3)) := by rw [pu_4]; refine Eq.trans (pu_sub (a := 4 * t + j) (b := 3) (by omega)) (congrArg nI (by omega))
                    rw [if_neg (pu_nlt (x := 3) (k := 3) rfl (by omega) (by omega)), if_neg (pu_ngt (x := 6) (k := 6) rfl (by omega) (by omega)), if_neg (pu_nge (x := 7) (k := 7) rfl (by omega) (by omega)), pu_g, pu_g, d1, d2, pu_in (show j - 3 < 4 by omega) (by omega), pu_g, pu_in (show 4 * t + (j - 3) < 32 by omega) (by omega), pu_g, nI_clamp (show j - 3 < 2 ^ 31 by omega), nI_clamp (show 4 * t + (j - 3) < 2 ^ 31 by omega), g2 (j - 3) (by omega), pu_bI]
                    exact go _
                  · rw [if_neg (pu_nlt (x := 3) (k := 3) rfl (by omega) (by omega)), if_pos (pu_gt (x := 6) (k := 6) rfl (by omega) (by omega)), if_pos (pu_ge (x := 7) (k := 7) rfl (by omega) (by omega)), eX5_told_30, pu_in ht (by omega), nI_clamp (by omega)]
                    by_cases j10 : j = 10
                    · subst j10
                      obtain ⟨n, q1, q2⟩ := sm_mapd (w := nI 10) R.2.2.1 R.2.2.2.2.1 ht
                      rw [if_pos (show nI 10 = 10 from rfl), pu_g, q1, pu_bI, pu_bI, if_neg (show ¬ nI 10 = 11 by decide), if_neg (show ¬ nI 10 = 12 by decide), q2]; exact go _
                    · rw [if_neg (pu_ne (x := 10) (k := 10) rfl j10 (by omega) (by omega))]
                      by_cases j11 : j = 11
                      · subst j11
                        rw [if_pos (show nI 11 = 11 from rfl), if_pos (show nI 11 = 11 from rfl), pu_g, lc_own ht (fun p hp => (R.2.2.1 t p ht hp).1), pu_bI, pu_bI, lm_own R.2.2.1 R.2.2.2.2.1 R.2.2.2.2.2.2.2.1 ht, pu_bI]; exact go _
                      · have j12 : j = 12 := by omega
                        subst j12
                        rw [if_neg (show ¬ nI 12 = 11 by decide), if_neg (show ¬ nI 12 = 11 by decide), if_pos (show nI 12 = 12 from rfl), pu_g, pu_g, (t4 hl1).1]
                        by_cases v : gc 19 t 5 = 0
                        · rw [if_pos v, if_pos v, pu_bI]; exact go _
                        · rw [if_neg v, if_neg v, pu_bI]; exact go _
      · rw [if_neg w12, if_neg w12]; exact go _
  · have e' : vX7_isNumber x 8 Y = _ := e
    rw [e', pu_bI, if_pos rfl]
    rcases hx with z | ⟨z, q⟩
    · rw [if_pos z]; exact go _
    · rw [if_neg z, if_pos (show (8 : Int32) ≤ x from q)]; exact go _
