/-! a process is doubled, on both sides -/
theorem sm_double {be : Nat → Nat} {al : Nat → Bool} {gc gm : am_S} {q : Nat} (R : rl_R 8 be al gc gm) (F : rl_fx 128 al gc) (hq : q < 8) (hl : gc 19 q 4 = 1) :
    ∃ gc' gm', rl_R 8 be al gc' gm' ∧ rl_fx 128 al gc' ∧ ((vX6_doubled (nI q) gc = some (.inl (some (.inl (-1))), gc') ∧ vX7_divide (nI q) gm = some (.inl (some (.inl (-1))), gm')) ∨ ∃ n, n < 8 ∧ vX6_doubled (nI q) gc = some (.inl (some (.inl (nI n))), gc') ∧ vX7_divide (nI q) gm = some (.inl (some (.inl (nI n))), gm')) := by
  obtain ⟨g1, b1, b2, hmay⟩ := lc_may (n := 16) (p := 0) R.2.2.2.1 (fun i hi => (R.2.2.1 q i hq hi).1) hq (by omega)
  have R1 := rl_seen_R R (fun f a _ _ => b1 f a) b2
  have F1 : rl_fx 128 al g1 := fun s hs ha hx => by rw [rl_pc_congr (b1 23 (by decide))]; exact F s hs ha hx
  have hdiv := lm_div R.2.2.1 R.2.2.2.2.1 hq
  rw [eX6_doubled]
  rcases sm_lowest R.1 with ⟨e1, e2⟩ | ⟨t, ht, hd, e1, e2⟩
  · rw [e1, pu_bI, if_pos rfl]
    refine ⟨gc, gm, R, F, Or.inl ⟨rfl, ?_⟩⟩
    rcases hdiv with ⟨-, o1, o2, o3, e⟩ | ⟨-, e⟩
    · rw [e, eX7_divide_2, if_pos (show (16 : Int32) ≤ nI 16 from by decide), e2, pu_bI, if_neg (by decide)]
    · exact e
  · have hm : vX5_mayMapAgain (nI q) 0 16 gc = vX5_mayMapAgain (nI q) (nI 0) (nI 16) gc := rfl
    rw [e1, pu_bI, if_neg (pu_m1 (by omega)), pu_in hq (by omega), pu_g, hm]
    rcases hmay with ⟨h1, e3⟩ | ⟨h1, e3⟩
    · rcases hdiv with ⟨-, o1, o2, o3, e⟩ | ⟨h2, -⟩
      · have htq : t ≠ q := fun w => by rw [w, hl] at hd; exact absurd hd (by decide)
        have hqt : q ≠ t := fun w => htq w.symm
        rw [e3, pu_bI, if_neg (show ¬ (1 : Int32) = 0 by decide), pu_in ht (by omega), pu_g, pu_g, lc_begin ht, pu_bV, pu_g, pu_g, pu_lt', nI_clamp (show t < 2 ^ 31 by omega), nI_clamp (show q < 2 ^ 31 by omega), e, eX7_divide_2, if_pos (show (16 : Int32) ≤ nI 16 from by decide), e2, lm_begin ht, pu_bI, if_pos (pu_ge (x := 0) (k := 0) rfl (by omega) (by omega)), pu_in hq (by omega), pu_g, pu_in ht (by omega), pu_g, pu_lt', nI_clamp (show t < 2 ^ 31 by omega), nI_clamp (show q < 2 ^ 31 by omega)]
        have RB := rl_bg_R R1 ht
        have B23 : (lc_bg g1 t) 23 = gc 23 := by rw [lc_bg_23]; exact b1 23 (by decide)
        have B22 : (lc_bg g1 t) 22 = gc 22 := by unfold lc_bg; rw [pu_ff (by decide), pu_ff (by decide), pu_uf (by decide), pu_uf (by decide), pu_uf (by decide), pu_uf (by decide)]; exact b1 22 (by decide)
        have B4 : (lc_bg g1 t) 19 t 4 = 1 := by unfold lc_bg; rw [pu_ff (by decide), pu_ff (by decide), pu_uj (by decide), pu_uj (by decide), pu_uj (by decide), pu_us]
        generalize lc_bg g1 t = gB at RB B23 B22 B4
        generalize lm_bg gm t = mB at RB
        -- the counter
        have RC : rl_R 8 be al (am_up gB 19 t 6 (gB 19 q 6)) (am_up mB 28 0 t (mB 28 0 q)) := by
          refine rl_task_R RB (fun f a _ _ => pu_uf a) (fun f _ _ _ d _ _ => pu_uf d) (fun u hu hne => ?_) (fun u hu => ?_)
          · rw [pu_uj (show 4 ≠ 6 by decide), pu_uj (show 5 ≠ 6 by decide), pu_uj (show 7 ≠ 6 by decide), pu_uf (show 23 ≠ 19 by decide), pu_uf (show 25 ≠ 28 by decide), pu_uf (show 26 ≠ 28 by decide), pu_uf (show 27 ≠ 28 by decide)]
            exact RB.1 u hu hne
          · rw [pu_ub, pu_ub, pu_uf (show 20 ≠ 19 by decide), pu_uf (show 21 ≠ 19 by decide), pu_uf (show 29 ≠ 28 by decide), pu_uf (show 30 ≠ 28 by decide)]
            obtain ⟨a1, a2, a3⟩ := RB.2.1 u hu
            refine ⟨?_, a2, a3⟩
            by_cases w : u = t
            · rw [if_pos ⟨rfl, w⟩, if_pos ⟨w, rfl⟩]; exact (RB.2.1 q hq).1
            · rw [if_neg (fun z => w z.2), if_neg (fun z => w z.1)]; exact a1
        have C23 : (am_up gB 19 t 6 (gB 19 q 6)) 23 = gc 23 := by rw [pu_uf (by decide)]; exact B23
        have C22 : (am_up gB 19 t 6 (gB 19 q 6)) 22 = gc 22 := by rw [pu_uf (by decide)]; exact B22
        have C4 : (am_up gB 19 t 6 (gB 19 q 6)) 19 t 4 = 1 := by rw [pu_uj (by decide)]; exact B4
        generalize am_up gB 19 t 6 (gB 19 q 6) = gC at RC C23 C22 C4
        generalize am_up mB 28 0 t (mB 28 0 q) = mC at RC
        -- the registers
        obtain ⟨gD, mD, ⟨RD, D23, D22, D4⟩, c1, c2⟩ := pu_loop2 4 (fun j (x : am_S) => vX6_doubled_44 (nI q) (nI t) (nI t) (nI j) x) (fun j (y : am_S) => vX7_divide_120 (nI q) (nI t) (nI j) o2 o3 y) (fun j x y => rl_R 8 be al x y ∧ x 23 = gc 23 ∧ x 22 = gc 22 ∧ x 19 t 4 = 1) (fun j x y hj hp => by
          obtain ⟨Rj, j23, j22, j4⟩ := hp
          refine ⟨am_up x 20 t j (x 20 q j), am_up y 29 0 (4 * t + j) (y 29 0 (4 * q + j)), ⟨?_, by rw [pu_uf (by decide)]; exact j23, by rw [pu_uf (by decide)]; exact j22, by rw [pu_uf (by decide)]; exact j4⟩, ?_, ?_⟩
          · refine rl_task_R Rj (fun f _ b _ => pu_uf b) (fun f _ _ _ _ e _ => pu_uf e) (fun u hu hne => ?_) (fun u hu => ?_)
            · rw [pu_uf (show 19 ≠ 20 by decide), pu_uf (show 23 ≠ 20 by decide), pu_uf (show 25 ≠ 29 by decide), pu_uf (show 26 ≠ 29 by decide), pu_uf (show 27 ≠ 29 by decide)]
              exact Rj.1 u hu hne
            · rw [pu_uf (show 19 ≠ 20 by decide), pu_uf (show 21 ≠ 20 by decide), pu_uf (show 28 ≠ 29 by decide), pu_uf (show 30 ≠ 29 by decide)]
              obtain ⟨a1, a2, a3⟩ := Rj.2.1 u hu
              refine ⟨a1, fun i hi => ?_, a3⟩
              rw [pu_ub, pu_ub]
              by_cases w : u = t ∧ i = j
              · rw [if_pos w, if_pos ⟨rfl, by omega⟩]; exact (Rj.2.1 q hq).2.1 j hj
              · rw [if_neg w, if_neg (fun z => w (by omega))]; exact a2 i hi
          · rw [eX6_doubled_44, if_neg (pu_nge (x := 4) (k := 4) rfl hj (by omega)), pu_in ht (by omega), pu_g, pu_in hq (by omega), pu_g, pu_g, pu_in hj (by omega), pu_g, pu_g, pu_g, pu_lt', nI_clamp (show t < 2 ^ 31 by omega), nI_clamp (show q < 2 ^ 31 by omega), nI_clamp (show j < 2 ^ 31 by omega), nI_1]
          · rw [eX7_divide_120, if_neg (pu_nge (x := 4) (k := 4) rfl hj (by omega)), pu_4, pu_4, pu_in (show 4 * q + j < 32 by omega) (by omega), pu_g, pu_in (show 4 * t + j < 32 by omega) (by omega), pu_g, pu_lt', nI_clamp (show 4 * t + j < 2 ^ 31 by omega), nI_clamp (show 4 * q + j < 2 ^ 31 by omega), nI_1]) 4 0 gC mC rfl ⟨RC, C23, C22, C4⟩
        have c1' : vX6_doubled_44 (nI q) (nI t) (nI t) 0 gC = vX6_doubled_44 (nI q) (nI t) (nI t) (nI 4) gD := c1
        have c2' : vX7_divide_120 (nI q) (nI t) 0 o2 o3 mC = vX7_divide_120 (nI q) (nI t) (nI 4) o2 o3 mD := c2
        rw [c1', c2', eX6_doubled_44, if_pos (show (4 : Int32) ≤ nI 4 from by decide), eX7_divide_120, if_pos (show (4 : Int32) ≤ nI 4 from by decide)]
        have FD : rl_fx 128 al gD := fun s hs ha hx => by rw [rl_pc_congr D23]; exact F s hs ha hx
        have dead : ∀ p, p < 16 → gc 23 t p = -1 := fun p hp => ((R.1 t ht (by omega)).2.2.2.2.1 hd).2 p hp
        -- the pages
        obtain ⟨gE, mE, ⟨RE, FE, -⟩, d1, d2⟩ := pu_loop2 16 (fun j (x : am_S) => vX6_doubled_73 (nI q) (nI t) (nI t) (nI j) x) (fun j (y : am_S) => vX7_divide_153 (nI q) (nI t) (nI j) o2 o3 y) (fun j x y => rl_R 8 be al x y ∧ rl_fx 128 al x ∧ x 23 q = gc 23 q ∧ x 22 q = gc 22 q ∧ x 19 t 4 = 1 ∧ ∀ p, j ≤ p → p < 16 → x 23 t p = -1) (fun j x y hj hp => by
          obtain ⟨Rj, Fj, jq, jk, j4, jt⟩ := hp
          have hxt := jt j (Nat.le_refl _) hj
          obtain ⟨o1', p2, p3⟩ := Rj.2.2.1 q j hq hj
          obtain ⟨-, p2t, -⟩ := Rj.2.2.1 t j ht hj
          rw [hxt, rl_bi_m] at p2t
          rw [eX6_doubled_73, eX7_divide_153, if_neg (pu_nge (x := 16) (k := 16) rfl hj (by omega)), if_neg (pu_nge (x := 16) (k := 16) rfl hj (by omega)), pu_in hq (by omega), pu_in hj (by omega), pu_in ht (by omega), pu_16, pu_16, pu_in (show 16 * q + j < 128 by omega) (by omega), pu_in (show 16 * t + j < 128 by omega) (by omega)]
          simp only [pu_g, pu_lt', nI_clamp (show t < 2 ^ 31 by omega), nI_clamp (show q < 2 ^ 31 by omega), nI_clamp (show j < 2 ^ 31 by omega), nI_clamp (show 16 * t + j < 2 ^ 31 by omega), nI_clamp (show 16 * q + j < 2 ^ 31 by omega), nI_1]
          rw [pu_uf (show 32 ≠ 31 by decide), p2]
          rcases o1' with z | ⟨s, hs, z⟩
          · rw [z, rl_bi_m, if_pos pu_neg, rl_up_id p2t]
            exact ⟨x, _, ⟨rl_kind_R Rj hj hxt, Fj, jq, jk, j4, fun p p1 p2 => jt p (by omega) p2⟩, rfl, rfl⟩
          · obtain ⟨ha, k1, k2⟩ := p3 s hs z
            obtain ⟨RM, M23⟩ := rl_map_R (k := x 22 q j) Rj ht hj hs ha hxt k2 (fun _ => j4)
            rw [z, rl_bi_s hs, if_neg (pu_lt0 (by omega)), lc_map' ht hj hs, pu_bV, k1]
            refine ⟨lc_mp x t j s (x 22 q j), lm_mpp y (16 * t + j) (be s) (x 22 q j), ⟨RM, rl_fx_map Fj ht hj hs hxt M23 (Or.inr rfl), ?_, ?_, ?_, fun p p1 p2 => ?_⟩, rfl, rfl⟩
            · rw [M23, pu_ui hqt]; exact jq
            · unfold lc_mp; rw [pu_uf (by decide), pu_ui hqt, pu_uf (by decide)]; exact jk
            · unfold lc_mp; rw [pu_uf (by decide), pu_uf (by decide), pu_uf (by decide)]; exact j4
            · rw [M23, pu_uj (by omega)]; exact jt p (by omega) p2) 16 0 gD mD rfl ⟨RD, FD, by rw [D23], by rw [D22], D4, fun p _ p2 => by rw [D23]; exact dead p p2⟩
        refine ⟨gE, mE, RE, FE, Or.inr ⟨t, ht, ?_, ?_⟩⟩
        · refine Eq.trans (show vX6_doubled_73 (nI q) (nI t) (nI t) 0 gD = vX6_doubled_73 (nI q) (nI t) (nI t) (nI 16) gE from d1) ?_
          rw [eX6_doubled_73, if_pos (show (16 : Int32) ≤ nI 16 from by decide)]
        · refine Eq.trans (show vX7_divide_153 (nI q) (nI t) 0 o2 o3 mD = vX7_divide_153 (nI q) (nI t) (nI 16) o2 o3 mE from d2) ?_
          rw [eX7_divide_153, if_pos (show (16 : Int32) ≤ nI 16 from by decide)]
      · exact absurd h1 h2
    · rcases hdiv with ⟨h2, -⟩ | ⟨-, e⟩
      · exact absurd h2 h1
      · rw [e3, pu_bI, if_pos rfl]
        exact ⟨g1, gm, R1, F1, Or.inl ⟨rfl, e⟩⟩
theorem sm_fork {gc gm : am_S} (x : Int32) (h : rl_Q gc gm) : sm_OI th_13 (vX6_fork x gc) (vX7_fork x gm) := by
  obtain ⟨be, al, R, F⟩ := h
  rw [eX6_fork, eX7_fork]
  rcases sm_living R.1 rfl x with ⟨e1, e2⟩ | ⟨t, ht, rfl, hl, e1, e2⟩
  · rw [e1, e2, pu_bAx, pu_bI, if_pos rfl, eX7_fork_14, pu_lt', pu_us, if_neg (by decide), eX7_fork_33, pu_us, if_neg (by decide), eX7_fork_50, pu_us, if_neg (by decide)]
    exact ⟨gc, _, 0, ⟨be, al, rl_thr_R R, F⟩, rfl, Or.inr ⟨1, rfl, pu_us, by decide⟩⟩
  · obtain ⟨gc', gm', R', F', res⟩ := sm_double (rl_thr_R (v := 0) R) F ht hl
    rw [e1, e2, pu_bA19, pu_bI, if_neg (by decide), eX7_fork_14, pu_lt', pu_us, if_pos rfl]
    rcases res with ⟨r1, r2⟩ | ⟨n, hn, r1, r2⟩
    · have k := mK_00 (qX7_divide _ _ r2)
      rw [pu_us] at k
      have k : gm' 24 0 0 = 0 := k
      rw [r1, r2, pu_bI, pu_bI, if_pos rfl, eX7_fork_33, if_pos k, if_neg (by decide), pu_lt', eX7_fork_50, pu_us, if_neg (by decide)]
      exact ⟨gc', _, 0, ⟨be, al, rl_thr_R R', F'⟩, rfl, Or.inr ⟨3, rfl, pu_us, by decide⟩⟩
    · have k := mK_00 (qX7_divide _ _ r2)
      rw [pu_us] at k
      have k : gm' 24 0 0 = 0 := k
      rw [r1, r2, pu_bI, pu_bI, if_neg (pu_m1 (by omega)), eX7_fork_33, if_pos k, if_pos (pu_ge (x := 0) (k := 0) rfl (by omega) (by omega)), eX7_fork_50, k, if_pos (by decide)]
      exact ⟨gc', gm', nI n, ⟨be, al, R', F'⟩, rfl, Or.inl ⟨rfl, k⟩⟩
