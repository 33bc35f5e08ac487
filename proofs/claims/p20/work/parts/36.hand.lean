/-! the hand, on both sides -/
theorem rl_mark_R {ex : Nat} {be : Nat → Nat} {al : Nat → Bool} {gc gm gc' gm' : am_S} (h : rl_R ex be al gc gm) (C : ∀ f, f ≠ 7 → f ≠ 9 → gc' f = gc f) (M : ∀ f, f ≠ 24 → f ≠ 39 → gm' f = gm f) (hd : rl_hd gc' gm')
    (mk : ∀ f, f < 10 → gm' 39 0 f = gc' 9 0 f ∧ (gc' 9 0 f = 0 ∨ gc' 9 0 f = 1) ∧ (gc 8 0 f = -1 → gc' 9 0 f = 0)) : rl_R ex be al gc' gm' := by
  obtain ⟨htk, hrg, hpg, hmp, hal, hdd, hsp, hsh, hfr, hhd, har, hpk, hs1, hs2⟩ := h
  refine ⟨?_, ?_, ?_, ?_, ?_, ?_, ?_, ?_, ?_, hd, ?_, ?_, ?_, ?_⟩
  · unfold rl_tk; rw [C 19 (by decide) (by decide), C 23 (by decide) (by decide), M 25 (by decide) (by decide), M 26 (by decide) (by decide), M 27 (by decide) (by decide)]; exact htk
  · unfold rl_rg; rw [C 19 (by decide) (by decide), C 20 (by decide) (by decide), C 21 (by decide) (by decide), M 28 (by decide) (by decide), M 29 (by decide) (by decide), M 30 (by decide) (by decide)]; exact hrg
  · unfold rl_pg; rw [C 22 (by decide) (by decide), C 23 (by decide) (by decide), M 31 (by decide) (by decide), M 32 (by decide) (by decide)]; exact hpg
  · intro s hs; rw [rl_pc_congr (C 23 (by decide) (by decide)), C 5 (by decide) (by decide)]; exact hmp s hs
  · unfold rl_al; rw [M 37 (by decide) (by decide)]; exact hal
  · unfold rl_dd; rw [C 5 (by decide) (by decide), C 6 (by decide) (by decide)]; exact hdd
  · unfold rl_sp; rw [C 2 (by decide) (by decide), C 4 (by decide) (by decide)]; exact hsp
  · unfold rl_sh; rw [C 5 (by decide) (by decide), C 6 (by decide) (by decide), C 8 (by decide) (by decide), C 10 (by decide) (by decide), C 12 (by decide) (by decide), M 33 (by decide) (by decide), M 34 (by decide) (by decide), M 35 (by decide) (by decide), M 36 (by decide) (by decide)]; exact hsh
  · intro f hf
    rw [C 5 (by decide) (by decide), C 8 (by decide) (by decide), C 10 (by decide) (by decide), M 38 (by decide) (by decide), M 40 (by decide) (by decide)]
    obtain ⟨a1, a2, a3, a4, a5, a6, a7, a8⟩ := hfr f hf
    obtain ⟨b1, b2, b3⟩ := mk f hf
    exact ⟨a1, a2, b1, a4, b2, a6, fun z => ⟨b3 z, (a7 z).2⟩, a8⟩
  · unfold rl_ar rl_in; rw [C 5 (by decide) (by decide), C 12 (by decide) (by decide)]; exact har
  · unfold rl_pk; rw [C 11 (by decide) (by decide), M 33 (by decide) (by decide), M 37 (by decide) (by decide)]; exact hpk
  · unfold rl_s1; rw [C 5 (by decide) (by decide), C 15 (by decide) (by decide), C 16 (by decide) (by decide), C 17 (by decide) (by decide), M 41 (by decide) (by decide), M 42 (by decide) (by decide), M 43 (by decide) (by decide), M 44 (by decide) (by decide)]; exact hs1
  · unfold rl_s2; rw [C 5 (by decide) (by decide), M 41 (by decide) (by decide)]; exact hs2
/-- a frame's USED mark goes -/
theorem rl_unmark_R {ex : Nat} {be : Nat → Nat} {al : Nat → Bool} {gc gm : am_S} (f : Nat) (h : rl_R ex be al gc gm) : rl_R ex be al (am_up gc 9 0 f 0) (am_up gm 39 0 f 0) := by
  have hfr := h.2.2.2.2.2.2.2.2.1
  refine rl_mark_R h (fun c _ a => pu_uf a) (fun c _ a => pu_uf a) ?_ (fun f' hf' => ?_)
  · unfold rl_hd
    rw [pu_uf (by decide), pu_uf (by decide)]
    exact h.2.2.2.2.2.2.2.2.2.1
  · rw [pu_ub, pu_ub]
    obtain ⟨-, -, a3, -, a5, -, a7, -⟩ := hfr f' hf'
    by_cases e : f' = f
    · rw [if_pos ⟨rfl, e⟩, if_pos ⟨rfl, e⟩]
      exact ⟨rfl, Or.inl rfl, fun _ => rfl⟩
    · rw [if_neg (fun z => e z.2), if_neg (fun z => e z.2)]
      exact ⟨a3, a5, fun z => (a7 z).1⟩
theorem rl_hand_R {ex : Nat} {be : Nat → Nat} {al : Nat → Bool} {gc gm : am_S} {x : Nat} (hx : x < 10) (h : rl_R ex be al gc gm) : rl_R ex be al (am_up gc 7 0 3 (nI x)) (am_up gm 24 0 17 (nI x)) := by
  have hfr := h.2.2.2.2.2.2.2.2.1
  refine rl_mark_R h (fun c a _ => pu_uf a) (fun c a _ => pu_uf a) ⟨x, hx, pu_us, pu_us⟩ (fun f' hf' => ?_)
  rw [pu_uf (by decide), pu_uf (by decide)]
  obtain ⟨-, -, a3, -, a5, -, a7, -⟩ := hfr f' hf'
  exact ⟨a3, a5, fun z => (a7 z).1⟩
theorem sm_move {ex : Nat} {be : Nat → Nat} {al : Nat → Bool} {gc gm : am_S} {keep : Int32} (h : rl_R ex be al gc gm) : ∃ gc' gm', vX2_moveHand keep gc = some (.inl none, gc') ∧ vX7_goOn keep gm = some (.inl none, gm') ∧ rl_R ex be al gc' gm' ∧ ∀ f, f ≠ 7 → f ≠ 9 → gc' f = gc f := by
  obtain ⟨x, hx, e1, e2⟩ := h.2.2.2.2.2.2.2.2.2.1
  have m1 := pu_m10 ⟨x, hx⟩
  have m2 := pu_m10b ⟨(x + 1) % 10, by omega⟩
  dsimp only at m1 m2
  have R1 := rl_hand_R (x := (x + 1) % 10) (by omega) h
  rw [eX2_moveHand, eX7_goOn, pu_nz10, pu_g, pu_g, e1, e2, m1, pu_lt', pu_lt', pu_g, pu_us, pu_lv, pu_g, pu_us, pu_lv, m2]
  by_cases c : nI (((x + 1) % 10 + 2) % 10) = keep
  · rw [if_pos c, if_pos c]
    exact ⟨_, _, rfl, rfl, R1, fun f a _ => pu_uf a⟩
  · rw [if_neg c, if_neg c, pu_in (show ((x + 1) % 10 + 2) % 10 < 10 by omega) (by omega), pu_g, pu_b0, pu_g, pu_lt', pu_g, pu_g, pu_lt', nI_clamp (by omega)]
    exact ⟨_, _, rfl, rfl, rl_unmark_R _ R1, fun f a b => by rw [pu_uf b, pu_uf a]⟩
/-! who ends -/
def rl_own (g : am_S) (t : Nat) : Nat := pu_cn (fun p => decide (¬ g 23 t p = -1 ∧ g 22 t p = 0 ∧ ¬ g 5 (g 23 t p).toNatClampNeg 2 = 0)) 16
theorem rl_own_le (g : am_S) (t : Nat) : rl_own g t ≤ 16 := pu_cn_le _ _
theorem lc_own {g : am_S} {t : Nat} (ht : t < 8) (hok : ∀ p, p < 16 → rl_ok (g 23 t p)) : vX5_ownPages (nI t) g = some (.inl (some (.inl (nI (rl_own g t)))), g) := by
  rw [eX5_ownPages]
  generalize hT : (fun p => decide (¬ g 23 t p = -1 ∧ g 22 t p = 0 ∧ ¬ g 5 (g 23 t p).toNatClampNeg 2 = 0)) = T
  have hTe : ∀ k, T k = decide (¬ g 23 t k = -1 ∧ g 22 t k = 0 ∧ ¬ g 5 (g 23 t k).toNatClampNeg 2 = 0) := fun k => by rw [← hT]
  obtain ⟨y, hy, e⟩ := pu_loop 16 (fun j (y : Nat × Option am_v) => vX5_ownPages_4 (nI t) (nI y.1) (nI j) y.2 g) (fun j y => y.1 = pu_cn T j) (fun j y hj hy => by
    obtain ⟨n, o⟩ := y
    dsimp only at hy
    have st : pu_cn T (j + 1) = pu_cn T j + (match T j with | true => 1 | false => 0) := rfl
    show ∃ x' : Nat × Option am_v, x'.1 = pu_cn T (j + 1) ∧ vX5_ownPages_4 (nI t) (nI n) (nI j) o g = vX5_ownPages_4 (nI t) (nI x'.1) (nI (j + 1)) x'.2 g
    rw [eX5_ownPages_4, if_neg (pu_nge (x := 16) (k := 16) rfl hj (by omega)), pu_in ht (by omega), pu_g, pu_g, pu_in hj (by omega), pu_g, pu_lv, pu_g, pu_g, pu_g, nI_clamp (show t < 2 ^ 31 by omega), nI_clamp (show j < 2 ^ 31 by omega), nI_1, st, hTe]
    rcases hok j hj with z | ⟨r, hr, z⟩
    · rw [if_pos (by rw [z]; exact pu_neg), decide_eq_false (fun w => w.1 z)]
      exact ⟨(n, _), hy, rfl⟩
    · rw [z, if_neg (pu_lt0 (by omega)), pu_in hr (by omega), pu_g, nI_1]
      by_cases c1 : g 22 t j = 0
      · rw [if_pos c1]
        by_cases c2 : g 5 (nI r).toNatClampNeg 2 = 0
        · rw [if_pos c2, decide_eq_false (fun w => w.2.2 c2)]
          exact ⟨(n, _), hy, rfl⟩
        · rw [if_neg c2, decide_eq_true ⟨pu_m1 (by omega), c1, c2⟩]
          exact ⟨(n + 1, _), by dsimp only; rw [hy], rfl⟩
      · rw [if_neg c1, decide_eq_false (fun w => c1 w.2.1)]
        exact ⟨(n, _), hy, rfl⟩) 16 0 (0, none) rfl rfl
  refine Eq.trans (show vX5_ownPages_4 (nI t) 0 0 none g = vX5_ownPages_4 (nI t) (nI y.1) (nI 16) y.2 g from e) ?_
  rw [eX5_ownPages_4, if_pos (show (16 : Int32) ≤ nI 16 from by decide), hy]
  unfold rl_own
  rw [hT]
theorem lm_own {be : Nat → Nat} {al : Nat → Bool} {gc gm : am_S} {t : Nat} (hpg : rl_pg be al gc gm) (hal : rl_al be al gm) (hsh : rl_sh be al gc gm) (ht : t < 8) : vX7_privates (nI t) gm = some (.inl (some (.inl (nI (rl_own gc t)))), gm) := by
  rw [eX7_privates]
  generalize hT : (fun p => decide (¬ gc 23 t p = -1 ∧ gc 22 t p = 0 ∧ ¬ gc 5 (gc 23 t p).toNatClampNeg 2 = 0)) = T
  have hTe : ∀ k, T k = decide (¬ gc 23 t k = -1 ∧ gc 22 t k = 0 ∧ ¬ gc 5 (gc 23 t k).toNatClampNeg 2 = 0) := fun k => by rw [← hT]
  obtain ⟨y, hy, e⟩ := pu_loop 16 (fun j (y : Nat) => vX7_privates_4 (nI t) (nI y) (nI j) gm) (fun j y => y = pu_cn T j) (fun j n hj hy => by
    have st : pu_cn T (j + 1) = pu_cn T j + (match T j with | true => 1 | false => 0) := rfl
    refine ⟨_, rfl, ?_⟩
    rw [eX7_privates_4, if_neg (pu_nge (x := 16) (k := 16) rfl hj (by omega)), pu_16, pu_in (show 16 * t + j < 128 by omega) (by omega), pu_g, pu_g, pu_g, nI_clamp (show 16 * t + j < 2 ^ 31 by omega), nI_1, st, hTe]
    obtain ⟨o1, o2, o3⟩ := hpg t j ht hj
    rcases o1 with z | ⟨r, hr, z⟩
    · rw [o2, z, rl_bi_m, if_pos pu_neg, decide_eq_false (fun w => w.1 rfl), hy]; rfl
    · obtain ⟨q1, q2, -⟩ := o3 r hr z
      have hb := (hal.1 r hr q1).1
      have hw := (hsh r hr q1).1
      rw [o2, z, rl_bi_s hr, if_neg (pu_lt0 (by omega)), pu_in hb (by omega), pu_g, nI_clamp (show be r < 2 ^ 31 by omega), hw, q2, nI_clamp (show r < 2 ^ 31 by omega), pu_lv, nI_1]
      by_cases c1 : gc 22 t j = 0
      · rw [if_pos c1]
        by_cases c2 : gc 5 r 2 = 0
        · rw [if_pos c2, decide_eq_false (fun w => w.2.2 c2), hy]; rfl
        · rw [if_neg c2, decide_eq_true ⟨pu_m1 (by omega), c1, c2⟩, hy]
      · rw [if_neg c1, decide_eq_false (fun w => c1 w.2.1), hy]; rfl) 16 0 0 rfl rfl
  refine Eq.trans (show vX7_privates_4 (nI t) 0 0 gm = vX7_privates_4 (nI t) (nI y) (nI 16) gm from e) ?_
  rw [eX7_privates_4, if_pos (show (16 : Int32) ≤ nI 16 from by decide), hy]
  unfold rl_own
  rw [hT]
theorem sm_who {be : Nat → Nat} {al : Nat → Bool} {gc gm : am_S} {t : Nat} (h : rl_R 8 be al gc gm) (ht : t < 8) : ∃ v, v < 8 ∧ vX6_whoEnds (nI t) gc = some (.inl (some (.inr (.inr (19, nI v)))), gc) ∧ vX7_victim (nI t) gm = some (.inl (some (.inl (nI v))), gm) ∧ (v = t ∨ gc 19 v 4 = 1) := by
  obtain ⟨htk, -, hpg, -, hal, -, -, hsh, -⟩ := h
  rw [eX6_whoEnds, eX7_victim]
  obtain ⟨x, y, ⟨p1, p2, p3, p4⟩, e1, e2⟩ := pu_loop2 8 (fun j (x : Nat × Nat × Option am_v) => vX6_whoEnds_7 (nI t) (nI x.1) (nI x.2.1) (nI j) x.2.2 gc) (fun j (y : Nat × Nat) => vX7_victim_7 (nI t) (nI y.1) (nI y.2) (nI j) gm)
    (fun j x y => x.1 = y.1 ∧ x.2.1 = y.2 ∧ (x.1 < 8 ∧ (x.1 = t ∨ gc 19 x.1 4 = 1)) ∧ x.2.1 ≤ 16) (fun j x y hj hp => by
    obtain ⟨v, m, o⟩ := x
    obtain ⟨v', m'⟩ := y
    obtain ⟨p1, p2, p3, p4⟩ := hp
    dsimp only at p1 p2 p3 p4
    subst p1 p2
    show ∃ (x' : Nat × Nat × Option am_v) (y' : Nat × Nat), (x'.1 = y'.1 ∧ x'.2.1 = y'.2 ∧ (x'.1 < 8 ∧ (x'.1 = t ∨ gc 19 x'.1 4 = 1)) ∧ x'.2.1 ≤ 16) ∧ vX6_whoEnds_7 (nI t) (nI v) (nI m) (nI j) o gc = vX6_whoEnds_7 (nI t) (nI x'.1) (nI x'.2.1) (nI (j + 1)) x'.2.2 gc ∧ vX7_victim_7 (nI t) (nI v) (nI m) (nI j) gm = vX7_victim_7 (nI t) (nI y'.1) (nI y'.2) (nI (j + 1)) gm
    have hle := rl_own_le gc j
    rw [eX6_whoEnds_7, eX7_victim_7, if_neg (pu_nge (x := 8) (k := 8) rfl hj (by omega)), if_neg (pu_nge (x := 8) (k := 8) rfl hj (by omega)), pu_in hj (by omega), pu_g, pu_g, pu_g, lc_own hj (fun p hp => (hpg j p hj hp).1), pu_bI, pu_g, nI_clamp (by omega), lm_own hpg hal hsh hj, pu_bI, lm_own hpg hal hsh hj, pu_bI, lm_own hpg hal hsh hj, pu_bI, nI_1]
    obtain ⟨t1, t2, -, -, t5, -⟩ := htk j hj (by omega)
    rw [t1]
    by_cases hl : gc 19 j 4 = 0
    · have hz : rl_own gc j = 0 := (pu_cn_0 16).mpr (fun p hp => decide_eq_false (fun w => w.1 ((t5 hl).2 p hp)))
      rw [if_pos hl, hz, if_pos (show nI 0 ≤ 0 from by decide)]
      exact ⟨(v, m, _), (v, m), ⟨rfl, rfl, p3, p4⟩, rfl, rfl⟩
    · rw [if_neg hl]
      by_cases hz : rl_own gc j = 0
      · rw [hz, if_pos (show nI 0 ≤ 0 from by decide), if_pos (show nI 0 = 0 from by decide)]
        refine ⟨(v, m, _), (v, m), ⟨rfl, rfl, p3, p4⟩, rfl, ?_⟩
        split <;> rfl
      · rw [if_neg (pu_nle (x := 0) (k := 0) rfl (by omega) (by omega)), if_neg (nI_ne0 (by omega) (by omega))]
        by_cases hm : rl_own gc j < m
        · rw [if_pos (nI_lt hm (by omega)), if_pos (nI_lt hm (by omega))]
          exact ⟨(v, m, _), (v, m), ⟨rfl, rfl, p3, p4⟩, rfl, rfl⟩
        · rw [if_neg (nI_nlt (by omega) (by omega)), if_neg (nI_nlt (by omega) (by omega))]
          refine ⟨(j, rl_own gc j, _), (j, rl_own gc j), ⟨rfl, rfl, ⟨hj, Or.inr ?_⟩, hle⟩, rfl, rfl⟩
          rcases t2 with z | z
          · exact absurd z hl
          · exact z) 8 0 (t, 0, none) (t, 0) rfl ⟨rfl, rfl, ⟨ht, Or.inl rfl⟩, Nat.zero_le _⟩
  refine ⟨x.1, p3.1, ?_, ?_, p3.2⟩
  · refine Eq.trans (show vX6_whoEnds_7 (nI t) (nI t) 0 0 none gc = vX6_whoEnds_7 (nI t) (nI x.1) (nI x.2.1) (nI 8) x.2.2 gc from e1) ?_
    rw [eX6_whoEnds_7, if_pos (show (8 : Int32) ≤ nI 8 from by decide)]
  · refine Eq.trans (show vX7_victim_7 (nI t) (nI t) 0 0 gm = vX7_victim_7 (nI t) (nI y.1) (nI y.2) (nI 8) gm from e2) ?_
    rw [eX7_victim_7, if_pos (show (8 : Int32) ≤ nI 8 from by decide), p1]
