/-! a new process, on both sides -/
def lc_bg (g : am_S) (t : Nat) : am_S := pu_fi (pu_fi (am_up (am_up (am_up (am_up g 19 t 4 1) 19 t 5 0) 19 t 6 0) 19 t 7 0) 20 t 0 4 (fun _ => 0)) 21 t 0 3 (fun _ => 0)
def lm_bg (g : am_S) (t : Nat) : am_S := pu_fi (pu_fi (am_up (am_up (am_up (am_up g 25 0 t 1) 26 0 t 0) 27 0 t 0) 28 0 t 0) 29 0 (4 * t) (4 * t + 4) (fun _ => 0)) 30 0 (3 * t) (3 * t + 3) (fun _ => 0)
theorem lc_begin {g : am_S} {t : Nat} (ht : t < 8) : vX5_begin (nI t) g = some (.inl none, lc_bg g t) := by
  rw [eX5_begin, pu_in ht (by omega), pu_g, pu_b1, pu_g, pu_lt', pu_g, pu_b0, pu_g, pu_lt', pu_g, pu_lt', pu_g, pu_lt', nI_clamp (by omega)]
  generalize hg : am_up (am_up (am_up (am_up g 19 t 4 1) 19 t 5 0) 19 t 6 0) 19 t 7 0 = G
  obtain ⟨_, rfl, e⟩ := pu_loop 4 (fun j g => vX5_begin_22 (nI t) (nI j) g) (fun j g' => g' = pu_fi G 20 t 0 j (fun _ => 0)) (fun j g' hj hx => by
    refine ⟨_, rfl, ?_⟩
    subst hx
    rw [eX5_begin_22, if_neg (pu_nge (x := 4) (k := 4) rfl hj (by omega)), pu_in ht (by omega), pu_g, pu_g, pu_in hj (by omega), pu_g, pu_lt', nI_clamp (by omega), nI_clamp (by omega), nI_1]
    rw [← pu_fi_s (v := fun _ => 0) (Nat.zero_le j)]) 4 0 G rfl pu_fi_0.symm
  refine Eq.trans (show vX5_begin_22 (nI t) 0 G = vX5_begin_22 (nI t) (nI 4) (pu_fi G 20 t 0 4 (fun _ => 0)) from e) ?_
  rw [eX5_begin_22, if_pos (show (4 : Int32) ≤ nI 4 from by decide)]
  generalize hH : pu_fi G 20 t 0 4 (fun _ => 0) = H
  obtain ⟨_, rfl, e2⟩ := pu_loop 3 (fun j g => vX5_begin_42 (nI t) (nI j) g) (fun j g' => g' = pu_fi H 21 t 0 j (fun _ => 0)) (fun j g' hj hx => by
    refine ⟨_, rfl, ?_⟩
    subst hx
    rw [eX5_begin_42, if_neg (pu_nge (x := 3) (k := 3) rfl hj (by omega)), pu_in ht (by omega), pu_g, pu_g, pu_in hj (by omega), pu_g, pu_lt', nI_clamp (by omega), nI_clamp (by omega), nI_1]
    rw [← pu_fi_s (v := fun _ => 0) (Nat.zero_le j)]) 3 0 H rfl pu_fi_0.symm
  refine Eq.trans (show vX5_begin_42 (nI t) 0 H = vX5_begin_42 (nI t) (nI 3) (pu_fi H 21 t 0 3 (fun _ => 0)) from e2) ?_
  rw [eX5_begin_42, if_pos (show (3 : Int32) ≤ nI 3 from by decide), ← hH, ← hg]
  rfl
theorem lm_begin {g : am_S} {t : Nat} (ht : t < 8) : vX7_fresh_23 (nI t) g = some (.inl (some (.inl (nI t))), lm_bg g t) := by
  rw [eX7_fresh_23, if_neg (pu_ne (x := 8) (k := 8) rfl (by omega) (by omega) (by omega)), pu_in ht (by omega), pu_g, pu_b1, pu_g, pu_lt', pu_g, pu_b0, pu_g, pu_lt', pu_g, pu_lt', pu_g, pu_lt', nI_clamp (by omega)]
  generalize hg : am_up (am_up (am_up (am_up g 25 0 t 1) 26 0 t 0) 27 0 t 0) 28 0 t 0 = G
  obtain ⟨_, rfl, e⟩ := pu_loop 4 (fun j g => vX7_fresh_61 (nI t) (nI j) g) (fun j g' => g' = pu_fi G 29 0 (4 * t) (4 * t + j) (fun _ => 0)) (fun j g' hj hx => by
    refine ⟨_, rfl, ?_⟩
    subst hx
    rw [eX7_fresh_61, if_neg (pu_nge (x := 4) (k := 4) rfl hj (by omega)), pu_4, pu_in (show 4 * t + j < 32 by omega) (by omega), pu_g, pu_lt', nI_clamp (by omega), nI_1]
    rw [← Nat.add_assoc, ← pu_fi_s (v := fun _ => 0) (show 4 * t ≤ 4 * t + j by omega)]) 4 0 G rfl (by rw [Nat.add_zero, pu_fi_0])
  refine Eq.trans (show vX7_fresh_61 (nI t) 0 G = vX7_fresh_61 (nI t) (nI 4) (pu_fi G 29 0 (4 * t) (4 * t + 4) (fun _ => 0)) from e) ?_
  rw [eX7_fresh_61, if_pos (show (4 : Int32) ≤ nI 4 from by decide)]
  generalize hH : pu_fi G 29 0 (4 * t) (4 * t + 4) (fun _ => 0) = H
  obtain ⟨_, rfl, e2⟩ := pu_loop 3 (fun j g => vX7_fresh_85 (nI t) (nI j) g) (fun j g' => g' = pu_fi H 30 0 (3 * t) (3 * t + j) (fun _ => 0)) (fun j g' hj hx => by
    refine ⟨_, rfl, ?_⟩
    subst hx
    rw [eX7_fresh_85, if_neg (pu_nge (x := 3) (k := 3) rfl hj (by omega)), pu_3, pu_in (show 3 * t + j < 24 by omega) (by omega), pu_g, pu_lt', nI_clamp (by omega), nI_1]
    rw [← Nat.add_assoc, ← pu_fi_s (v := fun _ => 0) (show 3 * t ≤ 3 * t + j by omega)]) 3 0 H rfl (by rw [Nat.add_zero, pu_fi_0])
  refine Eq.trans (show vX7_fresh_85 (nI t) 0 H = vX7_fresh_85 (nI t) (nI 3) (pu_fi H 30 0 (3 * t) (3 * t + 3) (fun _ => 0)) from e2) ?_
  rw [eX7_fresh_85, if_pos (show (3 : Int32) ≤ nI 3 from by decide), ← hH, ← hg]
  rfl
/-- the lowest that does not live -/
theorem sm_lowest {gc gm : am_S} (htk : rl_tk 8 gc gm) : (vX6_lowestNotLiving gc = some (.inl (some (.inl (-1))), gc) ∧ vX7_fresh gm = some (.inl (some (.inl (-1))), gm)) ∨ ∃ t, t < 8 ∧ gc 19 t 4 = 0 ∧ vX6_lowestNotLiving gc = some (.inl (some (.inl (nI t))), gc) ∧ vX7_fresh gm = vX7_fresh_23 (nI t) gm := by
  rw [eX6_lowestNotLiving, eX7_fresh]
  have L := pu_loop2E 8 (fun j (_ : Unit) => vX6_lowestNotLiving_2 (nI j) gc) (fun j (_ : Unit) => vX7_fresh_2 (nI j) gm) (fun _ _ _ => True)
    (fun v u => ∃ t, t < 8 ∧ gc 19 t 4 = 0 ∧ v = some (.inl (some (.inl (nI t))), gc) ∧ u = vX7_fresh_23 (nI t) gm) (fun j _ _ hj _ => by
    show (∃ x' y' : Unit, True ∧ vX6_lowestNotLiving_2 (nI j) gc = vX6_lowestNotLiving_2 (nI (j + 1)) gc ∧ vX7_fresh_2 (nI j) gm = vX7_fresh_2 (nI (j + 1)) gm) ∨ ∃ t, t < 8 ∧ gc 19 t 4 = 0 ∧ vX6_lowestNotLiving_2 (nI j) gc = some (.inl (some (.inl (nI t))), gc) ∧ vX7_fresh_2 (nI j) gm = vX7_fresh_23 (nI t) gm
    rw [eX6_lowestNotLiving_2, eX7_fresh_2, if_neg (pu_nge (x := 8) (k := 8) rfl hj (by omega)), if_neg (pu_nge (x := 8) (k := 8) rfl hj (by omega)), pu_in hj (by omega), pu_g, pu_g, nI_clamp (by omega), pu_g, (htk j hj (by omega)).1, nI_1]
    by_cases c : gc 19 j 4 = 0
    · rw [if_pos c, if_pos c]
      exact Or.inr ⟨j, hj, c, rfl, rfl⟩
    · rw [if_neg c, if_neg c]
      exact Or.inl ⟨(), (), trivial, rfl, rfl⟩) 8 0 () () rfl trivial
  rcases L with ⟨_, _, -, e1, e2⟩ | L
  · refine Or.inl ⟨?_, ?_⟩
    · refine Eq.trans (show vX6_lowestNotLiving_2 0 gc = vX6_lowestNotLiving_2 (nI 8) gc from e1) ?_
      rw [eX6_lowestNotLiving_2, if_pos (show (8 : Int32) ≤ nI 8 from by decide)]
    · refine Eq.trans (show vX7_fresh_2 0 gm = vX7_fresh_2 (nI 8) gm from e2) ?_
      rw [eX7_fresh_2, if_pos (show (8 : Int32) ≤ nI 8 from by decide), eX7_fresh_23, if_pos (show nI 8 = 8 from by decide)]
  · exact Or.inr L
/-- registers, faults and the task's own cells change: what is left of the relation -/
theorem rl_task_R {be : Nat → Nat} {al : Nat → Bool} {gc gm gc' gm' : am_S} (h : rl_R 8 be al gc gm) (hc : ∀ f, f ≠ 19 → f ≠ 20 → f ≠ 21 → gc' f = gc f) (hm : ∀ f, f ≠ 25 → f ≠ 26 → f ≠ 27 → f ≠ 28 → f ≠ 29 → f ≠ 30 → gm' f = gm f) (htk : rl_tk 8 gc' gm') (hrg : rl_rg gc' gm') : rl_R 8 be al gc' gm' := by
  obtain ⟨-, -, hpg, hmp, hal, hdd, hsp, hsh, hfr, hhd, har, hpk, hs1, hs2⟩ := h
  have C : ∀ f, f < 19 ∨ f = 22 ∨ f = 23 → gc' f = gc f := fun f hf => hc f (by omega) (by omega) (by omega)
  have M : ∀ f, f = 24 ∨ 31 ≤ f → gm' f = gm f := fun f hf => hm f (by omega) (by omega) (by omega) (by omega) (by omega) (by omega)
  refine ⟨htk, hrg, ?_, ?_, ?_, ?_, ?_, ?_, ?_, ?_, ?_, ?_, ?_, ?_⟩
  · unfold rl_pg; rw [C 22 (by decide), C 23 (by decide), M 31 (by decide), M 32 (by decide)]; exact hpg
  · intro s hs; rw [rl_pc_congr (C 23 (by decide)), C 5 (by decide)]; exact hmp s hs
  · unfold rl_al; rw [M 37 (by decide)]; exact hal
  · unfold rl_dd; rw [C 5 (by decide), C 6 (by decide)]; exact hdd
  · unfold rl_sp; rw [C 2 (by decide), C 4 (by decide)]; exact hsp
  · unfold rl_sh; rw [C 5 (by decide), C 6 (by decide), C 8 (by decide), C 10 (by decide), C 12 (by decide), M 33 (by decide), M 34 (by decide), M 35 (by decide), M 36 (by decide)]; exact hsh
  · unfold rl_fr; rw [C 5 (by decide), C 8 (by decide), C 9 (by decide), C 10 (by decide), M 38 (by decide), M 39 (by decide), M 40 (by decide)]; exact hfr
  · unfold rl_hd; rw [C 7 (by decide), M 24 (by decide)]; exact hhd
  · unfold rl_ar rl_in; rw [C 5 (by decide), C 12 (by decide)]; exact har
  · unfold rl_pk; rw [C 11 (by decide), M 33 (by decide), M 37 (by decide)]; exact hpk
  · unfold rl_s1; rw [C 5 (by decide), C 15 (by decide), C 16 (by decide), C 17 (by decide), M 41 (by decide), M 42 (by decide), M 43 (by decide), M 44 (by decide)]; exact hs1
  · unfold rl_s2; rw [C 5 (by decide), M 41 (by decide)]; exact hs2
theorem rl_bg_R {be : Nat → Nat} {al : Nat → Bool} {gc gm : am_S} {t : Nat} (h : rl_R 8 be al gc gm) (ht : t < 8) : rl_R 8 be al (lc_bg gc t) (lm_bg gm t) := by
  have C19 : ∀ u, u ≠ t → (lc_bg gc t) 19 u = gc 19 u := fun u hu => by unfold lc_bg; rw [pu_ff (by decide), pu_ff (by decide), pu_ui hu, pu_ui hu, pu_ui hu, pu_ui hu]
  have C4 : (lc_bg gc t) 19 t 4 = 1 := by unfold lc_bg; rw [pu_ff (by decide), pu_ff (by decide), pu_uj (by decide), pu_uj (by decide), pu_uj (by decide), pu_us]
  have C5 : (lc_bg gc t) 19 t 5 = 0 := by unfold lc_bg; rw [pu_ff (by decide), pu_ff (by decide), pu_uj (by decide), pu_uj (by decide), pu_us]
  have C6 : (lc_bg gc t) 19 t 6 = 0 := by unfold lc_bg; rw [pu_ff (by decide), pu_ff (by decide), pu_uj (by decide), pu_us]
  have C7 : (lc_bg gc t) 19 t 7 = 0 := by unfold lc_bg; rw [pu_ff (by decide), pu_ff (by decide), pu_us]
  have C20 : ∀ u, u ≠ t → (lc_bg gc t) 20 u = gc 20 u := fun u hu => by unfold lc_bg; rw [pu_ff (by decide), pu_fii hu, pu_uf (by decide), pu_uf (by decide), pu_uf (by decide), pu_uf (by decide)]
  have C20t : ∀ i, i < 4 → (lc_bg gc t) 20 t i = 0 := fun i hi => by unfold lc_bg; rw [pu_ff (by decide), pu_fin (by omega) hi]
  have C21 : ∀ u, u ≠ t → (lc_bg gc t) 21 u = gc 21 u := fun u hu => by unfold lc_bg; rw [pu_fii hu, pu_ff (by decide), pu_uf (by decide), pu_uf (by decide), pu_uf (by decide), pu_uf (by decide)]
  have C21t : ∀ i, i < 3 → (lc_bg gc t) 21 t i = 0 := fun i hi => by unfold lc_bg; rw [pu_fin (by omega) hi]
  have C23 : (lc_bg gc t) 23 = gc 23 := by unfold lc_bg; rw [pu_ff (by decide), pu_ff (by decide), pu_uf (by decide), pu_uf (by decide), pu_uf (by decide), pu_uf (by decide)]
  have M25 : ∀ u, (lm_bg gm t) 25 0 u = if u = t then 1 else gm 25 0 u := fun u => by
    unfold lm_bg; rw [pu_ff (by decide), pu_ff (by decide), pu_uf (by decide), pu_uf (by decide), pu_uf (by decide), pu_ub]
    by_cases e : u = t
    · rw [if_pos ⟨rfl, e⟩, if_pos e]
    · rw [if_neg (fun z => e z.2), if_neg e]
  have M26 : ∀ u, (lm_bg gm t) 26 0 u = if u = t then 0 else gm 26 0 u := fun u => by
    unfold lm_bg; rw [pu_ff (by decide), pu_ff (by decide), pu_uf (by decide), pu_uf (by decide), pu_ub]
    by_cases e : u = t
    · rw [if_pos ⟨rfl, e⟩, if_pos e]
    · rw [if_neg (fun z => e z.2), if_neg e, pu_uf (by decide)]
  have M27 : ∀ u, (lm_bg gm t) 27 0 u = if u = t then 0 else gm 27 0 u := fun u => by
    unfold lm_bg; rw [pu_ff (by decide), pu_ff (by decide), pu_uf (by decide), pu_ub]
    by_cases e : u = t
    · rw [if_pos ⟨rfl, e⟩, if_pos e]
    · rw [if_neg (fun z => e z.2), if_neg e, pu_uf (by decide), pu_uf (by decide)]
  have M28 : ∀ u, (lm_bg gm t) 28 0 u = if u = t then 0 else gm 28 0 u := fun u => by
    unfold lm_bg; rw [pu_ff (by decide), pu_ff (by decide), pu_ub]
    by_cases e : u = t
    · rw [if_pos ⟨rfl, e⟩, if_pos e]
    · rw [if_neg (fun z => e z.2), if_neg e, pu_uf (by decide), pu_uf (by decide), pu_uf (by decide)]
  refine rl_task_R h (fun f a b c => ?_) (fun f a b c d e k => ?_) (fun u hu hne => ?_) (fun u hu => ?_)
  · unfold lc_bg; rw [pu_ff c, pu_ff b, pu_uf a, pu_uf a, pu_uf a, pu_uf a]
  · unfold lm_bg; rw [pu_ff k, pu_ff e, pu_uf d, pu_uf c, pu_uf b, pu_uf a]
  · rw [M25, M26, M27, C23]
    by_cases e : u = t
    · subst e
      rw [if_pos rfl, if_pos rfl, if_pos rfl, C4, C5, C7]
      exact ⟨rfl, Or.inr rfl, Or.inl rfl, fun _ => ⟨rfl, rfl⟩, fun z => absurd z (by decide), rfl⟩
    · rw [if_neg e, if_neg e, if_neg e, C19 u e]
      exact h.1 u hu hne
  · rw [M28]
    obtain ⟨a1, a2, a3⟩ := h.2.1 u hu
    by_cases e : u = t
    · subst e
      rw [if_pos rfl, C6]
      refine ⟨rfl, fun i hi => ?_, fun i hi => ?_⟩
      · rw [C20t i hi]; unfold lm_bg; rw [pu_ff (by decide), pu_fin (by omega) (by omega)]
      · rw [C21t i hi]; unfold lm_bg; rw [pu_fin (by omega) (by omega)]
    · rw [if_neg e, C19 u e, C20 u e, C21 u e]
      refine ⟨a1, fun i hi => ?_, fun i hi => ?_⟩
      · unfold lm_bg; rw [pu_ff (by decide), pu_fout (by omega), pu_uf (by decide), pu_uf (by decide), pu_uf (by decide), pu_uf (by decide)]; exact a2 i hi
      · unfold lm_bg; rw [pu_fout (by omega), pu_ff (by decide), pu_uf (by decide), pu_uf (by decide), pu_uf (by decide), pu_uf (by decide)]; exact a3 i hi
theorem lc_bg_23 {g : am_S} {t : Nat} : (lc_bg g t) 23 = g 23 := by unfold lc_bg; rw [pu_ff (by decide), pu_ff (by decide), pu_uf (by decide), pu_uf (by decide), pu_uf (by decide), pu_uf (by decide)]
theorem sm_spawn {gc gm : am_S} (h : rl_Q gc gm) : sm_OI th_3 (vX6_spawn gc) (vX7_spawn gm) := by
  obtain ⟨be, al, R, F⟩ := h
  rw [eX6_spawn, eX7_spawn]
  rcases sm_lowest R.1 with ⟨e1, e2⟩ | ⟨t, ht, hd, e1, e2⟩
  · rw [e1, e2, pu_bI, pu_bI, if_pos rfl, if_neg (by decide), eX7_spawn_15, pu_lt', if_neg (by decide)]
    exact ⟨gc, _, 0, ⟨be, al, rl_thr_R R, F⟩, rfl, Or.inr ⟨3, rfl, pu_us, by decide⟩⟩
  · have hle : (0 : Int32) ≤ nI t := pu_ge (x := 0) (k := 0) rfl (by omega) (by omega)
    rw [e1, e2, lm_begin ht, pu_bI, pu_bI, if_neg (pu_m1 (by omega)), pu_in ht (by omega), pu_g, pu_g, lc_begin ht, pu_bV, if_pos hle, eX7_spawn_15, pu_lt', if_pos hle]
    refine ⟨_, _, nI t, ⟨be, al, rl_thr_R (rl_bg_R R ht), fun s hs ha hx => ?_⟩, rfl, Or.inl ⟨rfl, pu_us⟩⟩
    rw [rl_pc_congr lc_bg_23]
    exact F s hs ha hx
