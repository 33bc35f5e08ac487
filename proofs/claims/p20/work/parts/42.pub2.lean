/-- how a call comes out on both sides: th takes the exception to the number that the reference tells -/
def sm_OV (th : Nat → Int32) (c m : am_R) : Prop := ∃ gc' gm', rl_Q gc' gm' ∧ m = some (.inl none, gm') ∧ ((c = some (.inl none, gc') ∧ gm' 24 0 0 = 0) ∨ ∃ e, c = some (.inr e, gc') ∧ gm' 24 0 0 = th e ∧ ¬ th e = 0)
def sm_OI (th : Nat → Int32) (c m : am_R) : Prop := ∃ gc' gm' w, rl_Q gc' gm' ∧ m = some (.inl (some (.inl w)), gm') ∧ ((c = some (.inl (some (.inl w)), gc') ∧ gm' 24 0 0 = 0) ∨ ∃ e, c = some (.inr e, gc') ∧ gm' 24 0 0 = th e ∧ ¬ th e = 0)
def th_1 (e : Nat) : Int32 := if e = 1 then 1 else 0
def th_12 (e : Nat) : Int32 := if e = 1 then 1 else if e = 2 then 2 else 0
def th_123 (e : Nat) : Int32 := if e = 1 then 1 else if e = 2 then 2 else if e = 3 then 3 else 0
def th_3 (e : Nat) : Int32 := if e = 3 then 1 else 0
def th_13 (e : Nat) : Int32 := if e = 1 then 1 else if e = 3 then 2 else 0
def th_134 (e : Nat) : Int32 := if e = 1 then 1 else if e = 3 then 2 else if e = 4 then 3 else 0
theorem mK_00 {g g' : am_S} (h : kp_eq mK g g') : g' 24 0 0 = g 24 0 0 := h 24 0 0 (Or.inr (Or.inr ⟨rfl, rfl⟩))
theorem sm_exit {gc gm : am_S} (x : Int32) (h : rl_Q gc gm) : sm_OV th_1 (vX6_exit x gc) (vX7_exit x gm) := by
  obtain ⟨be, al, R, F⟩ := h
  rw [eX6_exit, eX7_exit]
  rcases sm_living R.1 rfl x with ⟨e1, e2⟩ | ⟨t, ht, rfl, hl, e1, e2⟩
  · rw [e1, e2, pu_bAx, pu_bI, if_pos rfl, eX7_exit_14, pu_lt', pu_us, if_neg (by decide)]
    exact ⟨gc, _, ⟨be, al, rl_thr_R R, F⟩, rfl, Or.inr ⟨1, rfl, pu_us, by decide⟩⟩
  · obtain ⟨al', gc', gm', n1, n2, R2, F2, -⟩ := sm_endTask (why := 4) (rl_thr_R (v := 0) R) F ht
    have k := mK_00 (qX7_end _ _ _ n2)
    rw [pu_us] at k
    rw [e1, e2, pu_bA19, pu_bI, if_neg (by decide), n1, pu_bV, eX7_exit_14, pu_lt', pu_us, if_pos rfl, n2, pu_bV]
    exact ⟨gc', gm', ⟨be, al', R2, F2⟩, rfl, Or.inl ⟨rfl, k⟩⟩
theorem sm_valuable {gc gm : am_S} (x v : Int32) (hv : v = 0 ∨ v = 1) (h : rl_Q gc gm) : sm_OV th_1 (vX6_valuable x v gc) (vX7_valuable x v gm) := by
  obtain ⟨be, al, R, F⟩ := h
  have hb : am_b v = true := by rcases hv with z | z <;> rw [z] <;> decide
  rw [eX6_valuable, eX7_valuable]
  rcases sm_living R.1 rfl x with ⟨e1, e2⟩ | ⟨t, ht, rfl, hl, e1, e2⟩
  · rw [e1, e2, pu_bAx, pu_bI, if_pos rfl, eX7_valuable_14, pu_lt', pu_us, if_neg (by decide)]
    exact ⟨gc, _, ⟨be, al, rl_thr_R R, F⟩, rfl, Or.inr ⟨1, rfl, pu_us, by decide⟩⟩
  · rw [e1, e2, pu_bA19, pu_bI, if_neg (by decide), pu_in ht (by omega), pu_g, hb, pu_g, pu_lt', eX7_valuable_14, pu_lt', pu_us, if_pos rfl, pu_in ht (by omega), pu_g, hb, pu_g, pu_lt', nI_clamp (by omega)]
    refine ⟨_, _, ⟨be, al, ?_, ?_⟩, rfl, Or.inl ⟨rfl, ?_⟩⟩
    · refine rl_ex_R (rl_thr_R (v := 0) R) (fun f hf => pu_uf hf) (fun f a b c => pu_uf b) (fun u _ => pu_uj (by decide)) (fun u hu hne => ?_)
      obtain ⟨a1, a2, a3, a4, a5, a6⟩ := R.1 u hu hne
      rw [pu_uf (show 25 ≠ 26 by decide), pu_uf (show 27 ≠ 26 by decide), pu_uf (show 25 ≠ 24 by decide), pu_uf (show 27 ≠ 24 by decide), pu_uf (show 23 ≠ 19 by decide), pu_uj (show 4 ≠ 5 by decide), pu_uj (show 7 ≠ 5 by decide)]
      by_cases e : u = t
      · subst e
        rw [pu_us, pu_us]
        exact ⟨a1, a2, hv, fun z => ⟨rfl, (a4 z).2⟩, fun z => by rw [hl] at z; exact absurd z (by decide), a6⟩
      · rw [pu_ui e, pu_uj e, pu_uf (show 26 ≠ 24 by decide)]
        exact ⟨a1, a2, a3, a4, a5, a6⟩
    · intro s hs ha hx
      rw [rl_pc_congr (pu_uf (by decide))]
      exact F s hs ha hx
    · rw [pu_uf (by decide), pu_us]
/-- frames without a sheet -/
theorem sm_vac {be : Nat → Nat} {al : Nat → Bool} {gc gm Y : am_S} (hfr : rl_fr be al gc gm) (hal : rl_al be al gm) (hY : Y 38 = gm 38) : ∃ n, n ≤ 10 ∧ vX2_vacant gc = some (.inl (some (.inl (nI n))), gc) ∧ vX7_freeFrames Y = some (.inl (some (.inl (nI n))), Y) := by
  rw [eX2_vacant, eX7_freeFrames]
  obtain ⟨x, y, ⟨rfl, hx⟩, e1, e2⟩ := pu_loop2 10 (fun j (x : Nat) => vX2_vacant_4 (nI x) (nI j) gc) (fun j (y : Nat) => vX7_freeFrames_4 (nI y) (nI j) Y) (fun j x y => x = y ∧ x ≤ j) (fun j x y hj hp => by
    obtain ⟨rfl, hx⟩ := hp
    obtain ⟨f1, f2, -, -, -, -, -, f8⟩ := hfr j hj
    show ∃ x' y' : Nat, (x' = y' ∧ x' ≤ j + 1) ∧ vX2_vacant_4 (nI x) (nI j) gc = vX2_vacant_4 (nI x') (nI (j + 1)) gc ∧ vX7_freeFrames_4 (nI x) (nI j) Y = vX7_freeFrames_4 (nI y') (nI (j + 1)) Y
    rw [eX2_vacant_4, eX7_freeFrames_4, if_neg (pu_nge (x := 10) (k := 10) rfl hj (by omega)), if_neg (pu_nge (x := 10) (k := 10) rfl hj (by omega)), pu_in hj (by omega), pu_g, pu_g, nI_clamp (show j < 2 ^ 31 by omega), hY, f2, nI_1, nI_1, pu_lv]
    rcases f1 with z | ⟨s, hs, z⟩
    · rw [z, rl_bi_m, if_pos pu_neg, if_neg (by decide)]
      exact ⟨x + 1, x + 1, ⟨rfl, by omega⟩, rfl, rfl⟩
    · have hb := (hal.1 s hs (f8 s hs z).1).1
      rw [z, rl_bi_s hs, if_neg (pu_lt0 (by omega)), if_pos (pu_ge (x := 0) (k := 0) rfl (by omega) (by omega))]
      exact ⟨x, x, ⟨rfl, by omega⟩, rfl, rfl⟩) 10 0 0 0 rfl ⟨rfl, Nat.le_refl _⟩
  refine ⟨x, hx, ?_, ?_⟩
  · refine Eq.trans (show vX2_vacant_4 0 0 gc = vX2_vacant_4 (nI x) (nI 10) gc from e1) ?_
    rw [eX2_vacant_4, if_pos (show (10 : Int32) ≤ nI 10 from by decide)]
  · refine Eq.trans (show vX7_freeFrames_4 0 0 Y = vX7_freeFrames_4 (nI x) (nI 10) Y from e2) ?_
    rw [eX7_freeFrames_4, if_pos (show (10 : Int32) ≤ nI 10 from by decide)]
theorem sm_tick {gc gm : am_S} (h : rl_Q gc gm) : ∃ gc' gm', rl_Q gc' gm' ∧ vX6_tick gc = some (.inl none, gc') ∧ vX7_tick gm = some (.inl none, gm') := by
  obtain ⟨be, al, R, F⟩ := h
  have R0 := rl_thr_R (v := 0) R
  rw [eX6_tick, eX7_tick, pu_lt']
  obtain ⟨n, hn, e1, e2⟩ := sm_vac (Y := am_up gm 24 0 0 0) R.2.2.2.2.2.2.2.2.1 R.2.2.2.2.1 (pu_uf (by decide))
  rw [e1, e2, pu_bI, pu_bI]
  by_cases c : nI n < 3
  · rw [if_pos c, if_pos c]
    obtain ⟨x, y, ⟨R1, h23⟩, c1, c2⟩ := pu_loop2 4 (fun j (x : am_S) => vX6_tick_14 (nI j) x) (fun j (y : am_S) => vX7_tick_16 (nI j) y) (fun j x y => rl_R 8 be al x y ∧ x 23 = gc 23) (fun j g m hj hp => by
      obtain ⟨Rj, hj23⟩ := hp
      obtain ⟨hd, hhd, d1, d2⟩ := Rj.2.2.2.2.2.2.2.2.2.1
      obtain ⟨g2, m2, q1, q2, R2, k⟩ := sm_move (keep := -1) (rl_unmark_R hd Rj)
      refine ⟨g2, m2, ⟨R2, ?_⟩, ?_, ?_⟩
      · rw [k 23 (by decide) (by decide), pu_uf (by decide)]; exact hj23
      · rw [eX6_tick_14, if_neg (pu_nge (x := 4) (k := 4) rfl hj (by omega)), d1, pu_in hhd (by omega), pu_g, pu_b0, pu_g, pu_lt', nI_clamp (by omega), q1, pu_bV, nI_1]
      · rw [eX7_tick_16, if_neg (pu_nge (x := 4) (k := 4) rfl hj (by omega)), d2, pu_in hhd (by omega), pu_g, pu_b0, pu_g, pu_lt', nI_clamp (by omega), q2, pu_bV, nI_1]) 4 0 gc (am_up gm 24 0 0 0) rfl ⟨R0, rfl⟩
    refine ⟨x, y, ⟨be, al, R1, fun s hs ha hx => by rw [rl_pc_congr h23]; exact F s hs ha hx⟩, ?_, ?_⟩
    · refine Eq.trans (show vX6_tick_14 0 gc = vX6_tick_14 (nI 4) x from c1) ?_
      rw [eX6_tick_14, if_pos (show (4 : Int32) ≤ nI 4 from by decide)]
    · refine Eq.trans (show vX7_tick_16 0 (am_up gm 24 0 0 0) = vX7_tick_16 (nI 4) y from c2) ?_
      rw [eX7_tick_16, if_pos (show (4 : Int32) ≤ nI 4 from by decide)]
  · rw [if_neg c, if_neg c]
    exact ⟨gc, _, ⟨be, al, R0, F⟩, rfl, rfl⟩
