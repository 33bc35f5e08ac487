/-! pool -/
def rl_tb (g : am_S) (j : Nat) : Nat := pu_cn (fun b => decide (¬ g 12 0 b = 0)) j
def rl_row (g : am_S) : Nat → Nat
  | 0 => 0
  | j + 1 => if g 12 0 j = 0 then rl_row g j + 1 else 0
def rl_lon (g : am_S) : Nat → Nat
  | 0 => 0
  | j + 1 => if rl_row g (j + 1) ≤ rl_lon g j then rl_lon g j else rl_row g (j + 1)
theorem rl_row_le (g : am_S) : ∀ j, rl_row g j ≤ j := by
  intro j
  induction j with
  | zero => exact Nat.le_refl _
  | succ j ih => unfold rl_row; split <;> omega
theorem rl_lon_le (g : am_S) : ∀ j, rl_lon g j ≤ j := by
  intro j
  induction j with
  | zero => exact Nat.le_refl _
  | succ j ih =>
    have := rl_row_le g (j + 1)
    unfold rl_lon
    split <;> omega
theorem lc_tb {g : am_S} : vX0_takenBytes g = some (.inl (some (.inl (nI (rl_tb g 64)))), g) := by
  rw [eX0_takenBytes]
  obtain ⟨x, rfl, e⟩ := pu_loop 64 (fun j (x : Nat) => vX0_takenBytes_4 (nI x) (nI j) g) (fun j x => x = rl_tb g j) (fun j x hj hx => by
    refine ⟨_, rfl, ?_⟩
    subst hx
    have st : rl_tb g (j + 1) = rl_tb g j + (match decide (¬ g 12 0 j = 0) with | true => 1 | false => 0) := rfl
    rw [eX0_takenBytes_4, if_neg (pu_nge (x := 64) (k := 64) rfl hj (by omega)), pu_in hj (by omega), pu_g, nI_clamp (by omega), nI_1, nI_1, st]
    by_cases c : g 12 0 j = 0
    · rw [if_pos c, decide_eq_false (fun z => z c)]; rfl
    · rw [if_neg c, decide_eq_true c]) 64 0 0 rfl rfl
  refine Eq.trans (show vX0_takenBytes_4 0 0 g = vX0_takenBytes_4 (nI (rl_tb g 64)) (nI 64) g from e) ?_
  rw [eX0_takenBytes_4, if_pos (show (64 : Int32) ≤ nI 64 from by decide)]
theorem lc_lon {g : am_S} : vX0_longestRow g = some (.inl (some (.inl (nI (rl_lon g 64)))), g) := by
  rw [eX0_longestRow]
  obtain ⟨x, _, e⟩ := pu_loop 64 (fun j (_ : Unit) => vX0_longestRow_6 (nI (rl_row g j)) (nI (rl_lon g j)) (nI j) g) (fun _ _ => True) (fun j x hj hx => by
    refine ⟨(), trivial, ?_⟩
    have hl := rl_lon_le g j
    have hr := rl_row_le g (j + 1)
    have st2 : rl_lon g (j + 1) = if rl_row g (j + 1) ≤ rl_lon g j then rl_lon g j else rl_row g (j + 1) := rfl
    have key : vX0_longestRow_28 (nI (rl_row g j)) (nI (rl_lon g j)) (nI j) (nI (rl_row g (j + 1))) g = vX0_longestRow_6 (nI (rl_row g (j + 1))) (nI (rl_lon g (j + 1))) (nI (j + 1)) g := by
      rw [eX0_longestRow_28, nI_1, st2]
      by_cases c : rl_row g (j + 1) ≤ rl_lon g j
      · rw [if_pos (nI_le c (by omega)), if_pos c]
      · rw [if_neg (nI_ge (by omega) (by omega)), if_neg c]
    rw [← key, eX0_longestRow_6, if_neg (pu_nge (x := 64) (k := 64) rfl hj (by omega)), pu_in hj (by omega), pu_g, nI_clamp (by omega), nI_1]
    have st : rl_row g (j + 1) = if g 12 0 j = 0 then rl_row g j + 1 else 0 := rfl
    by_cases c : g 12 0 j = 0
    · rw [if_pos c, st, if_pos c]
    · rw [if_neg c, st, if_neg c]; rfl) 64 0 () rfl trivial
  refine Eq.trans (show vX0_longestRow_6 0 0 0 g = vX0_longestRow_6 (nI (rl_row g 64)) (nI (rl_lon g 64)) (nI 64) g from e) ?_
  rw [eX0_longestRow_6, if_pos (show (64 : Int32) ≤ nI 64 from by decide)]
theorem sm_pool {gc gm : am_S} (w : Int32) (h : rl_Q gc gm) : sm_OB (vX6_pool w gc) (vX7_pool w gm) := by
  have h' := rl_thr (v := 0) h
  obtain ⟨be, al, R0, F⟩ := h
  have R := rl_thr_R (v := 0) R0
  have go : ∀ v : Int32, sm_OB (some (.inl (some (.inl v)), gc)) (some (.inl (some (.inl v)), am_up gm 24 0 0 0)) := fun v => ⟨gc, _, v, h', rfl, rfl⟩
  rw [eX6_pool, eX7_pool, pu_lt']
  generalize hY : am_up gm 24 0 0 0 = Y at R go
  obtain ⟨o, _, e⟩ := pu_loop 64 (fun j (o : Option am_v) => vX7_pool_18 w (nI (rl_tb gc j)) 0 (nI (rl_row gc j)) (nI (rl_lon gc j)) (nI j) o Y) (fun _ _ => True) (fun j o hj _ => by
    have hl := rl_lon_le gc j
    have hr := rl_row_le gc (j + 1)
    have st : rl_row gc (j + 1) = if gc 12 0 j = 0 then rl_row gc j + 1 else 0 := rfl
    have st2 : rl_lon gc (j + 1) = if rl_row gc (j + 1) ≤ rl_lon gc j then rl_lon gc j else rl_row gc (j + 1) := rfl
    have st3 : rl_tb gc (j + 1) = rl_tb gc j + (match decide (¬ gc 12 0 j = 0) with | true => 1 | false => 0) := rfl
    have k59 : ∀ (a : Int32), vX7_pool_59 w (nI (rl_tb gc (j + 1))) 0 (nI (rl_row gc j)) (nI (rl_lon gc j)) (nI j) a (nI (rl_row gc (j + 1))) Y = vX7_pool_18 w (nI (rl_tb gc (j + 1))) 0 (nI (rl_row gc (j + 1))) (nI (rl_lon gc (j + 1))) (nI (j + 1)) (some (.inl a)) Y := fun a => by
      rw [eX7_pool_59, nI_1, st2]
      by_cases c : rl_row gc (j + 1) ≤ rl_lon gc j
      · rw [if_pos (nI_le c (by omega)), if_pos c]
      · rw [if_neg (nI_ge (by omega) (by omega)), if_neg c]
    refine ⟨some (.inl (gc 12 0 j)), trivial, ?_⟩
    rw [← k59, eX7_pool_18, if_neg (pu_nge (x := 64) (k := 64) rfl hj (by omega)), sm_isTaken R.2.2.2.2.1 R.2.2.2.2.2.2.2.1 R.2.2.2.2.2.2.2.2.2.2.1 hj, pu_bI, eX7_pool_44, eX7_pool_44, pu_lv, pu_lv, nI_1, nI_1]
    by_cases c : gc 12 0 j = 0
    · have z : nI (rl_tb gc j) + 0 = nI (rl_tb gc (j + 1)) := by rw [st3, decide_eq_false (fun z => z c)]; exact nI_add _ 0
      rw [if_pos c, if_pos c, z, st, if_pos c]
    · have z : nI (rl_tb gc (j + 1)) = nI (rl_tb gc j + 1) := by rw [st3, decide_eq_true c]
      rw [if_neg c, if_neg c, z, st, if_neg c]; rfl) 64 0 none rfl trivial
  have E : vX7_pool_18 w 0 0 0 0 0 none Y = vX7_pool_86 w (nI (rl_tb gc 64)) 0 (nI (rl_row gc 64)) (nI (rl_lon gc 64)) 0 o Y := by
    refine Eq.trans (show vX7_pool_18 w 0 0 0 0 0 none Y = vX7_pool_18 w (nI (rl_tb gc 64)) 0 (nI (rl_row gc 64)) (nI (rl_lon gc 64)) (nI 64) o Y from e) ?_
    rw [eX7_pool_18, if_pos (show (64 : Int32) ≤ nI 64 from by decide)]
  generalize hT : (fun q => decide (Y 37 0 q = 1 ∧ Y 33 0 q = 2)) = T
  have hTe : ∀ q, T q = decide (Y 37 0 q = 1 ∧ Y 33 0 q = 2) := fun q => by rw [← hT]
  obtain ⟨n, hn, e2⟩ := pu_loop 130 (fun j (n : Nat) => vX7_pool_86 w (nI (rl_tb gc 64)) (nI n) (nI (rl_row gc 64)) (nI (rl_lon gc 64)) (nI j) o Y) (fun j n => n = pu_cn T j) (fun j n hj hn => by
    refine ⟨_, rfl, ?_⟩
    subst hn
    have st : pu_cn T (j + 1) = pu_cn T j + (match T j with | true => 1 | false => 0) := rfl
    have z0 : nI (pu_cn T j) + 0 = nI (pu_cn T j) := nI_add _ 0
    rw [eX7_pool_86, if_neg (pu_nge (x := 130) (k := 130) rfl hj (by omega)), pu_in hj (by omega), pu_g, pu_g, nI_clamp (by omega), pu_lv, pu_lv, z0, nI_1, nI_1, st, hTe]
    rcases R.2.2.2.2.1.2.2 j hj with z | ⟨s, hs, a, b⟩
    · rw [if_pos z, decide_eq_false (fun q => by rw [z] at q; exact absurd q.1 (by decide))]; rfl
    · have h1 := (R.2.2.2.2.1.1 s hs a).2
      rw [b] at h1
      rw [if_neg (by rw [h1]; decide)]
      by_cases c : Y 33 0 j = 2
      · rw [if_pos c, decide_eq_true ⟨h1, c⟩]
      · rw [if_neg c, decide_eq_false (fun q => c q.2)]; rfl) 130 0 0 rfl rfl
  have E2 : vX7_pool_86 w (nI (rl_tb gc 64)) 0 (nI (rl_row gc 64)) (nI (rl_lon gc 64)) 0 o Y = vX7_pool_86 w (nI (rl_tb gc 64)) (nI n) (nI (rl_row gc 64)) (nI (rl_lon gc 64)) (nI 130) o Y := e2
  have hpk : gc 11 0 2 = nI n := by rw [hn, ← hT]; exact R.2.2.2.2.2.2.2.2.2.2.2.1
  obtain ⟨hd, -, d1, d2⟩ := R.2.2.2.2.2.2.2.2.2.1
  have L1 : (0 + 1 : Int32) = 1 := by decide
  have L2 : (1 + 1 : Int32) = 2 := by decide
  have L3 : (2 + 1 : Int32) = 3 := by decide
  rw [E, E2, eX7_pool_86, if_pos (show (130 : Int32) ≤ nI 130 from by decide), lc_tb, lc_lon, pu_bI, pu_bI, hpk, d1, d2, L1, L2, L3]
  by_cases q0 : w = 0
  · rw [if_pos q0, if_pos q0]; exact go _
  · rw [if_neg q0, if_neg q0]
    by_cases q1 : w = 1
    · rw [if_pos q1, if_pos q1]; exact go _
    · rw [if_neg q1, if_neg q1]
      by_cases q2 : w = 2
      · rw [if_pos q2, if_pos q2]; exact go _
      · rw [if_neg q2, if_neg q2]
        by_cases q3 : w = 3
        · rw [if_pos q3, if_pos q3]; exact go _
        · rw [if_neg q3, if_neg q3]; exact go _
