/-! bits of an instruction -/
theorem pu_and3 (x : Int32) : ∃ k, k < 4 ∧ x &&& 3 = nI k := by
  refine ⟨(x.toBitVec &&& 3#32).toNat, ?_, ?_⟩
  · rw [BitVec.toNat_and]
    exact Nat.lt_of_le_of_lt Nat.and_le_right (by decide)
  · apply Int32.toBitVec_inj.mp
    apply BitVec.eq_of_toNat_eq
    show (x.toBitVec &&& 3#32).toNat = (BitVec.ofNat 32 (x.toBitVec &&& 3#32).toNat).toNat
    rw [BitVec.toNat_ofNat, Nat.mod_eq_of_lt (BitVec.isLt _)]
theorem pu_bits (v : BitVec 32) {n : Nat} (hn : n ≤ 30) : (v >>> n) &&& 3#32 = (v.sshiftRight n) &&& 3#32 := by
  apply BitVec.eq_of_getLsbD_eq
  intro i hi
  rw [BitVec.getLsbD_and, BitVec.getLsbD_and, BitVec.getLsbD_ushiftRight, BitVec.getLsbD_sshiftRight]
  by_cases h : i < 2
  · have e1 : decide (32 ≤ i) = false := decide_eq_false (by omega)
    have e2 : n + i < 32 := by omega
    rw [e1, if_pos e2]
    simp
  · have e : (3#32).getLsbD i = false := by
      have : ∀ j : Fin 32, ¬ j.1 < 2 → (3#32).getLsbD j.1 = false := by decide
      exact this ⟨i, hi⟩ h
    rw [e, Bool.and_false, Bool.and_false]
theorem pu_sh22 (x : Int32) : ((x.toUInt32 >>> (Int32.toUInt32 22 &&& Int32.toUInt32 31)).toInt32) &&& 3 = (x >>> (((22 : Int32) &&& (31 : Int32)) : Int32) : Int32) &&& 3 := by
  apply Int32.toBitVec_inj.mp
  exact pu_bits x.toBitVec (n := 22) (by omega)
theorem pu_sh20 (x : Int32) : ((x.toUInt32 >>> (Int32.toUInt32 20 &&& Int32.toUInt32 31)).toInt32) &&& 3 = (x >>> (((20 : Int32) &&& (31 : Int32)) : Int32) : Int32) &&& 3 := by
  apply Int32.toBitVec_inj.mp
  exact pu_bits x.toBitVec (n := 20) (by omega)
/-! counters and registers -/
theorem rl_cnt_R {be : Nat → Nat} {al : Nat → Bool} {gc gm : am_S} {t : Nat} {v : Int32} (R : rl_R 8 be al gc gm) : rl_R 8 be al (am_up gc 19 t 6 v) (am_up gm 28 0 t v) := by
  refine rl_task_R R (fun f a _ _ => pu_uf a) (fun f _ _ _ a _ _ => pu_uf a) (fun u hu hne => ?_) (fun u hu => ?_)
  · rw [pu_uj (show 4 ≠ 6 by decide), pu_uj (show 5 ≠ 6 by decide), pu_uj (show 7 ≠ 6 by decide), pu_uf (show 23 ≠ 19 by decide), pu_uf (show 25 ≠ 28 by decide), pu_uf (show 26 ≠ 28 by decide), pu_uf (show 27 ≠ 28 by decide)]
    exact R.1 u hu hne
  · rw [pu_ub, pu_ub, pu_uf (show 20 ≠ 19 by decide), pu_uf (show 21 ≠ 19 by decide), pu_uf (show 29 ≠ 28 by decide), pu_uf (show 30 ≠ 28 by decide)]
    obtain ⟨a1, a2, a3⟩ := R.2.1 u hu
    refine ⟨?_, a2, a3⟩
    by_cases w : u = t
    · rw [if_pos ⟨rfl, w⟩, if_pos ⟨w, rfl⟩]
    · rw [if_neg (fun z => w z.2), if_neg (fun z => w z.1)]; exact a1
theorem rl_reg_R {be : Nat → Nat} {al : Nat → Bool} {gc gm : am_S} {t r : Nat} {v : Int32} (R : rl_R 8 be al gc gm) (hr : r < 4) : rl_R 8 be al (am_up gc 20 t r v) (am_up gm 29 0 (4 * t + r) v) := by
  refine rl_task_R R (fun f _ a _ => pu_uf a) (fun f _ _ _ _ a _ => pu_uf a) (fun u hu hne => ?_) (fun u hu => ?_)
  · rw [pu_uf (show 19 ≠ 20 by decide), pu_uf (show 23 ≠ 20 by decide), pu_uf (show 25 ≠ 29 by decide), pu_uf (show 26 ≠ 29 by decide), pu_uf (show 27 ≠ 29 by decide)]
    exact R.1 u hu hne
  · rw [pu_uf (show 19 ≠ 20 by decide), pu_uf (show 21 ≠ 20 by decide), pu_uf (show 28 ≠ 29 by decide), pu_uf (show 30 ≠ 29 by decide)]
    obtain ⟨a1, a2, a3⟩ := R.2.1 u hu
    refine ⟨a1, fun i hi => ?_, a3⟩
    rw [pu_ub, pu_ub]
    by_cases w : u = t ∧ i = r
    · rw [if_pos w, if_pos ⟨rfl, by omega⟩]
    · rw [if_neg w, if_neg (fun z => w (by omega))]; exact a2 i hi
theorem rl_fx_23 {x : Nat} {al : Nat → Bool} {gc gc' : am_S} (F : rl_fx x al gc) (e : gc' 23 = gc 23) : rl_fx x al gc' := fun r hr a b => by rw [rl_pc_congr e]; exact F r hr a b
/-- a touch within a run, which ends the process if it is refused -/
theorem sm_reach {w b3 : Int32} (H : sm_TO w b3 0) {be : Nat → Nat} {al : Nat → Bool} {gc gm : am_S} {t : Nat} (x : Int32) (R : rl_R 8 be al gc gm) (F : rl_fx 128 al gc) (ht : t < 8) (hl : gc 19 t 4 = 1) :
    ∃ be' al' gc' gm', rl_R 8 be' al' gc' gm' ∧ rl_fx 128 al' gc' ∧
      ((∃ gT, vX6_touch (nI t) x w gc = some (.inl (some (.inr (.inr (5, (-1))))), gT) ∧ vX6_endRefused (nI t) gT = some (.inl none, gc') ∧ vX7_reaches (nI t) x b3 gm = some (.inl (some (.inl 0)), gm')) ∨
       ∃ s a, s < 128 ∧ a < 128 ∧ x = nI a ∧ al' s = true ∧ be' s < 130 ∧ vX6_touch (nI t) x w gc = some (.inl (some (.inr (.inr (5, nI s)))), gc') ∧ vX7_reaches (nI t) x b3 gm = some (.inl (some (.inl 1)), gm') ∧ gm' 31 0 (16 * t + a / 8) = nI (be' s) ∧ gc' 19 t = gc 19 t ∧ gc' 20 = gc 20) := by
  have dead : ∀ {be1 : Nat → Nat} {al1 : Nat → Bool} {gT gN : am_S}, rl_R 8 be1 al1 gT gN → rl_fx 128 al1 gT → gT 19 t 4 = 1 → ∃ al' gc' gm', rl_R 8 be1 al' gc' gm' ∧ rl_fx 128 al' gc' ∧ vX6_endRefused (nI t) gT = some (.inl none, gc') ∧ vX7_reaches_25 (nI t) x b3 1 gN = some (.inl (some (.inl 0)), gm') := by
    intro be1 al1 gT gN R1 F1 h1
    obtain ⟨al', gc', gm', c, m, R', F', -⟩ := sm_endTask (why := 3) R1 F1 ht
    refine ⟨al', gc', gm', R', F', ?_, ?_⟩
    · rw [eX6_endRefused, pu_in ht (by omega), pu_g, nI_clamp (by omega), h1, if_neg (by decide), c, pu_bV]
    · rw [eX7_reaches_25, if_pos rfl, m, pu_bV, if_neg (by decide), pu_b0, pu_g]
  rw [eX7_reaches]
  rcases sm_num (n := 128) (by omega) x gm with ⟨a, ha, rfl, e⟩ | ⟨hx, e⟩
  · have e' : vX7_isNumber (nI a) 128 gm = _ := e
    have d8 : nI a / 8 = nI (a / 8) := pu_d8 ⟨a, ha⟩
    rw [e', pu_bI, if_neg (show ¬ (1 : Int32) = 0 by decide), pu_nz8, pu_g, d8]
    obtain ⟨be', al', gT, gN, R', F', res⟩ := H be al gc gm t a R F ht ha hl
    rcases res with ⟨c, m, d⟩ | ⟨c, m, d⟩ | ⟨s, hs, c, m, d1, d2, d3⟩
    · obtain ⟨al2, gc2, gm2, R2, F2, c2, m2⟩ := dead R' F' d
      rw [m, pu_bI, m2]
      exact ⟨be', al2, gc2, gm2, R2, F2, Or.inl ⟨gT, c, c2, rfl⟩⟩
    · rw [m, pu_bI, eX7_reaches_25, if_neg (by decide), if_neg (by decide), pu_b0, pu_g]
      refine ⟨be', al', gT, gN, R', F', Or.inl ⟨gT, c, ?_, rfl⟩⟩
      rw [eX6_endRefused, pu_in ht (by omega), pu_g, nI_clamp (by omega), d, if_pos rfl]
    · obtain ⟨-, p2, p3⟩ := R'.2.2.1 t (a / 8) ht (by omega)
      have has := (p3 s hs d1).1
      rw [d1, rl_bi_s hs] at p2
      rw [m, pu_bI, eX7_reaches_25, if_neg (by decide), if_pos rfl, pu_b1, pu_g]
      exact ⟨be', al', gT, gN, R', F', Or.inr ⟨s, a, hs, ha, rfl, has, (R'.2.2.2.2.1.1 s hs has).1, c, rfl, p2, d2, d3⟩⟩
  · have e' : vX7_isNumber x 128 gm = _ := e
    obtain ⟨al2, gc2, gm2, R2, F2, c2, m2⟩ := dead R F hl
    rw [e', pu_bI, if_pos rfl, m2]
    refine ⟨be, al2, gc2, gm2, R2, F2, Or.inl ⟨gc, ?_, c2, rfl⟩⟩
    have sf : vX5_sheetFor (nI t) x w gc = some (.inl (some (.inr (.inr (5, (-1))))), gc) := by
      rw [eX5_sheetFor]
      rcases hx with z | ⟨z, z'⟩
      · rw [if_pos z]
      · rw [if_neg z, if_neg (show ¬ x < 128 from Int32.not_lt.mpr z')]
    rw [eX6_touch, pu_in ht (by omega), pu_g, sf, pu_bA5, if_pos pu_neg]
