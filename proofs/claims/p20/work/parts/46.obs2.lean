/-! slot -/
theorem rl_slot_R {be : Nat → Nat} {al : Nat → Bool} {gc gm gc' gm' : am_S} (h : rl_R 8 be al gc gm) (C : ∀ f, f ≠ 15 → f ≠ 16 → f ≠ 17 → gc' f = gc f) (M : ∀ f, f ≠ 42 → f ≠ 43 → f ≠ 44 → gm' f = gm f) (hs1' : rl_s1 be al gc' gm') : rl_R 8 be al gc' gm' := by
  obtain ⟨htk, hrg, hpg, hmp, hal, hdd, hsp, hsh, hfr, hhd, har, hpk, hs1, hs2⟩ := h
  have c : ∀ f, f < 15 ∨ 18 ≤ f → gc' f = gc f := fun f hf => C f (by omega) (by omega) (by omega)
  have m : ∀ f, f < 42 → gm' f = gm f := fun f hf => M f (by omega) (by omega) (by omega)
  refine ⟨?_, ?_, ?_, ?_, ?_, ?_, ?_, ?_, ?_, ?_, ?_, ?_, hs1', ?_⟩
  · unfold rl_tk; rw [c 19 (by decide), c 23 (by decide), m 25 (by decide), m 26 (by decide), m 27 (by decide)]; exact htk
  · unfold rl_rg; rw [c 19 (by decide), c 20 (by decide), c 21 (by decide), m 28 (by decide), m 29 (by decide), m 30 (by decide)]; exact hrg
  · unfold rl_pg; rw [c 22 (by decide), c 23 (by decide), m 31 (by decide), m 32 (by decide)]; exact hpg
  · intro s hs; rw [rl_pc_congr (c 23 (by decide)), c 5 (by decide)]; exact hmp s hs
  · unfold rl_al; rw [m 37 (by decide)]; exact hal
  · unfold rl_dd; rw [c 5 (by decide), c 6 (by decide)]; exact hdd
  · unfold rl_sp; rw [c 2 (by decide), c 4 (by decide)]; exact hsp
  · unfold rl_sh; rw [c 5 (by decide), c 6 (by decide), c 8 (by decide), c 10 (by decide), c 12 (by decide), m 33 (by decide), m 34 (by decide), m 35 (by decide), m 36 (by decide)]; exact hsh
  · unfold rl_fr; rw [c 5 (by decide), c 8 (by decide), c 9 (by decide), c 10 (by decide), m 38 (by decide), m 39 (by decide), m 40 (by decide)]; exact hfr
  · unfold rl_hd; rw [c 7 (by decide), m 24 (by decide)]; exact hhd
  · unfold rl_ar rl_in; rw [c 5 (by decide), c 12 (by decide)]; exact har
  · unfold rl_pk; rw [c 11 (by decide), m 33 (by decide), m 37 (by decide)]; exact hpk
  · unfold rl_s2; rw [c 5 (by decide), m 41 (by decide)]; exact hs2
/-- one slot changes: what it must be -/
theorem rl_slot1_R {be : Nat → Nat} {al : Nat → Bool} {gc gm gc' gm' : am_S} {k : Nat} (h : rl_R 8 be al gc gm) (C : ∀ f, f ≠ 15 → f ≠ 16 → f ≠ 17 → gc' f = gc f) (M : ∀ f, f ≠ 42 → f ≠ 43 → f ≠ 44 → gm' f = gm f) (Ck : ∀ j, j ≠ k → gc' 15 0 j = gc 15 0 j ∧ gc' 16 0 j = gc 16 0 j ∧ gc' 17 0 j = gc 17 0 j) (Mk : ∀ j, j ≠ k → gm' 42 0 j = gm 42 0 j ∧ gm' 43 0 j = gm 43 0 j ∧ gm' 44 0 j = gm 44 0 j)
    (hk : gm' 43 0 k = gc' 16 0 k ∧ (gc' 16 0 k = 0 ∨ gc' 16 0 k = 1) ∧ gm' 44 0 k = gc' 17 0 k ∧ (gc' 17 0 k = 0 ∨ gc' 17 0 k = 1) ∧ ((gc' 15 0 k = 0 ∧ gm' 42 0 k = 0 ∧ gm 41 0 k = -1 ∧ gc' 17 0 k = 0) ∨ (gc' 15 0 k = 2 ∧ gm' 42 0 k = 1 ∧ gm 41 0 k = -1 ∧ gc' 17 0 k = 0) ∨ (gc' 15 0 k = 1 ∧ gm' 42 0 k = 0 ∧ gc 15 0 k = 1))) : rl_R 8 be al gc' gm' := by
  refine rl_slot_R h C M (fun j hj => ?_)
  have hs1 := h.2.2.2.2.2.2.2.2.2.2.2.2.1
  rw [C 5 (by decide) (by decide) (by decide), M 41 (by decide) (by decide) (by decide)]
  by_cases e : j = k
  · subst e
    obtain ⟨a1, a2, a3, a4, a5⟩ := hk
    refine ⟨a1, a2, a3, a4, ?_⟩
    rcases a5 with z | z | ⟨z1, z2, z3⟩
    · exact Or.inl z
    · exact Or.inr (Or.inl z)
    · rcases (hs1 j hj).2.2.2.2 with ⟨y, -⟩ | ⟨y, -⟩ | ⟨-, -, y⟩
      · rw [z3] at y; exact absurd y (by decide)
      · rw [z3] at y; exact absurd y (by decide)
      · exact Or.inr (Or.inr ⟨z1, z2, y⟩)
  · obtain ⟨c1, c2, c3⟩ := Ck j e
    obtain ⟨m1, m2, m3⟩ := Mk j e
    rw [c1, c2, c3, m1, m2, m3]
    exact hs1 j hj
theorem sm_slotO {gc gm : am_S} (x y : Int32) (h : rl_Q gc gm) : sm_OV th_12 (vX6_slot x y gc) (vX7_slot x y gm) := by
  obtain ⟨be, al, R, F⟩ := h
  have no : ∀ (v : Int32), ¬ v ≤ 0 → vX7_slot_28 x y v gm = some (.inl none, am_up gm 24 0 0 v) := fun v hv => by
    rw [eX7_slot_28, pu_lt', pu_us, if_neg hv]
  have bad : ∀ (e : Nat) (v : Int32), th_12 e = v → ¬ v = 0 → sm_OV th_12 (some (.inr e, gc)) (some (.inl none, am_up gm 24 0 0 v)) := fun e v he hv => ⟨gc, _, ⟨be, al, rl_thr_R R, F⟩, rfl, Or.inr ⟨e, rfl, by rw [pu_us, he], by rw [he]; exact hv⟩⟩
  rw [eX6_slot, eX7_slot]
  rcases sm_num (n := 24) (by omega) x gm with ⟨k, hk, rfl, e⟩ | ⟨hx, e⟩
  · have e' : vX7_isNumber (nI k) 24 gm = _ := e
    rw [e', pu_bI, if_neg (show ¬ (1 : Int32) = 0 by decide), if_neg (pu_lt0 (by omega)), if_pos (pu_lt (x := 24) (k := 24) rfl hk (by omega))]
    by_cases y0 : y < 0
    · rw [if_pos y0, if_pos y0, eX7_slot_23, no 2 (by decide)]
      exact bad 2 2 rfl (by decide)
    · rw [if_neg y0, if_neg y0]
      by_cases y2 : y ≤ 2
      · rw [if_pos y2, if_pos y2, eX7_slot_28, pu_lt' (g := am_up gm 24 0 0 0), pu_us, if_pos (show (0 : Int32) ≤ 0 by decide), eX1_mend, pu_in hk (by omega)]
        simp only [pu_g, pu_b0, pu_b1, pu_lt', nI_clamp (show k < 2 ^ 31 by omega)]
        have R' := rl_thr_R (v := 0) R
        obtain ⟨a1, a2, a3, a4, a5⟩ := R.2.2.2.2.2.2.2.2.2.2.2.2.1 k hk
        generalize hY : am_up gm 24 0 0 0 = Y at R'
        have hY0 : ∀ f, f ≠ 24 → Y f = gm f := fun f hf => by rw [← hY]; exact pu_uf hf
        have hY00 : Y 24 0 0 = 0 := by rw [← hY]; exact pu_us
        have fin : ∀ (gc' gm' : am_S), rl_R 8 be al gc' gm' → gc' 23 = gc 23 → gm' 24 = Y 24 → sm_OV th_12 (some (.inl none, gc')) (some (.inl none, gm')) := fun gc' gm' R2 h23 h24 => ⟨gc', gm', ⟨be, al, R2, fun s hs ha hx => by rw [rl_pc_congr h23]; exact F s hs ha hx⟩, rfl, Or.inl ⟨rfl, by rw [h24]; exact hY00⟩⟩
        by_cases q0 : y = 0
        · rw [if_pos q0, if_pos q0, pu_uf (g := am_up gc 16 0 k 0) (show 15 ≠ 17 by decide), pu_uf (g := gc) (show 15 ≠ 16 by decide)]
          have M : ∀ f, f ≠ 42 → f ≠ 43 → f ≠ 44 → (am_up (am_up (am_up Y 42 0 k 0) 43 0 k 0) 44 0 k 0) f = Y f := fun f a b c => by rw [pu_uf c, pu_uf b, pu_uf a]
          have Mo : ∀ j, j ≠ k → (am_up (am_up (am_up Y 42 0 k 0) 43 0 k 0) 44 0 k 0) 42 0 j = Y 42 0 j ∧ (am_up (am_up (am_up Y 42 0 k 0) 43 0 k 0) 44 0 k 0) 43 0 j = Y 43 0 j ∧ (am_up (am_up (am_up Y 42 0 k 0) 43 0 k 0) 44 0 k 0) 44 0 j = Y 44 0 j := fun j hj => by refine ⟨?_, ?_, ?_⟩ <;> rw [pu_uj hj, pu_uj hj, pu_uj hj]
          have M42 : (am_up (am_up (am_up Y 42 0 k 0) 43 0 k 0) 44 0 k 0) 42 0 k = 0 := by rw [pu_uf (by decide), pu_uf (by decide), pu_us]
          have M43 : (am_up (am_up (am_up Y 42 0 k 0) 43 0 k 0) 44 0 k 0) 43 0 k = 0 := by rw [pu_uf (by decide), pu_us]
          have M44 : (am_up (am_up (am_up Y 42 0 k 0) 43 0 k 0) 44 0 k 0) 44 0 k = 0 := pu_us
          have M24 := M 24 (by decide) (by decide) (by decide)
          generalize am_up (am_up (am_up Y 42 0 k 0) 43 0 k 0) 44 0 k 0 = Z at M Mo M42 M43 M44 M24
          by_cases hb : gc 15 0 k = 2
          · rw [if_pos hb, pu_bV]
            refine fin _ _ (rl_slot1_R (k := k) R' (fun f a b c => by rw [pu_uf a, pu_uf c, pu_uf b]) M (fun j hj => ?_) Mo ?_) (by rw [pu_uf (by decide), pu_uf (by decide), pu_uf (by decide)]) M24
            · refine ⟨?_, ?_, ?_⟩ <;> rw [pu_uj hj, pu_uj hj, pu_uj hj]
            · rw [M42, M43, M44, pu_us, pu_uf (show 16 ≠ 15 by decide), pu_uf (show 16 ≠ 17 by decide), pu_us, pu_uf (show 17 ≠ 15 by decide), pu_us, hY0 41 (by decide)]
              refine ⟨rfl, Or.inl rfl, rfl, Or.inl rfl, Or.inl ⟨rfl, rfl, ?_, rfl⟩⟩
              rcases a5 with ⟨z, -⟩ | ⟨-, -, z, -⟩ | ⟨z, -⟩
              · rw [hb] at z; exact absurd z (by decide)
              · exact z
              · rw [hb] at z; exact absurd z (by decide)
          · rw [if_neg hb, pu_bV]
            refine fin _ _ (rl_slot1_R (k := k) R' (fun f a b c => by rw [pu_uf c, pu_uf b]) M (fun j hj => ?_) Mo ?_) (by rw [pu_uf (by decide), pu_uf (by decide)]) M24
            · refine ⟨?_, ?_, ?_⟩ <;> rw [pu_uj hj, pu_uj hj]
            · rw [M42, M43, M44, pu_us, pu_uf (show 16 ≠ 17 by decide), pu_us, pu_uf (show 15 ≠ 17 by decide), pu_uf (show 15 ≠ 16 by decide), hY0 41 (by decide)]
              refine ⟨rfl, Or.inl rfl, rfl, Or.inl rfl, ?_⟩
              rcases a5 with ⟨z1, -, z3, -⟩ | ⟨z, -⟩ | ⟨z1, -⟩
              · exact Or.inl ⟨z1, rfl, z3, rfl⟩
              · exact absurd z hb
              · exact Or.inr (Or.inr ⟨z1, rfl, z1⟩)
        · rw [if_neg q0, if_neg q0]
          by_cases q1 : y = 1
          · rw [if_pos q1, if_pos q1]
            refine fin _ _ (rl_slot1_R (k := k) R' (fun f _ b _ => pu_uf b) (fun f _ b _ => pu_uf b) (fun j hj => ?_) (fun j hj => ?_) ?_) (pu_uf (by decide)) (pu_uf (by decide))
            · rw [pu_uj hj, pu_uj hj, pu_uj hj]; exact ⟨rfl, rfl, rfl⟩
            · rw [pu_uj hj, pu_uj hj, pu_uj hj]; exact ⟨rfl, rfl, rfl⟩
            · rw [pu_us, pu_us, pu_uf (show 17 ≠ 16 by decide), pu_uf (show 15 ≠ 16 by decide), pu_uf (show 44 ≠ 43 by decide), pu_uf (show 42 ≠ 43 by decide), hY0 44 (by decide), hY0 42 (by decide), hY0 41 (by decide)]
              refine ⟨rfl, Or.inr rfl, a3, a4, ?_⟩
              rcases a5 with z | z | ⟨z1, z2, -⟩
              · exact Or.inl z
              · exact Or.inr (Or.inl z)
              · exact Or.inr (Or.inr ⟨z1, z2, z1⟩)
          · rw [if_neg q1, if_neg q1, hY0 41 (by decide)]
            rcases a5 with ⟨z1, z2, z3, z4⟩ | ⟨z1, z2, z3, z4⟩ | ⟨z1, z2, s, hs, z3, z4, z5⟩
            · have hid : am_up Y 44 0 k 0 = Y := rl_up_id (by rw [hY0 44 (by decide), a3]; exact z4)
              rw [z1, z3, if_neg (show ¬ (0 : Int32) = 1 by decide), if_pos pu_neg, hid]
              exact fin _ _ R' rfl rfl
            · have hid : am_up Y 44 0 k 0 = Y := rl_up_id (by rw [hY0 44 (by decide), a3]; exact z4)
              rw [z1, z3, if_neg (show ¬ (2 : Int32) = 1 by decide), if_pos pu_neg, hid]
              exact fin _ _ R' rfl rfl
            · have hb := (R.2.2.2.2.1.1 s hs z3).1
              rw [z4, if_pos z1, if_neg (pu_lt0 (by omega))]
              refine fin _ _ (rl_slot1_R (k := k) R' (fun f _ _ c => pu_uf c) (fun f _ _ c => pu_uf c) (fun j hj => ?_) (fun j hj => ?_) ?_) (pu_uf (by decide)) (pu_uf (by decide))
              · rw [pu_uj hj, pu_uj hj, pu_uj hj]; exact ⟨rfl, rfl, rfl⟩
              · rw [pu_uj hj, pu_uj hj, pu_uj hj]; exact ⟨rfl, rfl, rfl⟩
              · rw [pu_us, pu_us, pu_uf (show 16 ≠ 17 by decide), pu_uf (show 15 ≠ 17 by decide), pu_uf (show 43 ≠ 44 by decide), pu_uf (show 42 ≠ 44 by decide), hY0 43 (by decide), hY0 42 (by decide)]
                exact ⟨a1, a2, rfl, Or.inr rfl, Or.inr (Or.inr ⟨z1, z2, z1⟩)⟩
      · rw [if_neg y2, if_neg y2, eX7_slot_23, no 2 (by decide)]
        exact bad 2 2 rfl (by decide)
  · have e' : vX7_isNumber x 24 gm = _ := e
    rw [e', pu_bI, if_pos rfl, no 1 (by decide)]
    have : (if x < 0 then some (.inr 1, gc) else if x < 24 then (if y < 0 then (some (.inr 2, gc)) else if y ≤ 2 then (if y = 0 then (am_bV (vX1_mend x gc) (fun g3 => some (.inl none, g3))) else if y = 1 then (am_g (am_in x 24) (am_g (am_b 1) (am_lt (am_up gc 16 0 x.toNatClampNeg 1) (fun g2 => some (.inl none, g2))))) else am_g (am_in x 24) (if (gc 15 0 x.toNatClampNeg) = 1 then (am_g (am_in x 24) (am_g (am_b 1) (am_lt (am_up gc 17 0 x.toNatClampNeg 1) (fun g1 => some (.inl none, g1))))) else some (.inl none, gc))) else some (.inr 2, gc)) else some (.inr 1, gc) : am_R) = some (.inr 1, gc) := by
      rcases hx with z | ⟨z, w⟩
      · rw [if_pos z]
      · obtain ⟨j, hj, rfl⟩ := nI_of z
        rw [if_neg z, if_neg (pu_nlt (x := 24) (k := 24) rfl ((nI_leI (a := 24) (b := j) (by omega) hj).mp w) (by omega))]
    rw [this]
    exact bad 1 1 rfl (by decide)
