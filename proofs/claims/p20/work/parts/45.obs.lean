/-! what observers answer, on both sides -/
def sm_OB (c m : am_R) : Prop := ∃ gc' gm' w, rl_Q gc' gm' ∧ c = some (.inl (some (.inl w)), gc') ∧ m = some (.inl (some (.inl w)), gm')
theorem sm_frame {gc gm : am_S} (x : Int32) (h : rl_Q gc gm) : sm_OB (vX6_frame x gc) (vX7_frame x gm) := by
  have h' := rl_thr (v := 0) h
  obtain ⟨be, al, R, F⟩ := h
  have hfr := R.2.2.2.2.2.2.2.2.1
  rw [eX6_frame, eX7_frame, pu_lt']
  by_cases hm : x = -1
  · obtain ⟨n, -, e1, e2⟩ := sm_vac (Y := am_up gm 24 0 0 0) hfr R.2.2.2.2.1 (pu_uf (by decide))
    rw [if_pos hm, if_pos hm, e1, e2, pu_bI, pu_bI]
    exact ⟨gc, _, _, h', rfl, rfl⟩
  · rw [if_neg hm, if_neg hm]
    rcases sm_num (n := 10) (by omega) x (am_up gm 24 0 0 0) with ⟨j, hj, rfl, e⟩ | ⟨hx, e⟩
    · have e' : vX7_isNumber (nI j) 10 (am_up gm 24 0 0 0) = _ := e
      obtain ⟨f1, f2, f3, f4, -, -, -, f8⟩ := hfr j hj
      rw [e', pu_bI, if_neg (show ¬ (1 : Int32) = 0 by decide), if_neg (pu_lt0 (by omega)), if_pos (pu_lt (x := 10) (k := 10) rfl hj (by omega)), pu_in hj (by omega), pu_g, pu_g, pu_g, pu_g, nI_clamp (by omega), pu_uf (show 38 ≠ 24 by decide), pu_uf (show 39 ≠ 24 by decide), f2, f3, eX6_frame_57, eX6_frame_57, eX7_frame_54, eX7_frame_54, pu_in hj (by omega), pu_g, pu_g, pu_g, pu_g, nI_clamp (by omega), pu_uf (show 40 ≠ 24 by decide), f4]
      rcases f1 with z | ⟨s, hs, z⟩
      · rw [z, rl_bi_m, if_pos pu_neg, if_neg (show ¬ (0 : Int32) ≤ -1 by decide)]
        exact ⟨gc, _, _, h', rfl, rfl⟩
      · have hb := (R.2.2.2.2.1.1 s hs (f8 s hs z).1).1
        rw [z, rl_bi_s hs, if_neg (pu_lt0 (by omega)), if_pos (pu_ge (x := 0) (k := 0) rfl (by omega) (by omega))]
        by_cases c1 : gc 9 0 j = 0
        · rw [if_pos c1, if_pos c1]
          by_cases c2 : gc 10 0 j = 0
          · rw [if_pos c2, if_pos c2]; exact ⟨gc, _, _, h', rfl, rfl⟩
          · rw [if_neg c2, if_neg c2]; exact ⟨gc, _, _, h', rfl, rfl⟩
        · rw [if_neg c1, if_neg c1]
          by_cases c2 : gc 10 0 j = 0
          · rw [if_pos c2, if_pos c2]; exact ⟨gc, _, _, h', rfl, rfl⟩
          · rw [if_neg c2, if_neg c2]; exact ⟨gc, _, _, h', rfl, rfl⟩
    · have e' : vX7_isNumber x 10 (am_up gm 24 0 0 0) = _ := e
      rw [e', pu_bI, if_pos rfl]
      rcases hx with z | ⟨z, w⟩
      · rw [if_pos z]; exact ⟨gc, _, _, h', rfl, rfl⟩
      · obtain ⟨j, hj, rfl⟩ := nI_of z
        rw [if_neg z, if_neg (pu_nlt (x := 10) (k := 10) rfl ((nI_leI (a := 10) (b := j) (by omega) hj).mp w) (by omega))]
        exact ⟨gc, _, _, h', rfl, rfl⟩
theorem sm_slots {gc gm : am_S} (x : Int32) (h : rl_Q gc gm) : sm_OB (vX6_slots x gc) (vX7_slots x gm) := by
  have h' := rl_thr (v := 0) h
  obtain ⟨be, al, R, F⟩ := h
  have hs1 := R.2.2.2.2.2.2.2.2.2.2.2.2.1
  have hal := R.2.2.2.2.1
  rw [eX6_slots, eX7_slots, pu_lt']
  by_cases hm : x = -1
  · rw [if_pos hm, if_pos hm, eX1_countFree]
    obtain ⟨a, b, ⟨rfl, ha⟩, e1, e2⟩ := pu_loop2 24 (fun j (a : Nat) => vX1_countFree_4 (nI a) (nI j) gc) (fun j (b : Nat) => vX7_slots_14 x (nI b) (nI j) (am_up gm 24 0 0 0)) (fun j a b => a = b ∧ a ≤ j) (fun j a b hj hp => by
      obtain ⟨rfl, ha⟩ := hp
      show ∃ a' b' : Nat, (a' = b' ∧ a' ≤ j + 1) ∧ vX1_countFree_4 (nI a) (nI j) gc = vX1_countFree_4 (nI a') (nI (j + 1)) gc ∧ vX7_slots_14 x (nI a) (nI j) (am_up gm 24 0 0 0) = vX7_slots_14 x (nI b') (nI (j + 1)) (am_up gm 24 0 0 0)
      rw [eX1_countFree_4, eX7_slots_14, if_neg (pu_nge (x := 24) (k := 24) rfl hj (by omega)), if_neg (pu_nge (x := 24) (k := 24) rfl hj (by omega)), pu_in hj (by omega), pu_g, pu_g, pu_g, nI_clamp (by omega), pu_uf (show 41 ≠ 24 by decide), pu_uf (show 42 ≠ 24 by decide), pu_lv, nI_1, nI_1]
      rcases (hs1 j hj).2.2.2.2 with ⟨z1, z2, z3, -⟩ | ⟨z1, z2, z3, -⟩ | ⟨z1, z2, s, hs, z3, z4, -⟩
      · rw [z1, z2, z3, if_pos rfl, if_neg (show ¬ (0 : Int32) ≤ -1 by decide), if_pos rfl]
        exact ⟨a + 1, a + 1, ⟨rfl, by omega⟩, rfl, rfl⟩
      · rw [z1, z2, z3, if_neg (show ¬ (2 : Int32) = 0 by decide), if_neg (show ¬ (0 : Int32) ≤ -1 by decide), if_neg (show ¬ (1 : Int32) = 0 by decide)]
        exact ⟨a, a, ⟨rfl, by omega⟩, rfl, rfl⟩
      · have hb := (hal.1 s hs z3).1
        rw [z1, z2, z4, if_neg (show ¬ (1 : Int32) = 0 by decide), if_pos (pu_ge (x := 0) (k := 0) rfl (by omega) (by omega))]
        exact ⟨a, a, ⟨rfl, by omega⟩, rfl, rfl⟩) 24 0 0 0 rfl ⟨rfl, Nat.le_refl _⟩
    have E1 : vX1_countFree_4 0 0 gc = some (.inl (some (.inl (nI a))), gc) := by
      refine Eq.trans (show vX1_countFree_4 0 0 gc = vX1_countFree_4 (nI a) (nI 24) gc from e1) ?_
      rw [eX1_countFree_4, if_pos (show (24 : Int32) ≤ nI 24 from by decide)]
    have E2 : vX7_slots_14 x 0 0 (am_up gm 24 0 0 0) = some (.inl (some (.inl (nI a))), am_up gm 24 0 0 0) := by
      refine Eq.trans (show vX7_slots_14 x 0 0 (am_up gm 24 0 0 0) = vX7_slots_14 x (nI a) (nI 24) (am_up gm 24 0 0 0) from e2) ?_
      rw [eX7_slots_14, if_pos (show (24 : Int32) ≤ nI 24 from by decide)]
    rw [E1, E2, pu_bI]
    exact ⟨gc, _, _, h', rfl, rfl⟩
  · rw [if_neg hm, if_neg hm]
    rcases sm_num (n := 24) (by omega) x (am_up gm 24 0 0 0) with ⟨j, hj, rfl, e⟩ | ⟨hx, e⟩
    · have e' : vX7_isNumber (nI j) 24 (am_up gm 24 0 0 0) = _ := e
      rw [e', pu_bI, if_neg (show ¬ (1 : Int32) = 0 by decide), if_neg (pu_lt0 (by omega)), if_pos (pu_lt (x := 24) (k := 24) rfl hj (by omega)), pu_in hj (by omega), pu_g, pu_g, pu_g, nI_clamp (by omega), pu_uf (show 41 ≠ 24 by decide), pu_uf (show 42 ≠ 24 by decide)]
      rcases (hs1 j hj).2.2.2.2 with ⟨z1, z2, z3, -⟩ | ⟨z1, z2, z3, -⟩ | ⟨z1, z2, s, hs, z3, z4, -⟩
      · rw [z1, z2, z3, if_pos rfl, if_pos pu_neg]
        exact ⟨gc, _, _, h', rfl, rfl⟩
      · rw [z1, z2, if_neg (show ¬ (1 : Int32) = 0 by decide)]
        exact ⟨gc, _, _, h', rfl, rfl⟩
      · have hb := (hal.1 s hs z3).1
        rw [z1, z2, z4, if_pos rfl, if_neg (pu_lt0 (by omega))]
        exact ⟨gc, _, _, h', rfl, rfl⟩
    · have e' : vX7_isNumber x 24 (am_up gm 24 0 0 0) = _ := e
      rw [e', pu_bI, if_pos rfl]
      rcases hx with z | ⟨z, w⟩
      · rw [if_pos z]; exact ⟨gc, _, _, h', rfl, rfl⟩
      · obtain ⟨j, hj, rfl⟩ := nI_of z
        rw [if_neg z, if_neg (pu_nlt (x := 24) (k := 24) rfl ((nI_leI (a := 24) (b := j) (by omega) hj).mp w) (by omega))]
        exact ⟨gc, _, _, h', rfl, rfl⟩
theorem sm_pageO {gc gm : am_S} (x y w : Int32) (h : rl_Q gc gm) : sm_OB (vX6_page x y w gc) (vX7_page x y w gm) := by
  have h' := rl_thr (v := 0) h
  obtain ⟨be, al, R0, F⟩ := h
  have R := rl_thr_R (v := 0) R0
  have go : ∀ v : Int32, sm_OB (some (.inl (some (.inl v)), gc)) (some (.inl (some (.inl v)), am_up gm 24 0 0 0)) := fun v => ⟨gc, _, v, h', rfl, rfl⟩
  have hpg := R.2.2.1
  rw [eX6_page, eX7_page, pu_lt']
  generalize hY : am_up gm 24 0 0 0 = Y at R go hpg
  rcases sm_living (Y := Y) R.1 rfl x with ⟨e1, e2⟩ | ⟨t, ht, rfl, hl, -, e2⟩
  · rw [e2, pu_bI, if_pos rfl]
    rw [eX6_living] at e1
    by_cases x0 : x < 0
    · rw [if_pos x0]; exact go _
    · rw [if_neg x0]
      by_cases x8 : 8 ≤ x
      · rw [if_pos x8]; exact go _
      · rw [if_neg x8]
        obtain ⟨t, ht0, rfl⟩ := nI_of x0
        have ht : t < 8 := by
          rcases Nat.lt_or_ge t 8 with o | o
          · exact o
          · exact absurd (pu_ge (x := 8) (k := 8) rfl o (by omega)) x8
        have hd : gc 19 t 4 = 0 := by
          rw [if_neg x0, if_neg x8, pu_in ht (by omega), pu_g, pu_g, pu_g, nI_clamp (by omega)] at e1
          by_cases c : gc 19 t 4 = 0
          · exact c
          · rw [if_neg c] at e1; cases e1
        by_cases y0 : y < 0
        · rw [if_pos y0]; exact go _
        · rw [if_neg y0]
          by_cases y16 : y < 16
          · obtain ⟨p, hp0, rfl⟩ := nI_of y0
            have hp : p < 16 := by
              rcases Nat.lt_or_ge p 16 with o | o
              · exact o
              · exact absurd y16 (pu_nlt (x := 16) (k := 16) rfl o (by omega))
            rw [if_pos y16, pu_in ht (by omega), pu_g, pu_g, pu_g, pu_in hp (by omega), pu_g, pu_lv, nI_clamp (by omega), nI_clamp (by omega), ((R.1 t ht (by omega)).2.2.2.2.1 hd).2 p hp, if_pos pu_neg]
            exact go _
          · rw [if_neg y16]; exact go _
  · rw [e2, pu_bI, if_neg (show ¬ (1 : Int32) = 0 by decide), if_neg (pu_lt0 (by omega)), if_neg (pu_nge (x := 8) (k := 8) rfl ht (by omega))]
    rcases sm_num (n := 16) (by omega) y Y with ⟨p, hp, rfl, e⟩ | ⟨hx, e⟩
    · have e' : vX7_isNumber (nI p) 16 Y = _ := e
      obtain ⟨o1, o2, o3⟩ := hpg t p ht hp
      rw [e', pu_bI, if_neg (show ¬ (1 : Int32) = 0 by decide), if_neg (pu_lt0 (by omega)), if_pos (pu_lt (x := 16) (k := 16) rfl hp (by omega)), pu_in ht (by omega), pu_g, pu_g, pu_g, pu_in hp (by omega), pu_g, pu_lv, pu_g, pu_g, pu_g, nI_clamp (show t < 2 ^ 31 by omega), nI_clamp (show p < 2 ^ 31 by omega), pu_16, pu_in (show 16 * t + p < 128 by omega) (by omega), pu_g, pu_g, pu_lv, pu_g, nI_clamp (show 16 * t + p < 2 ^ 31 by omega), o2]
      rcases o1 with z | ⟨s, hs, z⟩
      · rw [z, rl_bi_m, if_pos pu_neg, if_neg (show ¬ (0 : Int32) ≤ -1 by decide)]
        exact go _
      · obtain ⟨ha, k1, -⟩ := o3 s hs z
        have hal := R.2.2.2.2.1
        have hb := (hal.1 s hs ha).1
        obtain ⟨w1, -, pl⟩ := R.2.2.2.2.2.2.2.1 s hs ha
        obtain ⟨sn0, sn1⟩ := sm_sn (Y := Y) R hs ha rfl
        have mp := R.2.2.2.1 s hs
        have L2 : (1 + 1 : Int32) = 2 := by decide
        have L3 : (2 + 1 : Int32) = 3 := by decide
        have L4 : (3 + 1 : Int32) = 4 := by decide
        have L5 : (4 + 1 : Int32) = 5 := by decide
        have L1 : (0 + 1 : Int32) = 1 := by decide
        rw [z, rl_bi_s hs, if_neg (pu_lt0 (by omega)), if_pos (pu_ge (x := 0) (k := 0) rfl (by omega) (by omega)), k1, eX3_told, pu_in hs (by omega), pu_g, pu_g, pu_g, pu_g, pu_g, pu_g, pu_g, pu_g, pu_in hb (by omega), pu_g, pu_g, pu_g, pu_g, pu_g, nI_clamp (show be s < 2 ^ 31 by omega), nI_clamp (show s < 2 ^ 31 by omega), w1, sn0, sn1, lm_mappings, pu_bI, pu_bI, pu_bI, pu_g, L1, L2, L3, L4, L5]
        by_cases q0 : w = 0
        · rw [if_pos q0, if_pos q0]; exact go _
        · rw [if_neg q0, if_neg q0]
          by_cases q1 : w = 1
          · rw [if_pos q1, if_pos q1]; exact go _
          · rw [if_neg q1, if_neg q1]
            by_cases q2 : w = 2
            · rw [if_pos q2, if_pos q2]
              rcases pl with ⟨u1, u2, u3⟩ | ⟨u1, f, u2, u3, u4, -⟩ | ⟨u1, -, a, n, u3, u4, u5, u6, u7, -⟩ | ⟨u1, k, u2, u3⟩
              · rw [u1, if_neg (show ¬ (0 : Int32) = 3 by decide), if_pos rfl, u2]; exact go _
              · rw [u1, if_neg (show ¬ (1 : Int32) = 3 by decide), if_neg (show ¬ (1 : Int32) = 0 by decide), if_pos rfl, rl_frameOf R.2.2.2.2.2.2.2.2.1 hal hs ha u2 u3 u4 rfl, u3]; exact go _
              · rw [u1, if_neg (show ¬ (2 : Int32) = 3 by decide), if_neg (show ¬ (2 : Int32) = 0 by decide), if_neg (show ¬ (2 : Int32) = 1 by decide), if_pos rfl, u3, u7]; exact go _
              · rw [u1, if_pos rfl, if_neg (show ¬ (3 : Int32) = 0 by decide), if_neg (show ¬ (3 : Int32) = 1 by decide), if_neg (show ¬ (3 : Int32) = 2 by decide)]; exact go _
            · rw [if_neg q2, if_neg q2]
              by_cases q3 : w = 3
              · rw [if_pos q3, if_pos q3, mp, rl_mp_eq hpg hal hs ha]; exact go _
              · rw [if_neg q3, if_neg q3]
                by_cases q4 : w = 4
                · rw [if_pos q4, if_pos q4]; exact go _
                · rw [if_neg q4, if_neg q4]
                  by_cases q5 : w = 5
                  · rw [if_pos q5, if_pos q5]
                    by_cases q6 : gc 5 s 2 = 1
                    · rw [if_pos q6, if_pos q6]; exact go _
                    · rw [if_neg q6, if_neg q6]; exact go _
                  · rw [if_neg q5, if_neg q5]; exact go _
    · have e' : vX7_isNumber y 16 Y = _ := e
      rw [e', pu_bI, if_pos rfl]
      rcases hx with z | ⟨z, w⟩
      · rw [if_pos z]; exact go _
      · obtain ⟨j, hj, rfl⟩ := nI_of z
        rw [if_neg z, if_neg (pu_nlt (x := 16) (k := 16) rfl ((nI_leI (a := 16) (b := j) (by omega) hj).mp w) (by omega))]
        exact go _
