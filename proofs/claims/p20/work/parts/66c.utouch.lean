/-! touches to write, each side for itself -/
theorem ul_unmark_R {be : Nat → Nat} {al : Nat → Bool} {gc gm : am_S} {f : Nat} {u : Int32} (R : rl_R 8 be al gc (am_up gm 39 0 f u)) (h0 : gm 39 0 f = 0) : rl_R 8 be al (am_up gc 9 0 f 0) gm := by
  have mb : ∀ c, c ≠ 39 → (am_up gm 39 0 f u) c = gm c := fun c hc => pu_uf hc
  refine rl_mark_R R (fun c _ a => pu_uf a) (fun c _ a => (mb c a).symm) ?_ (fun f' hf' => ?_)
  · obtain ⟨x, x1, x2, x3⟩ := R.2.2.2.2.2.2.2.2.2.1
    rw [mb 24 (by decide)] at x3
    exact ⟨x, x1, by rw [pu_uf (by decide)]; exact x2, x3⟩
  · obtain ⟨-, -, a3, -, a5, -, a7, -⟩ := R.2.2.2.2.2.2.2.2.1 f' hf'
    rw [pu_ub]
    by_cases e : f' = f
    · rw [if_pos ⟨rfl, e⟩, e]
      exact ⟨h0, Or.inl rfl, fun _ => rfl⟩
    · rw [if_neg (fun z => e z.2)]
      rw [pu_uj e] at a3
      exact ⟨a3, a5, fun z => (a7 z).1⟩
/-- a touch to write: as one that needs no copy, or the copy -/
theorem sm_TO_k {w b4 : Int32} (hw : (w = 1 ∧ b4 = 0) ∨ (w = 2 ∧ b4 = 1)) {P : am_R → am_R → Prop} {be : Nat → Nat} {al : Nat → Bool} {gc gm : am_S} {t a : Nat} (R : rl_R 8 be al gc gm) (F : rl_fx 128 al gc) (ht : t < 8) (ha : a < 128) (hl : gc 19 t 4 = 1) (hT : ∀ c m, sm_T t (a / 8) gc c m → P c m)
    (hC : ∀ s, s < 128 → gc 23 t (a / 8) = nI s → 2 ≤ rl_pc gc s → P (vX6_touch_50 (nI t) (nI a) w (nI s) (nI (a / 8)) 1 gc) (if gm 33 0 (be s) = 0 then vX7_touch_90 (nI t) (nI (a / 8)) 1 b4 (nI (16 * t + a / 8)) (nI (be s)) 0 gm else am_bI (vX7_bring (nI t) (nI (be s)) gm) (fun r4 g3 => vX7_touch_90 (nI t) (nI (a / 8)) 1 b4 (nI (16 * t + a / 8)) (nI (be s)) r4 g3))) :
    P (vX6_touch (nI t) (nI a) w gc) (vX7_touch (nI t) (nI (a / 8)) 1 b4 gm) := by
  have hp : a / 8 < 16 := by omega
  have d8 : nI a / 8 = nI (a / 8) := pu_d8 ⟨a, ha⟩
  have hw0 : ¬ w = 0 := by rcases hw with ⟨rfl, -⟩ | ⟨rfl, -⟩ <;> decide
  obtain ⟨p1, p2, p3⟩ := R.2.2.1 t (a / 8) ht hp
  rw [eX6_touch, eX7_touch, pu_in ht (by omega), pu_g, lc_sf ht ha, pu_lv, pu_16, pu_in (show 16 * t + a / 8 < 128 by omega) (by omega), pu_g, pu_lv, nI_clamp (show 16 * t + a / 8 < 2 ^ 31 by omega), p2]
  rcases p1 with z | ⟨s, hs, z⟩
  · rw [z, rl_bi_m, if_pos pu_neg]
    split
    · rw [pu_bA5, if_pos pu_neg]; exact hT _ _ (sm_ref R F hl)
    · rw [pu_bA5, if_pos pu_neg]; exact hT _ _ (sm_ref R F hl)
  · obtain ⟨has, k1, k2⟩ := p3 s hs z
    have hbs := (R.2.2.2.2.1.1 s hs has).1
    have hpc := rl_pc_le gc s
    rw [z, rl_bi_s hs, if_neg (pu_lt0 (show be s < 2147483648 by omega)), if_neg (show ¬ (1 : Int32) = 0 by decide), pu_g, k1]
    by_cases ref : w = 1 ∧ gc 22 t (a / 8) = 2
    · have hb : b4 = 0 := by
        rcases hw with ⟨-, y⟩ | ⟨y, -⟩
        · exact y
        · rw [ref.1] at y; exact absurd y (by decide)
      rw [if_pos ref, pu_bA5, if_pos pu_neg, if_pos hb, if_pos ref.2]
      exact hT _ _ (sm_ref R F hl)
    · have go : (if b4 = 0 then if gc 22 t (a / 8) = 2 then some (.inl (some (.inl 1)), gm) else vX7_touch_44 (nI t) (nI (a / 8)) 1 b4 (nI (16 * t + a / 8)) (nI (be s)) gm else vX7_touch_44 (nI t) (nI (a / 8)) 1 b4 (nI (16 * t + a / 8)) (nI (be s)) gm) = vX7_touch_44 (nI t) (nI (a / 8)) 1 b4 (nI (16 * t + a / 8)) (nI (be s)) gm := by
        rcases hw with ⟨y1, y2⟩ | ⟨y1, y2⟩
        · rw [if_pos y2, if_neg (fun q => ref ⟨y1, q⟩)]
        · rw [if_neg (by rw [y2]; decide)]
      rw [if_neg ref, pu_bA5, if_neg (pu_lt0 (show s < 2147483648 by omega)), pu_nz8, pu_g, pu_lv, if_neg hw0, d8]
      refine Eq.subst (motive := fun y => P _ y) go.symm ?_
      rw [eX7_touch_44, if_neg (show ¬ (1 : Int32) = 0 by decide), pu_in (show 16 * t + a / 8 < 128 by omega) (by omega), pu_in hp (by omega), pu_in hs (by omega), lm_mappings, pu_bI, pu_in hbs (by omega)]
      simp only [pu_g, nI_clamp (show 16 * t + a / 8 < 2 ^ 31 by omega), nI_clamp (show t < 2 ^ 31 by omega), nI_clamp (show a / 8 < 2 ^ 31 by omega), nI_clamp (show s < 2 ^ 31 by omega), nI_clamp (show be s < 2 ^ 31 by omega)]
      rw [k1, R.2.2.2.1 s hs, rl_mp_eq R.2.2.1 R.2.2.2.2.1 hs has]
      by_cases sh : gc 22 t (a / 8) = 1
      · rw [if_pos sh, if_pos sh, eX6_touch_49]
        exact hT _ _ (sm_touch0 R F ht hp hl hs z (Or.inr ⟨hw0, by decide⟩))
      · rw [if_neg sh, if_neg sh]
        by_cases c : rl_pc gc s ≤ 1
        · rw [if_pos (pu_le (x := 1) (k := 1) rfl c (by omega)), eX6_touch_49]
          rw [if_pos (pu_le (x := 1) (k := 1) rfl c (by omega))]
          exact hT _ _ (sm_touch0 R F ht hp hl hs z (Or.inr ⟨hw0, by decide⟩))
        · rw [if_neg (pu_nle (x := 1) (k := 1) rfl (by omega) (by omega))]
          rw [if_neg (pu_nle (x := 1) (k := 1) rfl (by omega) (by omega))]
          exact hC s hs z (by omega)
theorem sm_CPc {be : Nat → Nat} {al : Nat → Bool} {gc gm : am_S} {t p s : Nat} {A2 A3 : Int32} (R : rl_R 8 be al gc gm) (F : rl_fx 128 al gc) (ht : t < 8) (hp : p < 16) (hl : gc 19 t 4 = 1) (hs : s < 128) (hx : gc 23 t p = nI s) (h2 : 2 ≤ rl_pc gc s) (hA : ¬ A3 = 0) : ∃ m, sm_T t p gc (vX6_touch_50 (nI t) A2 A3 (nI s) (nI p) 1 gc) m := by
  have hnd : 0 < rl_nd al := rl_spare_two F hp ht hs hx h2
  rw [eX6_touch_50, pu_in hs (by omega), pu_g, pu_g, nI_clamp (show s < 2 ^ 31 by omega), if_neg (show ¬ (1 : Int32) = 0 by decide)]
  by_cases c1 : gc 5 s 2 = 1
  · rw [if_pos c1]
    exact ⟨_, sm_cp (B2 := 0) (B3 := 1) (B4 := 0) R F ht hp hl hs hx (Or.inr c1) hnd hA (by decide)⟩
  · rw [if_neg c1]
    by_cases c0 : gc 5 s 2 = 0
    · rw [if_pos c0]
      exact ⟨_, sm_cp (B2 := 0) (B3 := 1) (B4 := 0) R F ht hp hl hs hx (Or.inl c0) hnd hA (by decide)⟩
    · rw [if_neg c0]
      rcases sm_bring (A2 := A2) (A3 := A3) (A5 := nI p) (A6 := 1) R F ht hp hl hs hx c1 with ⟨al', gc', gm', c, m, R', F', d⟩ | ⟨al', g1, m1, f, hf, c, m, R', F', ha', ⟨y2, y3, y8⟩, k19, k20, k22, k23, sub, -⟩
      · rw [c]
        exact ⟨_, be, al', gc', gm', R', F', Or.inr (Or.inl ⟨rfl, rfl, d⟩)⟩
      · rw [c]
        exact ⟨_, sm_T_trans (sm_cp (B2 := 0) (B3 := 1) (B4 := 0) R' F' ht hp (by rw [k19]; exact hl) hs (by rw [k23]; exact hx) (Or.inr y2) (Nat.lt_of_lt_of_le hnd (rl_nd_sub sub)) hA (by decide)) k19 k20⟩
theorem sm_CPm {be : Nat → Nat} {al : Nat → Bool} {gc gm : am_S} {t p s : Nat} {B2 B3 B4 : Int32} (R : rl_R 8 be al gc gm) (F : rl_fx 128 al gc) (ht : t < 8) (hp : p < 16) (hl : gc 19 t 4 = 1) (hs : s < 128) (hx : gc 23 t p = nI s) (h2 : 2 ≤ rl_pc gc s) (hB : ¬ B3 = 0) :
    ∃ c, sm_T t p gc c (if gm 33 0 (be s) = 0 then vX7_touch_90 (nI t) B2 B3 B4 (nI (16 * t + p)) (nI (be s)) 0 gm else am_bI (vX7_bring (nI t) (nI (be s)) gm) (fun r4 g3 => vX7_touch_90 (nI t) B2 B3 B4 (nI (16 * t + p)) (nI (be s)) r4 g3)) := by
  obtain ⟨-, px, py⟩ := R.2.2.1 t p ht hp
  have ha : al s = true := (py s hs hx).1
  have hbs := (R.2.2.2.2.1.1 s hs ha).1
  obtain ⟨hwh, -, hpl⟩ := R.2.2.2.2.2.2.2.1 s hs ha
  have hnd : 0 < rl_nd al := rl_spare_two F hp ht hs hx h2
  by_cases c1 : gc 5 s 2 = 1
  · have bb : vX7_bring (nI t) (nI (be s)) gm = some (.inl (some (.inl 0)), gm) := by
      rw [eX7_bring, pu_in hbs (by omega), pu_g, pu_lv, nI_clamp (by omega), hwh, if_pos c1]
    rw [if_neg (by rw [hwh, c1]; decide), bb, pu_bI]
    exact ⟨_, sm_cp (A2 := 0) (A3 := 1) (A7 := none) R F ht hp hl hs hx (Or.inr c1) hnd (by decide) hB⟩
  · by_cases c0 : gc 5 s 2 = 0
    · rw [if_pos (by rw [hwh]; exact c0)]
      exact ⟨_, sm_cp (A2 := 0) (A3 := 1) (A7 := none) R F ht hp hl hs hx (Or.inl c0) hnd (by decide) hB⟩
    · rw [if_neg (by rw [hwh]; exact c0)]
      rcases sm_bring (A2 := 0) (A3 := 1) (A5 := nI p) (A6 := 1) R F ht hp hl hs hx c1 with ⟨al', gc', gm', c, m, R', F', d⟩ | ⟨al', g1, m1, f, hf, c, m, R', F', ha', ⟨y2, y3, y8⟩, k19, k20, k22, k23, sub, z39⟩
      · rw [m, pu_bI, eX7_touch_90, if_neg (by decide)]
        exact ⟨_, be, al', gc', gm', R', F', Or.inr (Or.inl ⟨rfl, rfl, d⟩)⟩
      · rw [m, pu_bI]
        have R2 := ul_unmark_R R' z39
        have e19 : (am_up g1 9 0 f 0) 19 = g1 19 := pu_uf (by decide)
        have e20 : (am_up g1 9 0 f 0) 20 = g1 20 := pu_uf (by decide)
        have e23 : (am_up g1 9 0 f 0) 23 = g1 23 := pu_uf (by decide)
        have e5 : (am_up g1 9 0 f 0) 5 = g1 5 := pu_uf (by decide)
        exact ⟨_, sm_T_trans (sm_cp (A2 := 0) (A3 := 1) (A7 := none) R2 (rl_fx_23 F' e23) ht hp (by rw [e19, k19]; exact hl) hs (by rw [e23, k23]; exact hx) (Or.inr (by rw [e5]; exact y2)) (Nat.lt_of_lt_of_le hnd (rl_nd_sub sub)) (by decide) hB) (by rw [e19]; exact k19) (by rw [e20]; exact k20)⟩
/-- the class's touch, against something that is like the reference -/
theorem sm_TOc {w b4 : Int32} (hw : (w = 1 ∧ b4 = 0) ∨ (w = 2 ∧ b4 = 1)) {be : Nat → Nat} {al : Nat → Bool} {gc gm : am_S} {t a : Nat} (R : rl_R 8 be al gc gm) (F : rl_fx 128 al gc) (ht : t < 8) (ha : a < 128) (hl : gc 19 t 4 = 1) : ∃ m, sm_T t (a / 8) gc (vX6_touch (nI t) (nI a) w gc) m :=
  sm_TO_k hw (P := fun c _ => ∃ m, sm_T t (a / 8) gc c m) R F ht ha hl (fun c m h => ⟨m, h⟩) (fun s hs z h2 => sm_CPc R F ht (by omega) hl hs z h2 (by rcases hw with ⟨rfl, -⟩ | ⟨rfl, -⟩ <;> decide))
/-- the reference's touch, against something that is like the class -/
theorem sm_TOm {w b4 : Int32} (hw : (w = 1 ∧ b4 = 0) ∨ (w = 2 ∧ b4 = 1)) {be : Nat → Nat} {al : Nat → Bool} {gc gm : am_S} {t a : Nat} (R : rl_R 8 be al gc gm) (F : rl_fx 128 al gc) (ht : t < 8) (ha : a < 128) (hl : gc 19 t 4 = 1) : ∃ c, sm_T t (a / 8) gc c (vX7_touch (nI t) (nI (a / 8)) 1 b4 gm) :=
  sm_TO_k hw (P := fun _ m => ∃ c, sm_T t (a / 8) gc c m) R F ht ha hl (fun c m h => ⟨c, h⟩) (fun s hs z h2 => sm_CPm R F ht (by omega) hl hs z h2 (by decide))
