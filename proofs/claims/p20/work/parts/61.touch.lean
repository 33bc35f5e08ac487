/-! a touch, but for the copy -/
def sm_TO (w b3 b4 : Int32) : Prop := ∀ (be : Nat → Nat) (al : Nat → Bool) (gc gm : am_S) (t a : Nat), rl_R 8 be al gc gm → rl_fx 128 al gc → t < 8 → a < 128 → gc 19 t 4 = 1 → sm_T t (a / 8) gc (vX6_touch (nI t) (nI a) w gc) (vX7_touch (nI t) (nI (a / 8)) b3 b4 gm)
/-- a sheet that is to be copied -/
def sm_CP : Prop := ∀ (be : Nat → Nat) (al : Nat → Bool) (gc gm : am_S) (t p s : Nat) (A2 A3 B2 B3 B4 : Int32), rl_R 8 be al gc gm → rl_fx 128 al gc → t < 8 → p < 16 → gc 19 t 4 = 1 → s < 128 → gc 23 t p = nI s → ¬ gc 22 t p = 1 → 2 ≤ rl_pc gc s → ¬ A3 = 0 → ¬ B3 = 0 →
  sm_T t p gc (vX6_touch_50 (nI t) A2 A3 (nI s) (nI p) 1 gc) (if gm 33 0 (be s) = 0 then vX7_touch_90 (nI t) B2 B3 B4 (nI (16 * t + p)) (nI (be s)) 0 gm else am_bI (vX7_bring (nI t) (nI (be s)) gm) (fun r4 g3 => vX7_touch_90 (nI t) B2 B3 B4 (nI (16 * t + p)) (nI (be s)) r4 g3))
theorem sm_ref {be : Nat → Nat} {al : Nat → Bool} {gc gm : am_S} {t p : Nat} (R : rl_R 8 be al gc gm) (F : rl_fx 128 al gc) (hl : gc 19 t 4 = 1) : sm_T t p gc (some (.inl (some (.inr (.inr (5, (-1))))), gc)) (some (.inl (some (.inl 1)), gm)) := ⟨be, al, gc, gm, R, F, Or.inl ⟨rfl, rfl, hl⟩⟩
theorem lc_sf {gc : am_S} {t a : Nat} {w : Int32} (ht : t < 8) (ha : a < 128) : vX5_sheetFor (nI t) (nI a) w gc = if w = 1 ∧ gc 22 t (a / 8) = 2 then some (.inl (some (.inr (.inr (5, (-1))))), gc) else some (.inl (some (.inr (.inr (5, gc 23 t (a / 8))))), gc) := by
  have hp : a / 8 < 16 := by omega
  have d8 : nI a / 8 = nI (a / 8) := pu_d8 ⟨a, ha⟩
  rw [eX5_sheetFor, if_neg (pu_lt0 (by omega)), if_pos (pu_lt (x := 128) (k := 128) rfl ha (by omega)), pu_nz8, pu_g, pu_lv, d8, pu_in ht (by omega), pu_g, pu_g, pu_in hp (by omega)]
  simp only [pu_g, nI_clamp (show t < 2 ^ 31 by omega), nI_clamp (show a / 8 < 2 ^ 31 by omega)]
  by_cases h1 : w = 1
  · rw [if_pos h1]
    by_cases h2 : gc 22 t (a / 8) = 2
    · rw [if_pos h2, if_pos ⟨h1, h2⟩]
    · rw [if_neg h2, if_neg (fun z => h2 z.2)]
  · rw [if_neg h1, if_neg (fun z => h1 z.1)]
theorem sm_TO_r : sm_TO 0 0 0 := by
  intro be al gc gm t a R F ht ha hl
  have hp : a / 8 < 16 := by omega
  have d8 : nI a / 8 = nI (a / 8) := pu_d8 ⟨a, ha⟩
  obtain ⟨p1, p2, p3⟩ := R.2.2.1 t (a / 8) ht hp
  rw [eX6_touch, eX7_touch, pu_in ht (by omega), pu_g, lc_sf ht ha, if_neg (fun z => absurd z.1 (by decide)), pu_bA5, pu_lv, pu_16, pu_lv, pu_in (show 16 * t + a / 8 < 128 by omega) (by omega), pu_g, pu_lv, nI_clamp (show 16 * t + a / 8 < 2 ^ 31 by omega), p2]
  rcases p1 with z | ⟨s, hs, z⟩
  · rw [z, rl_bi_m, if_pos pu_neg, if_pos pu_neg]
    exact sm_ref R F hl
  · have hbs := (R.2.2.2.2.1.1 s hs (p3 s hs z).1).1
    rw [z, rl_bi_s hs, if_neg (pu_lt0 (by omega)), if_neg (pu_lt0 (by omega)), pu_nz8, pu_g, if_pos rfl, if_pos rfl, eX6_touch_49, eX7_touch_44, if_pos rfl]
    exact sm_touch0 R F ht hp hl hs z (Or.inl ⟨rfl, rfl⟩)
theorem sm_TO_w (H : sm_CP) {w b4 : Int32} (hw : (w = 1 ∧ b4 = 0) ∨ (w = 2 ∧ b4 = 1)) : sm_TO w 1 b4 := by
  intro be al gc gm t a R F ht ha hl
  have hp : a / 8 < 16 := by omega
  have d8 : nI a / 8 = nI (a / 8) := pu_d8 ⟨a, ha⟩
  have hw0 : ¬ w = 0 := by rcases hw with ⟨rfl, -⟩ | ⟨rfl, -⟩ <;> decide
  obtain ⟨p1, p2, p3⟩ := R.2.2.1 t (a / 8) ht hp
  rw [eX6_touch, eX7_touch, pu_in ht (by omega), pu_g, lc_sf ht ha, pu_lv, pu_16, pu_in (show 16 * t + a / 8 < 128 by omega) (by omega), pu_g, pu_lv, nI_clamp (show 16 * t + a / 8 < 2 ^ 31 by omega), p2]
  rcases p1 with z | ⟨s, hs, z⟩
  · rw [z, rl_bi_m, if_pos pu_neg]
    split
    · rw [pu_bA5, if_pos pu_neg]; exact sm_ref R F hl
    · rw [pu_bA5, if_pos pu_neg]; exact sm_ref R F hl
  · obtain ⟨has, k1, k2⟩ := p3 s hs z
    have hbs := (R.2.2.2.2.1.1 s hs has).1
    have hpc := rl_pc_le gc s
    rw [z, rl_bi_s hs, if_neg (pu_lt0 (show be s < 2147483648 by omega)), if_neg (show ¬ (1 : Int32) = 0 by decide), pu_g, k1]
    by_cases ref : w = 1 ∧ gc 22 t (a / 8) = 2
    · have hb : b4 = 0 := by
        rcases hw with ⟨-, y⟩ | ⟨y, -⟩
        · exact y
        · rw [ref.1] at y; exact absurd y (by decide)
      rw [if_pos ref, pu_bA5, if_pos pu_neg, if_pos hb, if_pos ref.2]
      exact sm_ref R F hl
    · have go : (if b4 = 0 then if gc 22 t (a / 8) = 2 then some (.inl (some (.inl 1)), gm) else vX7_touch_44 (nI t) (nI (a / 8)) 1 b4 (nI (16 * t + a / 8)) (nI (be s)) gm else vX7_touch_44 (nI t) (nI (a / 8)) 1 b4 (nI (16 * t + a / 8)) (nI (be s)) gm) = vX7_touch_44 (nI t) (nI (a / 8)) 1 b4 (nI (16 * t + a / 8)) (nI (be s)) gm := by
        rcases hw with ⟨y1, y2⟩ | ⟨y1, y2⟩
        · rw [if_pos y2, if_neg (fun q => ref ⟨y1, q⟩)]
        · rw [if_neg (by rw [y2]; decide)]
      rw [if_neg ref, pu_bA5, if_neg (pu_lt0 (show s < 2147483648 by omega)), pu_nz8, pu_g, pu_lv, if_neg hw0, d8]
      refine Eq.subst (motive := fun y => sm_T t (a / 8) gc _ y) go.symm ?_
      rw [eX7_touch_44, if_neg (show ¬ (1 : Int32) = 0 by decide), pu_in (show 16 * t + a / 8 < 128 by omega) (by omega), pu_in hp (by omega), pu_in hs (by omega), lm_mappings, pu_bI, pu_in hbs (by omega)]
      simp only [pu_g, nI_clamp (show 16 * t + a / 8 < 2 ^ 31 by omega), nI_clamp (show t < 2 ^ 31 by omega), nI_clamp (show a / 8 < 2 ^ 31 by omega), nI_clamp (show s < 2 ^ 31 by omega), nI_clamp (show be s < 2 ^ 31 by omega)]
      rw [k1, R.2.2.2.1 s hs, rl_mp_eq R.2.2.1 R.2.2.2.2.1 hs has]
      by_cases sh : gc 22 t (a / 8) = 1
      · rw [if_pos sh, if_pos sh, eX6_touch_49]
        exact sm_touch0 R F ht hp hl hs z (Or.inr ⟨hw0, by decide⟩)
      · rw [if_neg sh, if_neg sh]
        by_cases c : rl_pc gc s ≤ 1
        · rw [if_pos (pu_le (x := 1) (k := 1) rfl c (by omega)), eX6_touch_49]
          rw [if_pos (pu_le (x := 1) (k := 1) rfl c (by omega))]
          exact sm_touch0 R F ht hp hl hs z (Or.inr ⟨hw0, by decide⟩)
        · rw [if_neg (pu_nle (x := 1) (k := 1) rfl (by omega) (by omega))]
          rw [if_neg (pu_nle (x := 1) (k := 1) rfl (by omega) (by omega))]
          exact H be al gc gm t (a / 8) s (nI a) w (nI (a / 8)) 1 b4 R F ht hp hl hs z sh (by omega) hw0 (by decide)
