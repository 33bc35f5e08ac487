/-! numbers, and two loops that may end early together -/
theorem pu_m10 : ∀ h : Fin 10, (nI h.1 + 1) - (nI h.1 + 1) / 10 * 10 = nI ((h.1 + 1) % 10) := by decide +kernel
theorem pu_m10b : ∀ h : Fin 10, (nI h.1 + 2) - (nI h.1 + 2) / 10 * 10 = nI ((h.1 + 2) % 10) := by decide +kernel
theorem pu_d16 : ∀ k : Fin 128, nI k.1 / 16 = nI (k.1 / 16) := by decide +kernel
theorem pu_d8 : ∀ k : Fin 128, nI k.1 / 8 = nI (k.1 / 8) := by decide +kernel
theorem pu_r8 : ∀ k : Fin 128, nI k.1 - nI k.1 / 8 * 8 = nI (k.1 % 8) := by decide +kernel
theorem pu_sub {a b : Nat} (h : b ≤ a) : nI a - nI b = nI (a - b) := by
  have e : nI a = nI (a - b) + nI b := by rw [nI_add]; congr 1; omega
  rw [e, Int32.add_sub_cancel]
theorem pu_ac (x y : Int32) : x - y + 1 = x + 1 - y := by
  rw [Int32.sub_eq_add_neg, Int32.sub_eq_add_neg, Int32.add_assoc, Int32.add_comm (-y) 1, ← Int32.add_assoc]
theorem pu_loop2E {X Y : Type} (N : Nat) (V : Nat → X → am_R) (U : Nat → Y → am_R) (P : Nat → X → Y → Prop) (Q : am_R → am_R → Prop) (hs : ∀ j x y, j < N → P j x y → (∃ x' y', P (j + 1) x' y' ∧ V j x = V (j + 1) x' ∧ U j y = U (j + 1) y') ∨ Q (V j x) (U j y)) : ∀ (d i : Nat) (x : X) (y : Y), i + d = N → P i x y → (∃ x' y', P N x' y' ∧ V i x = V N x' ∧ U i y = U N y') ∨ Q (V i x) (U i y) := by
  intro d
  induction d with
  | zero =>
    intro i x y h hp
    have e : i = N := by omega
    subst e
    exact Or.inl ⟨x, y, hp, rfl, rfl⟩
  | succ d ih =>
    intro i x y h hp
    rcases hs i x y (by omega) hp with ⟨x1, y1, h1, e1, f1⟩ | hq
    · rcases ih (i + 1) x1 y1 (by omega) h1 with ⟨x2, y2, h2, e2, f2⟩ | hq
      · exact Or.inl ⟨x2, y2, h2, e1.trans e2, f1.trans f2⟩
      · refine Or.inr ?_
        rw [e1, f1]; exact hq
    · exact Or.inr hq
/-! how many bytes a sheet packs into: the same on both sides -/
theorem sm_packs {gc gm : am_S} {s q : Nat} (hs : s < 128) (hq : q < 130) (hw : ∀ k, k < 8 → gm 36 0 (8 * q + k) = gc 6 s k) : ∃ n, 2 ≤ n ∧ n ≤ 40 ∧ vX3_packedBytes (nI s) gc = some (.inl (some (.inl (nI n))), gc) ∧ vX7_packs (nI q) gm = some (.inl (some (.inl (nI n))), gm) := by
  rw [eX3_packedBytes, eX7_packs]
  obtain ⟨x, y, hP, e1, e2⟩ := pu_loop2 8 (fun j (x : Nat × Option am_v) => vX3_packedBytes_4 (nI s) (nI x.1) (nI j) x.2 gc) (fun j (y : Nat × Option am_v) => vX7_packs_4 (nI q) (nI y.1) (nI j) y.2 gm) (fun j x y => x.1 = y.1 ∧ x.1 ≤ 5 * j ∧ (0 < j → 2 ≤ x.1)) (fun j x y hj hp => by
    obtain ⟨x1, x2⟩ := x
    obtain ⟨y1, y2⟩ := y
    obtain ⟨p1, p2, p3⟩ := hp
    dsimp only at p1 p2 p3
    subst p1
    show ∃ x' y' : Nat × Option am_v, (x'.1 = y'.1 ∧ x'.1 ≤ 5 * (j + 1) ∧ (0 < j + 1 → 2 ≤ x'.1)) ∧ vX3_packedBytes_4 (nI s) (nI x1) (nI j) x2 gc = vX3_packedBytes_4 (nI s) (nI x'.1) (nI (j + 1)) x'.2 gc ∧ vX7_packs_4 (nI q) (nI x1) (nI j) y2 gm = vX7_packs_4 (nI q) (nI y'.1) (nI (j + 1)) y'.2 gm
    have add : ∀ (w : Int32), ∃ x' y' : Nat × Option am_v, (x'.1 = y'.1 ∧ x'.1 ≤ 5 * (j + 1) ∧ (0 < j + 1 → 2 ≤ x'.1)) ∧ vX3_packedBytes_36 (nI s) (nI x1) (nI j) w gc = vX3_packedBytes_4 (nI s) (nI x'.1) (nI (j + 1)) x'.2 gc ∧ vX7_packs_48 (nI q) (nI x1) (nI j) w gm = vX7_packs_4 (nI q) (nI y'.1) (nI (j + 1)) y'.2 gm := fun w => by
      have a2 : nI x1 + 2 = nI (x1 + 2) := nI_add x1 2
      have a3 : nI x1 + 3 = nI (x1 + 3) := nI_add x1 3
      have a5 : nI x1 + 5 = nI (x1 + 5) := nI_add x1 5
      have big : ∃ x' y' : Nat × Option am_v, (x'.1 = y'.1 ∧ x'.1 ≤ 5 * (j + 1) ∧ (0 < j + 1 → 2 ≤ x'.1)) ∧ vX3_packedBytes_54 (nI s) (nI x1) (nI j) w gc = vX3_packedBytes_4 (nI s) (nI x'.1) (nI (j + 1)) x'.2 gc ∧ vX7_packs_67 (nI q) (nI x1) (nI j) w (nI x1) gm = vX7_packs_4 (nI q) (nI y'.1) (nI (j + 1)) y'.2 gm := by
        rw [eX3_packedBytes_54, eX7_packs_67]
        by_cases c1 : w < -32768
        · rw [if_pos c1, if_pos c1, pu_lv, a5, nI_1]
          exact ⟨(x1 + 5, _), (x1 + 5, _), ⟨rfl, by dsimp only; omega, fun _ => by dsimp only; omega⟩, rfl, rfl⟩
        · rw [if_neg c1, if_neg c1]
          by_cases c2 : 32767 < w
          · rw [if_pos c2, if_pos c2, pu_lv, a5, nI_1]
            exact ⟨(x1 + 5, _), (x1 + 5, _), ⟨rfl, by dsimp only; omega, fun _ => by dsimp only; omega⟩, rfl, rfl⟩
          · rw [if_neg c2, if_neg c2, pu_lv, a3, nI_1]
            exact ⟨(x1 + 3, _), (x1 + 3, _), ⟨rfl, by dsimp only; omega, fun _ => by dsimp only; omega⟩, rfl, rfl⟩
      rw [eX3_packedBytes_36, eX7_packs_48]
      by_cases c1 : w < -128
      · rw [if_pos c1, if_pos c1]; exact big
      · rw [if_neg c1, if_neg c1]
        by_cases c2 : 127 < w
        · rw [if_pos c2, if_pos c2]; exact big
        · rw [if_neg c2, if_neg c2, pu_lv, a2, nI_1]
          exact ⟨(x1 + 2, _), (x1 + 2, _), ⟨rfl, by dsimp only; omega, fun _ => by dsimp only; omega⟩, rfl, rfl⟩
    rw [eX3_packedBytes_4, eX7_packs_4, if_neg (pu_nge (x := 8) (k := 8) rfl hj (by omega)), if_neg (pu_nge (x := 8) (k := 8) rfl hj (by omega)), pu_in hs (by omega), pu_g, pu_g, pu_in hj (by omega), pu_g, pu_lv, pu_8, pu_in (show 8 * q + j < 1040 by omega) (by omega), pu_g, pu_lv, nI_clamp (by omega), nI_clamp (show j < 2 ^ 31 by omega), nI_clamp (show 8 * q + j < 2 ^ 31 by omega), hw j hj]
    by_cases h0 : j = 0
    · subst h0
      rw [if_pos (show nI 0 ≤ 0 from by decide), if_pos (show nI 0 ≤ 0 from by decide)]
      exact add _
    · obtain ⟨i, rfl⟩ : ∃ i, j = i + 1 := ⟨j - 1, by omega⟩
      have d1 : nI (i + 1) - 1 = nI i := nI_pred i
      have d2 : nI (8 * q + (i + 1)) - 1 = nI (8 * q + i) := nI_pred (8 * q + i)
      rw [if_neg (pu_nle (x := 0) (k := 0) rfl (by omega) (by omega)), if_neg (pu_nle (x := 0) (k := 0) rfl (by omega) (by omega)), pu_g, pu_g, d1, d2, pu_in (show i < 8 by omega) (by omega), pu_g, pu_in (show 8 * q + i < 1040 by omega) (by omega), pu_g, nI_clamp (show i < 2 ^ 31 by omega), nI_clamp (show 8 * q + i < 2 ^ 31 by omega), hw i (by omega)]
      by_cases hc : gc 6 s (i + 1) = gc 6 s i
      · rw [if_pos hc, if_pos hc.symm, nI_1]
        exact ⟨(x1, _), (x1, _), ⟨rfl, by dsimp only; omega, fun _ => p3 (by omega)⟩, rfl, rfl⟩
      · rw [if_neg hc, if_neg (fun z => hc z.symm)]
        exact add _) 8 0 (0, none) (0, none) rfl ⟨rfl, Nat.zero_le _, fun z => absurd z (by omega)⟩
  obtain ⟨p1, p2, p3⟩ := hP
  refine ⟨x.1, p3 (by omega), p2, ?_, ?_⟩
  · refine Eq.trans (show vX3_packedBytes_4 (nI s) 0 0 none gc = vX3_packedBytes_4 (nI s) (nI x.1) (nI 8) x.2 gc from e1) ?_
    rw [eX3_packedBytes_4, if_pos (show (8 : Int32) ≤ nI 8 from by decide)]
  · refine Eq.trans (show vX7_packs_4 (nI q) 0 0 none gm = vX7_packs_4 (nI q) (nI y.1) (nI 8) y.2 gm from e2) ?_
    rw [eX7_packs_4, if_pos (show (8 : Int32) ≤ nI 8 from by decide), p1]
/-- a byte is taken, in the reference -/
def lm_T (g : am_S) (b q : Nat) : Bool := decide (¬ g 37 0 q = 0 ∧ g 33 0 q = 2 ∧ ¬ nI b < g 34 0 q ∧ ¬ g 34 0 q + g 35 0 q ≤ nI b)
def pu_or (n : Nat) : Int32 := if n = 0 then 0 else 1
theorem lm_isTaken {g : am_S} {b : Nat} : vX7_isTaken (nI b) g = some (.inl (some (.inl (pu_or (pu_cn (lm_T g b) 130)))), g) := by
  rw [eX7_isTaken]
  have hb : ∀ n, am_b (pu_or n) = true := fun n => by unfold pu_or; split <;> decide
  obtain ⟨x, rfl, e⟩ := pu_loop 130 (fun j (x : Int32) => vX7_isTaken_4 (nI b) x (nI j) g) (fun j x => x = pu_or (pu_cn (lm_T g b) j)) (fun j x hj hx => by
    refine ⟨_, rfl, ?_⟩
    subst hx
    rw [eX7_isTaken_4, if_neg (pu_nge (x := 130) (k := 130) rfl hj (by omega)), pu_in hj (by omega), pu_g, pu_g, pu_g, pu_g, pu_g, nI_clamp (by omega), nI_1]
    have st : pu_cn (lm_T g b) (j + 1) = pu_cn (lm_T g b) j + (match lm_T g b j with | true => 1 | false => 0) := rfl
    rw [st]
    by_cases hz : pu_cn (lm_T g b) j = 0
    · have h0 : pu_or (pu_cn (lm_T g b) j) = 0 := by unfold pu_or; rw [if_pos hz]
      rw [if_pos h0, hz, Nat.zero_add]
      by_cases c1 : g 37 0 j = 0
      · rw [if_pos c1, show lm_T g b j = false from decide_eq_false (fun z => z.1 c1)]; rfl
      · rw [if_neg c1]
        by_cases c2 : g 33 0 j = 2
        · rw [if_pos c2]
          by_cases c3 : nI b < g 34 0 j
          · rw [if_pos c3, show lm_T g b j = false from decide_eq_false (fun z => z.2.2.1 c3)]; rfl
          · rw [if_neg c3]
            by_cases c4 : g 34 0 j + g 35 0 j ≤ nI b
            · rw [if_pos c4, show lm_T g b j = false from decide_eq_false (fun z => z.2.2.2 c4)]; rfl
            · rw [if_neg c4, show lm_T g b j = true from decide_eq_true ⟨c1, c2, c3, c4⟩]; rfl
        · rw [if_neg c2, show lm_T g b j = false from decide_eq_false (fun z => c2 z.2.1)]; rfl
    · have h1 : pu_or (pu_cn (lm_T g b) j) = 1 := by unfold pu_or; rw [if_neg hz]
      have h2 : pu_or (pu_cn (lm_T g b) j + (match lm_T g b j with | true => 1 | false => 0)) = 1 := by unfold pu_or; rw [if_neg (by omega)]
      rw [h1, h2, if_neg (by decide)]) 130 0 0 rfl rfl
  refine Eq.trans (show vX7_isTaken_4 (nI b) 0 0 g = vX7_isTaken_4 (nI b) (pu_or (pu_cn (lm_T g b) 130)) (nI 130) g from e) ?_
  rw [eX7_isTaken_4, if_pos (show (130 : Int32) ≤ nI 130 from by decide), hb, pu_g]
theorem sm_isTaken {be : Nat → Nat} {al : Nat → Bool} {gc gm : am_S} {b : Nat} (hal : rl_al be al gm) (hsh : rl_sh be al gc gm) (har : rl_ar al gc) (hb : b < 64) : vX7_isTaken (nI b) gm = some (.inl (some (.inl (gc 12 0 b))), gm) := by
  rw [lm_isTaken]
  have key : pu_or (pu_cn (lm_T gm b) 130) = gc 12 0 b := by
    rcases har.1 b hb with z | ⟨z, s, hs, i1, i2, a, n, i3, i4, i5, i6, i7⟩
    · have : pu_cn (lm_T gm b) 130 = 0 := (pu_cn_0 130).mpr (fun q hq => decide_eq_false (fun w => by
        obtain ⟨w1, w2, w3, w4⟩ := w
        rcases hal.2.2 q hq with u | ⟨s, hs, u1, u2⟩
        · exact w1 u
        · subst u2
          obtain ⟨k1, -, k2⟩ := hsh s hs u1
          rw [k1] at w2
          rcases k2 with ⟨v, -⟩ | ⟨v, -⟩ | ⟨-, -, a, n, v1, v2, v3, v4, v5, v6, v7⟩ | ⟨v, -⟩
          · rw [v] at w2; exact absurd w2 (by decide)
          · rw [v] at w2; exact absurd w2 (by decide)
          · rw [v5] at w3 w4
            rw [v6, nI_add] at w4
            have hab : a ≤ b := by
              rcases Nat.lt_or_ge b a with o | o
              · exact absurd (nI_lt o (by omega)) w3
              · exact o
            have hbn : b < a + n := by
              rcases Nat.lt_or_ge b (a + n) with o | o
              · exact o
              · exact absurd (nI_le o (by omega)) w4
            rw [v7 b hab hbn] at z
            exact absurd z (by decide)
          · rw [v] at w2; exact absurd w2 (by decide)))
      rw [this, z]; rfl
    · have hbs := (hal.1 s hs i1)
      have hT : lm_T gm b (be s) = true := decide_eq_true (by
        obtain ⟨k1, -, k2⟩ := hsh s hs i1
        rw [k1]
        rcases k2 with ⟨v, -⟩ | ⟨v, -⟩ | ⟨-, -, a', n', v1, v2, v3, v4, v5, v6, v7⟩ | ⟨v, -⟩
        · rw [v] at i2; exact absurd i2 (by decide)
        · rw [v] at i2; exact absurd i2 (by decide)
        · rw [i4] at v1
          rw [i5] at v2
          have e1 := pu_inj (by omega) (by omega) v1
          have e2 := pu_inj (by omega) (by omega) v2
          subst e1 e2
          rw [v5, v6, nI_add, hbs.2]
          exact ⟨by decide, i2, nI_nlt i6 (by omega), nI_ge i7 (by omega)⟩
        · rw [v] at i2; exact absurd i2 (by decide))
      have := pu_cn_gt (n := 130) hbs.1 hT
      unfold pu_or
      rw [if_neg (by omega), z]
  rw [key]
