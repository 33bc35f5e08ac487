/-! whether a sheet is valuable, on both sides -/
def rl_vl (g : am_S) (s : Nat) : Nat := pu_cn (fun k => decide (g 23 (k / 16) (k % 16) = nI s ∧ ¬ g 19 (k / 16) 5 = 0)) 128
theorem lc_valu {g : am_S} {s : Nat} (hs : s < 128) (hok : ∀ t p, t < 8 → p < 16 → rl_ok (g 23 t p)) : vX6_isValuable (nI s) g = some (.inl (some (.inl (pu_or (rl_vl g s)))), g) := by
  have hnn : ∀ x, rl_ok x → am_nn x = true := fun x hx => by
    rcases hx with rfl | ⟨r, hr, rfl⟩
    · exact pu_nnm
    · exact pu_nn (by omega)
  rw [eX6_isValuable]
  have inner : ∀ t, t < 8 → ¬ g 19 t 5 = 0 → (∃ x : Option am_v × Option am_v, (∀ p, p < 16 → ¬ g 23 t p = nI s) ∧ vX6_isValuable_18 (nI s) (nI t) (nI t) 0 g = vX6_isValuable_2 (nI s) (nI (t + 1)) x.1 x.2 g) ∨ ((∃ p, p < 16 ∧ g 23 t p = nI s) ∧ vX6_isValuable_18 (nI s) (nI t) (nI t) 0 g = some (.inl (some (.inl 1)), g)) := fun t ht hv => by
    have L := pu_loopE 16 (fun j (_ : Unit) => vX6_isValuable_18 (nI s) (nI t) (nI t) (nI j) g) (fun j _ => ∀ p, p < j → ¬ g 23 t p = nI s) (fun r => r = (.inl (some (.inl 1)), g) ∧ ∃ p, p < 16 ∧ g 23 t p = nI s) (fun j _ hj hp => by
      show (∃ x' : Unit, (∀ p, p < j + 1 → ¬ g 23 t p = nI s) ∧ vX6_isValuable_18 (nI s) (nI t) (nI t) (nI j) g = vX6_isValuable_18 (nI s) (nI t) (nI t) (nI (j + 1)) g) ∨ ∃ r, (r = (.inl (some (.inl 1)), g) ∧ ∃ p, p < 16 ∧ g 23 t p = nI s) ∧ vX6_isValuable_18 (nI s) (nI t) (nI t) (nI j) g = some r
      rw [eX6_isValuable_18, if_neg (pu_nge (x := 16) (k := 16) rfl hj (by omega)), pu_in ht (by omega), pu_g, nI_clamp (show t < 2 ^ 31 by omega), nI_clamp (show j < 2 ^ 31 by omega), if_neg hv, pu_g, pu_g, pu_in hj (by omega), pu_g, hnn _ (hok t j ht hj), pu_g, pu_nn (by omega), pu_g, nI_1, pu_b1, pu_g]
      by_cases c : g 23 t j = nI s
      · rw [if_pos c]; exact Or.inr ⟨_, ⟨rfl, j, hj, c⟩, rfl⟩
      · rw [if_neg c]
        refine Or.inl ⟨(), fun p hp2 => ?_, rfl⟩
        by_cases e : p = j
        · rw [e]; exact c
        · exact hp p (by omega)) 16 0 () rfl (fun p hp => by omega)
    rcases L with ⟨_, hP, e⟩ | ⟨r, ⟨hr, hx⟩, e⟩
    · refine Or.inl ⟨(some (.inr (.inr (19, nI t))), some (.inl (nI 16))), hP, ?_⟩
      refine Eq.trans (show vX6_isValuable_18 (nI s) (nI t) (nI t) 0 g = vX6_isValuable_18 (nI s) (nI t) (nI t) (nI 16) g from e) ?_
      rw [eX6_isValuable_18, if_pos (show (16 : Int32) ≤ nI 16 from by decide), nI_1]
    · refine Or.inr ⟨hx, ?_⟩
      rw [hr] at e
      exact e
  have L := pu_loopE 8 (fun j (x : Option am_v × Option am_v) => vX6_isValuable_2 (nI s) (nI j) x.1 x.2 g) (fun j _ => ∀ t, t < j → ∀ p, p < 16 → ¬ (g 23 t p = nI s ∧ ¬ g 19 t 5 = 0)) (fun r => r = (.inl (some (.inl 1)), g) ∧ ∃ t p, t < 8 ∧ p < 16 ∧ g 23 t p = nI s ∧ ¬ g 19 t 5 = 0) (fun j x hj hp => by
    show (∃ x' : Option am_v × Option am_v, (∀ t, t < j + 1 → ∀ p, p < 16 → ¬ (g 23 t p = nI s ∧ ¬ g 19 t 5 = 0)) ∧ vX6_isValuable_2 (nI s) (nI j) x.1 x.2 g = vX6_isValuable_2 (nI s) (nI (j + 1)) x'.1 x'.2 g) ∨ ∃ r, (r = (.inl (some (.inl 1)), g) ∧ ∃ t p, t < 8 ∧ p < 16 ∧ g 23 t p = nI s ∧ ¬ g 19 t 5 = 0) ∧ vX6_isValuable_2 (nI s) (nI j) x.1 x.2 g = some r
    rw [eX6_isValuable_2, if_neg (pu_nge (x := 8) (k := 8) rfl hj (by omega)), pu_in hj (by omega), pu_g]
    by_cases hv : g 19 j 5 = 0
    · refine Or.inl ⟨(some (.inr (.inr (19, nI j))), some (.inl 0)), fun t ht p hp2 => ?_, ?_⟩
      · by_cases e : t = j
        · subst e; exact fun z => z.2 hv
        · exact hp t (by omega) p hp2
      · rw [eX6_isValuable_18, if_neg (by decide), pu_in hj (by omega), pu_g, nI_clamp (by omega), if_pos hv, nI_1]
    · rcases inner j hj hv with ⟨x', h1, h2⟩ | ⟨⟨p, hp2, h1⟩, h2⟩
      · refine Or.inl ⟨x', fun t ht p hp2 => ?_, h2⟩
        by_cases e : t = j
        · subst e; exact fun z => h1 p hp2 z.1
        · exact hp t (by omega) p hp2
      · exact Or.inr ⟨_, ⟨rfl, j, p, hj, hp2, h1, hv⟩, h2⟩) 8 0 (none, none) rfl (fun t ht => by omega)
  rcases L with ⟨x, hP, e⟩ | ⟨r, ⟨hr, t, p, ht, hp, h1, h2⟩, e⟩
  · have hz : rl_vl g s = 0 := (pu_cn_0 128).mpr (fun k hk => decide_eq_false (hP (k / 16) (by omega) (k % 16) (by omega)))
    refine Eq.trans (show vX6_isValuable_2 (nI s) 0 none none g = vX6_isValuable_2 (nI s) (nI 8) x.1 x.2 g from e) ?_
    rw [eX6_isValuable_2, if_pos (show (8 : Int32) ≤ nI 8 from by decide), pu_b0, pu_g, hz]
    rfl
  · have hz : 0 < rl_vl g s := pu_cn_gt (k := 16 * t + p) (by omega) (decide_eq_true (by rw [(rl_div hp).1, (rl_div hp).2]; exact ⟨h1, h2⟩))
    rw [hr] at e
    refine Eq.trans (show vX6_isValuable_2 (nI s) 0 none none g = _ from e) ?_
    unfold pu_or
    rw [if_neg (by omega)]
theorem lm_valu {g : am_S} {x : Int32} : vX7_isValuable x g = some (.inl (some (.inl (pu_or (pu_cn (fun k => decide (g 31 0 k = x ∧ ¬ g 26 0 (k / 16) = 0)) 128)))), g) := by
  rw [eX7_isValuable]
  have hb : ∀ n, am_b (pu_or n) = true := fun n => by unfold pu_or; split <;> decide
  generalize hT : (fun k => decide (g 31 0 k = x ∧ ¬ g 26 0 (k / 16) = 0)) = T
  have hTe : ∀ k, T k = decide (g 31 0 k = x ∧ ¬ g 26 0 (k / 16) = 0) := fun k => by rw [← hT]
  obtain ⟨y, rfl, e⟩ := pu_loop 128 (fun j (y : Int32) => vX7_isValuable_4 x y (nI j) g) (fun j y => y = pu_or (pu_cn T j)) (fun j y hj hy => by
    refine ⟨_, rfl, ?_⟩
    subst hy
    have hd : nI j / 16 = nI (j / 16) := pu_d16 ⟨j, hj⟩
    rw [eX7_isValuable_4, if_neg (pu_nge (x := 128) (k := 128) rfl hj (by omega)), pu_in hj (by omega), pu_g, pu_nz16, pu_g, hd, pu_in (show j / 16 < 8 by omega) (by omega), pu_g, nI_clamp (show j < 2 ^ 31 by omega), nI_clamp (show j / 16 < 2 ^ 31 by omega), nI_1]
    have st : pu_cn T (j + 1) = pu_cn T j + (match T j with | true => 1 | false => 0) := rfl
    rw [st]
    by_cases hz : pu_cn T j = 0
    · have h0 : pu_or (pu_cn T j) = 0 := by unfold pu_or; rw [if_pos hz]
      rw [if_pos h0, hz, Nat.zero_add]
      by_cases c1 : g 31 0 j = x
      · rw [if_pos c1]
        by_cases c2 : g 26 0 (j / 16) = 0
        · rw [if_pos c2, hTe, decide_eq_false (fun z => z.2 c2)]; rfl
        · rw [if_neg c2, hTe, decide_eq_true ⟨c1, c2⟩]; rfl
      · rw [if_neg c1, hTe, decide_eq_false (fun z => c1 z.1)]; rfl
    · have h1 : pu_or (pu_cn T j) = 1 := by unfold pu_or; rw [if_neg hz]
      have h2 : pu_or (pu_cn T j + (match T j with | true => 1 | false => 0)) = 1 := by unfold pu_or; rw [if_neg (by omega)]
      rw [h1, h2, if_neg (by decide)]) 128 0 0 rfl rfl
  refine Eq.trans (show vX7_isValuable_4 x 0 0 g = vX7_isValuable_4 x (pu_or (pu_cn T 128)) (nI 128) g from e) ?_
  rw [eX7_isValuable_4, if_pos (show (128 : Int32) ≤ nI 128 from by decide), hb, pu_g]
theorem sm_valu {be : Nat → Nat} {al : Nat → Bool} {gc gm X Y : am_S} {s : Nat} (htk : rl_tk 8 gc gm) (hpg : rl_pg be al gc gm) (hal : rl_al be al gm) (hs : s < 128) (ha : al s = true) (x1 : X 19 = gc 19) (x2 : X 23 = gc 23) (y1 : Y 31 = gm 31) (y2 : Y 26 = gm 26) :
    vX6_isValuable (nI s) X = some (.inl (some (.inl (pu_or (rl_vl gc s)))), X) ∧ vX7_isValuable (nI (be s)) Y = some (.inl (some (.inl (pu_or (rl_vl gc s)))), Y) := by
  refine ⟨?_, ?_⟩
  · rw [lc_valu hs (fun t p ht hp => by rw [x2]; exact (hpg t p ht hp).1)]
    unfold rl_vl
    rw [x1, x2]
  · rw [lm_valu, y1, y2]
    have : pu_cn (fun k => decide (gm 31 0 k = nI (be s) ∧ ¬ gm 26 0 (k / 16) = 0)) 128 = rl_vl gc s := by
      refine pu_cn_congr 128 (fun k hk => ?_)
      have hi := rl_pg_iff hpg hal hs ha hk
      by_cases c : gc 23 (k / 16) (k % 16) = nI s
      · obtain ⟨t1, t2, t3, t4, t5, -⟩ := htk (k / 16) (by omega) (by omega)
        have hl : gc 19 (k / 16) 4 = 1 := by
          rcases t2 with z | z
          · have := (t5 z).2 (k % 16) (by omega)
            rw [c] at this
            exact absurd this (pu_m1 (by omega))
          · exact z
        have hv := (t4 hl).1
        by_cases d : gc 19 (k / 16) 5 = 0
        · rw [decide_eq_false (fun z => z.2 (by rw [hv]; exact d)), decide_eq_false (fun z => z.2 d)]
        · rw [decide_eq_true ⟨hi.mpr c, by rw [hv]; exact d⟩, decide_eq_true ⟨c, d⟩]
      · rw [decide_eq_false (fun z => c (hi.mp z.1)), decide_eq_false (fun z => c z.1)]
    rw [this]
