/-! may the sheets be mapped again: the class's side -/
theorem rl_seen_R {ex : Nat} {be : Nat → Nat} {al : Nat → Bool} {gc gm gc' : am_S} (h : rl_R ex be al gc gm) (C : ∀ f, f ≠ 5 → f ≠ 13 → f ≠ 18 → gc' f = gc f) (C5 : ∀ r j, j ≠ 7 → gc' 5 r j = gc 5 r j) : rl_R ex be al gc' gm := by
  obtain ⟨htk, hrg, hpg, hmp, hal, hdd, hsp, hsh, hfr, hhd, har, hpk, hs1, hs2⟩ := h
  have c : ∀ f, f ≠ 5 ∧ f ≠ 13 ∧ f ≠ 18 → gc' f = gc f := fun f hf => C f hf.1 hf.2.1 hf.2.2
  refine ⟨?_, ?_, ?_, ?_, hal, ?_, ?_, ?_, ?_, ?_, ?_, ?_, ?_, ?_⟩
  · unfold rl_tk; rw [c 19 (by decide), c 23 (by decide)]; exact htk
  · unfold rl_rg; rw [c 19 (by decide), c 20 (by decide), c 21 (by decide)]; exact hrg
  · unfold rl_pg; rw [c 22 (by decide), c 23 (by decide)]; exact hpg
  · intro s hs; rw [rl_pc_congr (c 23 (by decide)), C5 s 1 (by decide)]; exact hmp s hs
  · intro r hr a; rw [C5 r 2 (by decide), C5 r 3 (by decide), C5 r 4 (by decide), C5 r 5 (by decide), C5 r 6 (by decide), c 6 (by decide)]; exact hdd r hr a
  · unfold rl_sp; rw [c 2 (by decide), c 4 (by decide)]; exact hsp
  · intro r hr a; rw [C5 r 2 (by decide), C5 r 3 (by decide), C5 r 4 (by decide), C5 r 5 (by decide), c 6 (by decide), c 8 (by decide), c 10 (by decide), c 12 (by decide)]; exact hsh r hr a
  · intro f hf
    rw [c 8 (by decide), c 9 (by decide), c 10 (by decide)]
    obtain ⟨a1, a2, a3, a4, a5, a6, a7, a8⟩ := hfr f hf
    refine ⟨a1, a2, a3, a4, a5, a6, a7, fun r hr z => ?_⟩
    rw [C5 r 2 (by decide), C5 r 3 (by decide)]; exact a8 r hr z
  · unfold rl_hd; rw [c 7 (by decide)]; exact hhd
  · have hin : ∀ r b, rl_in al gc' r b ↔ rl_in al gc r b := fun r b => by
      unfold rl_in
      rw [C5 r 2 (by decide), C5 r 3 (by decide), C5 r 4 (by decide)]
    refine ⟨fun b hb => ?_, fun r r' b hr hr' z z' => har.2 r r' b hr hr' ((hin r b).mp z) ((hin r' b).mp z')⟩
    rw [c 12 (by decide)]
    rcases har.1 b hb with z | ⟨z, r, hr, z2⟩
    · exact Or.inl z
    · exact Or.inr ⟨z, r, hr, (hin r b).mpr z2⟩
  · unfold rl_pk; rw [c 11 (by decide)]; exact hpk
  · intro k hk
    rw [c 15 (by decide), c 16 (by decide), c 17 (by decide)]
    obtain ⟨a1, a2, a3, a4, a5⟩ := hs1 k hk
    refine ⟨a1, a2, a3, a4, ?_⟩
    rcases a5 with z | z | ⟨z1, z2, r, hr, z3, z4, z5⟩
    · exact Or.inl z
    · exact Or.inr (Or.inl z)
    · exact Or.inr (Or.inr ⟨z1, z2, r, hr, z3, z4, by rw [C5 r 5 (by decide), C5 r 6 (by decide)]; exact z5⟩)
  · intro r hr a; rw [C5 r 5 (by decide), C5 r 6 (by decide)]; exact hs2 r hr a
/-- how many of t's pages from p on, below j, have the sheet s -/
def rl_ct (g : am_S) (t p s j : Nat) : Nat := pu_cn (fun i => decide (p ≤ i ∧ g 23 t i = nI s)) j
theorem rl_ct_mono (g : am_S) (t p s : Nat) {i j : Nat} (h : i ≤ j) : rl_ct g t p s i ≤ rl_ct g t p s j := by
  obtain ⟨d, rfl⟩ := Nat.le.dest h
  induction d with
  | zero => exact Nat.le_refl _
  | succ d ih => exact Nat.le_trans (ih (by omega)) (pu_cn_mono _ _)
def rl_may (g : am_S) (t p n : Nat) : Prop := ∀ i, p ≤ i → i < p + n → ∀ s, s < 128 → g 23 t i = nI s → rl_pc g s + rl_ct g t p s (p + n) ≤ 20
theorem lc_may {gc : am_S} {t p n : Nat} (hmp : rl_mp gc) (hok : ∀ i, i < 16 → rl_ok (gc 23 t i)) (ht : t < 8) (hpn : p + n ≤ 16) :
    ∃ gc', (∀ f, f ≠ 5 → gc' f = gc f) ∧ (∀ r j, j ≠ 7 → gc' 5 r j = gc 5 r j) ∧ ((rl_may gc t p n ∧ vX5_mayMapAgain (nI t) (nI p) (nI n) gc = some (.inl (some (.inl 1)), gc')) ∨ (¬ rl_may gc t p n ∧ vX5_mayMapAgain (nI t) (nI p) (nI n) gc = some (.inl (some (.inl 0)), gc'))) := by
  rw [eX5_mayMapAgain]
  obtain ⟨g1, ⟨-, a1, a2, a3⟩, e1⟩ := pu_loop (p + n) (fun j (g : am_S) => vX5_mayMapAgain_2 (nI t) (nI p) (nI n) (nI j) g) (fun j g => p ≤ j ∧ (∀ f, f ≠ 5 → g f = gc f) ∧ (∀ r j, j ≠ 7 → g 5 r j = gc 5 r j) ∧ ∀ i, p ≤ i → i < j → ∀ s, s < 128 → gc 23 t i = nI s → g 5 s 7 = 0) (fun j g hj hp => by
    obtain ⟨h0, h1, h2, h3⟩ := hp
    rw [eX5_mayMapAgain_2, nI_add, if_neg (nI_ge hj (by omega)), if_neg (pu_nge (x := 16) (k := 16) rfl (show j < 16 by omega) (by omega)), pu_in ht (by omega), pu_g, pu_g, pu_in (show j < 16 by omega) (by omega), pu_g, nI_clamp (show t < 2 ^ 31 by omega), nI_clamp (show j < 2 ^ 31 by omega), h1 23 (by decide), nI_1, pu_lt']
    rcases hok j (by omega) with z | ⟨s, hs, z⟩
    · rw [z, if_pos pu_neg]
      refine ⟨g, ⟨by omega, h1, h2, fun i i1 i2 r hr w => ?_⟩, rfl⟩
      by_cases e : i = j
      · rw [e, z] at w; exact absurd w.symm (pu_m1 (by omega))
      · exact h3 i i1 (by omega) r hr w
    · rw [z, if_neg (pu_lt0 (by omega)), pu_g, pu_in hs (by omega), pu_g, nI_clamp (by omega)]
      refine ⟨_, ⟨by omega, fun f hf => by rw [pu_uf hf]; exact h1 f hf, fun r j hj => by rw [pu_uj hj]; exact h2 r j hj, fun i i1 i2 r hr w => ?_⟩, rfl⟩
      rw [pu_ub]
      by_cases c : r = s
      · rw [if_pos ⟨c, rfl⟩]
      · rw [if_neg (fun q => c q.1)]
        by_cases e : i = j
        · rw [e, z] at w; exact absurd (pu_inj (by omega) (by omega) w).symm c
        · exact h3 i i1 (by omega) r hr w) n p gc rfl ⟨Nat.le_refl _, fun _ _ => rfl, fun _ _ _ => rfl, fun i i1 i2 => by omega⟩
  rw [e1, eX5_mayMapAgain_2, nI_add, if_pos (nI_le (Nat.le_refl _) (by omega))]
  have c0 : ∀ s, rl_ct gc t p s p = 0 := fun s => (pu_cn_0 p).mpr (fun i hi => decide_eq_false (fun z => by omega))
  have L := pu_loopE (p + n) (fun j (x : Option am_v × am_S) => vX5_mayMapAgain_42 (nI t) (nI p) (nI n) (nI j) x.1 x.2) (fun j x => p ≤ j ∧ (∀ f, f ≠ 5 → x.2 f = gc f) ∧ (∀ r j, j ≠ 7 → x.2 5 r j = gc 5 r j) ∧ (∀ i, p ≤ i → i < p + n → ∀ s, s < 128 → gc 23 t i = nI s → x.2 5 s 7 = nI (rl_ct gc t p s j)) ∧ ∀ i, p ≤ i → i < j → ∀ s, s < 128 → gc 23 t i = nI s → rl_pc gc s + rl_ct gc t p s j ≤ 20)
    (fun r => ∃ gc', r = (.inl (some (.inl 0)), gc') ∧ (∀ f, f ≠ 5 → gc' f = gc f) ∧ (∀ r j, j ≠ 7 → gc' 5 r j = gc 5 r j) ∧ ¬ rl_may gc t p n) (fun j x hj hp => by
    obtain ⟨o, g⟩ := x
    obtain ⟨h0, h1, h2, h3, h4⟩ := hp
    dsimp only at h1 h2 h3
    have st : ∀ s, rl_ct gc t p s (j + 1) = rl_ct gc t p s j + (match decide (p ≤ j ∧ gc 23 t j = nI s) with | true => 1 | false => 0) := fun s => rfl
    show (∃ x' : Option am_v × am_S, (p ≤ j + 1 ∧ (∀ f, f ≠ 5 → x'.2 f = gc f) ∧ (∀ r j, j ≠ 7 → x'.2 5 r j = gc 5 r j) ∧ (∀ i, p ≤ i → i < p + n → ∀ s, s < 128 → gc 23 t i = nI s → x'.2 5 s 7 = nI (rl_ct gc t p s (j + 1))) ∧ ∀ i, p ≤ i → i < j + 1 → ∀ s, s < 128 → gc 23 t i = nI s → rl_pc gc s + rl_ct gc t p s (j + 1) ≤ 20) ∧ vX5_mayMapAgain_42 (nI t) (nI p) (nI n) (nI j) o g = vX5_mayMapAgain_42 (nI t) (nI p) (nI n) (nI (j + 1)) x'.1 x'.2) ∨ ∃ r, (∃ gc', r = (.inl (some (.inl 0)), gc') ∧ (∀ f, f ≠ 5 → gc' f = gc f) ∧ (∀ r j, j ≠ 7 → gc' 5 r j = gc 5 r j) ∧ ¬ rl_may gc t p n) ∧ vX5_mayMapAgain_42 (nI t) (nI p) (nI n) (nI j) o g = some r
    rw [eX5_mayMapAgain_42, nI_add, if_neg (nI_ge hj (by omega)), if_neg (pu_nge (x := 16) (k := 16) rfl (show j < 16 by omega) (by omega)), pu_in ht (by omega), pu_g, pu_g, pu_in (show j < 16 by omega) (by omega), pu_g, pu_lv, nI_clamp (show t < 2 ^ 31 by omega), nI_clamp (show j < 2 ^ 31 by omega), h1 23 (by decide), nI_1]
    rcases hok j (by omega) with z | ⟨s, hs, z⟩
    · rw [z, if_pos pu_neg]
      have same : ∀ r, r < 128 → rl_ct gc t p r (j + 1) = rl_ct gc t p r j := fun r hr => by
        rw [st, decide_eq_false (fun q => by rw [z] at q; exact pu_m1 (by omega) q.2.symm)]; rfl
      refine Or.inl ⟨(_, g), ⟨by omega, h1, h2, fun i i1 i2 r hr w => by rw [same r hr]; exact h3 i i1 i2 r hr w, fun i i1 i2 r hr w => ?_⟩, rfl⟩
      rw [same r hr]
      by_cases e : i = j
      · rw [e, z] at w; exact absurd w.symm (pu_m1 (by omega))
      · exact h4 i i1 (by omega) r hr w
    · have up : rl_ct gc t p s (j + 1) = rl_ct gc t p s j + 1 := by rw [st, decide_eq_true ⟨h0, z⟩]
      have same : ∀ r, r < 128 → r ≠ s → rl_ct gc t p r (j + 1) = rl_ct gc t p r j := fun r hr hne => by
        rw [st, decide_eq_false (fun q => by rw [z] at q; exact hne (pu_inj (by omega) (by omega) q.2).symm)]; rfl
      have hpc := rl_pc_le gc s
      have hct : rl_ct gc t p s j ≤ j := pu_cn_le _ _
      rw [z, if_neg (pu_lt0 (by omega)), pu_in hs (by omega), pu_g, pu_g, pu_lt', pu_g, pu_g, nI_clamp (show s < 2 ^ 31 by omega), pu_us, h3 j h0 hj s hs z, nI_1, pu_uj (show 1 ≠ 7 by decide), h2 s 1 (by decide), hmp s hs, nI_add, ← up]
      by_cases c : rl_pc gc s + rl_ct gc t p s (j + 1) ≤ 20
      · rw [if_pos (pu_le (x := 20) (k := 20) rfl c (by omega))]
        refine Or.inl ⟨(_, _), ⟨by omega, fun f hf => ?_, fun r j' hj' => ?_, fun i i1 i2 r hr w => ?_, fun i i1 i2 r hr w => ?_⟩, rfl⟩
        · show (am_up g 5 s 7 (nI (rl_ct gc t p s (j + 1)))) f = gc f
          rw [pu_uf hf]; exact h1 f hf
        · show (am_up g 5 s 7 (nI (rl_ct gc t p s (j + 1)))) 5 r j' = gc 5 r j'
          rw [pu_uj hj']; exact h2 r j' hj'
        · show (am_up g 5 s 7 (nI (rl_ct gc t p s (j + 1)))) 5 r 7 = nI (rl_ct gc t p r (j + 1))
          rw [pu_ub]
          by_cases e : r = s
          · rw [if_pos ⟨e, rfl⟩, e]
          · rw [if_neg (fun q => e q.1), same r hr e]; exact h3 i i1 i2 r hr w
        · by_cases e : r = s
          · rw [e]; exact c
          · rw [same r hr e]
            refine h4 i i1 ?_ r hr w
            by_cases e' : i = j
            · rw [e', z] at w; exact absurd (pu_inj (by omega) (by omega) w).symm e
            · omega
      · rw [if_neg (pu_nle (x := 20) (k := 20) rfl (by omega) (by omega)), pu_b0, pu_g]
        refine Or.inr ⟨_, ⟨_, rfl, fun f hf => by rw [pu_uf hf]; exact h1 f hf, fun r j' hj' => by rw [pu_uj hj']; exact h2 r j' hj', fun hm => ?_⟩, rfl⟩
        have := hm j h0 hj s hs z
        have := rl_ct_mono gc t p s (show j + 1 ≤ p + n by omega)
        omega) n p (none, g1) rfl ⟨Nat.le_refl _, a1, a2, fun i i1 i2 s hs w => by rw [c0]; exact a3 i i1 i2 s hs w, fun i i1 i2 => by omega⟩
  rcases L with ⟨x, ⟨-, b1, b2, b3, b4⟩, e2⟩ | ⟨r, ⟨gc', rfl, b1, b2, b3⟩, e2⟩
  · refine ⟨x.2, b1, b2, Or.inl ⟨fun i i1 i2 s hs w => b4 i i1 i2 s hs w, ?_⟩⟩
    refine Eq.trans e2 ?_
    show vX5_mayMapAgain_42 (nI t) (nI p) (nI n) (nI (p + n)) x.1 x.2 = _
    rw [eX5_mayMapAgain_42, nI_add, if_pos (nI_le (Nat.le_refl _) (by omega)), pu_b1, pu_g]
  · exact ⟨gc', b1, b2, Or.inr ⟨b3, e2⟩⟩
