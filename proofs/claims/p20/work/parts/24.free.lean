/-! a sheet without pages goes, on both sides -/
/-- what freeing s does to the class's store: fo its frame (10: none), lo and hi its bytes, k1 and k2 its slots (24: none) -/
def rl_Fc (gc gc' : am_S) (s fo lo hi k1 k2 n : Nat) : Prop :=
  (gc' 19 = gc 19 ∧ gc' 20 = gc 20 ∧ gc' 21 = gc 21 ∧ gc' 22 = gc 22 ∧ gc' 23 = gc 23 ∧ gc' 7 = gc 7 ∧ gc' 16 = gc 16) ∧
  (∀ s' j, s' ≠ s → gc' 5 s' j = gc 5 s' j) ∧ (gc' 5 s 1 = 0 ∧ gc' 5 s 2 = 0 ∧ gc' 5 s 3 = -1 ∧ gc' 5 s 4 = 0 ∧ gc' 5 s 5 = -1 ∧ gc' 5 s 6 = -1) ∧
  (∀ s' k, s' ≠ s → gc' 6 s' k = gc 6 s' k) ∧ (∀ k, k < 8 → gc' 6 s k = 0) ∧
  (∀ f, f ≠ fo → gc' 8 0 f = gc 8 0 f ∧ gc' 9 0 f = gc 9 0 f ∧ gc' 10 0 f = gc 10 0 f) ∧ (fo < 10 → gc' 8 0 fo = -1 ∧ gc' 9 0 fo = 0 ∧ gc' 10 0 fo = 0) ∧
  (∀ b, ¬ (lo ≤ b ∧ b < hi) → gc' 12 0 b = gc 12 0 b) ∧ (∀ b, lo ≤ b → b < hi → gc' 12 0 b = 0) ∧
  (gc' 11 0 2 = if lo < hi then gc 11 0 2 - 1 else gc 11 0 2) ∧
  (∀ k, k ≠ k1 → k ≠ k2 → gc' 15 0 k = gc 15 0 k ∧ gc' 17 0 k = gc 17 0 k) ∧ (k1 < 24 → gc' 15 0 k1 = 0 ∧ gc' 17 0 k1 = 0) ∧ (k2 < 24 → gc' 15 0 k2 = 0 ∧ gc' 17 0 k2 = 0) ∧
  (∀ i, i ≠ n → gc' 4 0 i = gc 4 0 i) ∧ gc' 4 0 n = nI s ∧ gc' 2 0 2 = nI (n + 1)
def rl_Fm (gm gm' : am_S) (q fo : Nat) : Prop :=
  (gm' 24 = gm 24 ∧ gm' 25 = gm 25 ∧ gm' 26 = gm 26 ∧ gm' 27 = gm 27 ∧ gm' 28 = gm 28 ∧ gm' 29 = gm 29 ∧ gm' 30 = gm 30 ∧ gm' 31 = gm 31 ∧ gm' 32 = gm 32 ∧ gm' 34 = gm 34 ∧ gm' 35 = gm 35 ∧ gm' 36 = gm 36 ∧ gm' 42 = gm 42 ∧ gm' 43 = gm 43) ∧
  (∀ r, r ≠ q → gm' 37 0 r = gm 37 0 r ∧ gm' 33 0 r = gm 33 0 r) ∧ gm' 37 0 q = 0 ∧ gm' 33 0 q = 0 ∧
  (∀ f, f ≠ fo → gm' 38 0 f = gm 38 0 f ∧ gm' 39 0 f = gm 39 0 f ∧ gm' 40 0 f = gm 40 0 f) ∧ (fo < 10 → gm' 38 0 fo = -1 ∧ gm' 39 0 fo = 0 ∧ gm' 40 0 fo = 0) ∧
  (∀ k, k < 24 → gm 41 0 k = nI q → gm' 41 0 k = -1 ∧ gm' 44 0 k = 0) ∧ (∀ k, k < 24 → ¬ gm 41 0 k = nI q → gm' 41 0 k = gm 41 0 k ∧ gm' 44 0 k = gm 44 0 k)
def rl_no (al : Nat → Bool) (s : Nat) : Nat → Bool := fun r => if r = s then false else al r
theorem rl_no_s {al : Nat → Bool} {s : Nat} : rl_no al s s = false := by unfold rl_no; rw [if_pos rfl]
theorem rl_no_t {al : Nat → Bool} {s r : Nat} (h : rl_no al s r = true) : r ≠ s ∧ al r = true := by
  unfold rl_no at h
  by_cases e : r = s
  · rw [if_pos e] at h; cases h
  · rw [if_neg e] at h; exact ⟨e, h⟩
theorem rl_no_i {al : Nat → Bool} {s r : Nat} (e : r ≠ s) : rl_no al s r = al r := by unfold rl_no; rw [if_neg e]
theorem rl_nd_no {al : Nat → Bool} {s : Nat} (hs : s < 128) (h : al s = true) : rl_nd (rl_no al s) = rl_nd al + 1 := by
  unfold rl_nd
  exact pu_cn_up (k := s) (by rw [h]; rfl) (by rw [rl_no_s]; rfl) (fun j hj => by rw [rl_no_i hj]) 128 hs
theorem rl_nd_lt {al : Nat → Bool} {s : Nat} (hs : s < 128) (h : al s = true) : rl_nd al < 128 := pu_cn_lt 128 hs (by rw [h]; rfl)
/-- what s has, as freeing needs it -/
def rl_Fh (be : Nat → Nat) (al : Nat → Bool) (gc gm : am_S) (s fo lo hi k1 k2 : Nat) : Prop :=
  ((gc 5 s 2 = 1 ∧ fo < 10 ∧ gc 5 s 3 = nI fo ∧ gc 8 0 fo = nI s) ∨ (¬ gc 5 s 2 = 1 ∧ fo = 10)) ∧
  ((gc 5 s 2 = 2 ∧ lo < hi ∧ hi ≤ 64 ∧ gc 5 s 3 = nI lo ∧ gc 5 s 4 = nI (hi - lo)) ∨ (¬ gc 5 s 2 = 2 ∧ lo = 0 ∧ hi = 0)) ∧
  ((k1 < 24 ∧ gc 5 s 5 = nI k1 ∧ gm 41 0 k1 = nI (be s)) ∨ (k1 = 24 ∧ gc 5 s 5 = -1)) ∧ ((k2 < 24 ∧ gc 5 s 6 = nI k2 ∧ gm 41 0 k2 = nI (be s)) ∨ (k2 = 24 ∧ gc 5 s 6 = -1))
theorem rl_Fh_ex {ex : Nat} {be : Nat → Nat} {al : Nat → Bool} {gc gm : am_S} {s : Nat} (h : rl_R ex be al gc gm) (hs : s < 128) (ha : al s = true) : ∃ fo lo hi k1 k2, rl_Fh be al gc gm s fo lo hi k1 k2 := by
  obtain ⟨-, -, -, -, -, -, -, hsh, -, -, -, -, -, hs2⟩ := h
  obtain ⟨-, -, hc⟩ := hsh s hs ha
  have hk : ∃ k1 k2, ((k1 < 24 ∧ gc 5 s 5 = nI k1 ∧ gm 41 0 k1 = nI (be s)) ∨ (k1 = 24 ∧ gc 5 s 5 = -1)) ∧ ((k2 < 24 ∧ gc 5 s 6 = nI k2 ∧ gm 41 0 k2 = nI (be s)) ∨ (k2 = 24 ∧ gc 5 s 6 = -1)) := by
    rcases hs2 s hs ha with ⟨a, b⟩ | ⟨k, a, b, c, d | ⟨k', d1, d2, d3, d4⟩⟩
    · exact ⟨24, 24, Or.inr ⟨rfl, a⟩, Or.inr ⟨rfl, b⟩⟩
    · exact ⟨k, 24, Or.inl ⟨a, b, c⟩, Or.inr ⟨rfl, d⟩⟩
    · exact ⟨k, k', Or.inl ⟨a, b, c⟩, Or.inl ⟨d2, d3, d4⟩⟩
  obtain ⟨k1, k2, hk1, hk2⟩ := hk
  rcases hc with ⟨a, -⟩ | ⟨a, f, b, c, d, -⟩ | ⟨a, -, lo, n, c, d, e1, e2, -⟩ | ⟨a, -⟩
  · exact ⟨10, 0, 0, k1, k2, Or.inr ⟨by rw [a]; decide, rfl⟩, Or.inr ⟨by rw [a]; decide, rfl, rfl⟩, hk1, hk2⟩
  · exact ⟨f, 0, 0, k1, k2, Or.inl ⟨a, b, c, d⟩, Or.inr ⟨by rw [a]; decide, rfl, rfl⟩, hk1, hk2⟩
  · exact ⟨10, lo, lo + n, k1, k2, Or.inr ⟨by rw [a]; decide, rfl⟩, Or.inl ⟨a, by omega, e2, c, by rw [d, Nat.add_sub_cancel_left]⟩, hk1, hk2⟩
  · exact ⟨10, 0, 0, k1, k2, Or.inr ⟨by rw [a]; decide, rfl⟩, Or.inr ⟨by rw [a]; decide, rfl, rfl⟩, hk1, hk2⟩
theorem rl_free_R {ex : Nat} {be : Nat → Nat} {al : Nat → Bool} {gc gm gc' gm' : am_S} {s fo lo hi k1 k2 : Nat} (h : rl_R ex be al gc gm) (hs : s < 128) (ha : al s = true) (h0 : rl_pc gc s = 0)
    (hh : rl_Fh be al gc gm s fo lo hi k1 k2) (hc : rl_Fc gc gc' s fo lo hi k1 k2 (rl_nd al)) (hm : rl_Fm gm gm' (be s) fo) : rl_R ex be (rl_no al s) gc' gm' := by
  obtain ⟨htk, hrg, hpg, hmp, hal, hdd, hsp, hsh, hfr, hhd, har, hpk, hs1, hs2⟩ := h
  obtain ⟨⟨c19, c20, c21, c22, c23, c7, c16⟩, c5, ⟨c51, c52, c53, c54, c55, c56⟩, c6, c6s, cf, cfo, cb, cbi, c11, ck, ck1, ck2, c4, c4n, c2⟩ := hc
  obtain ⟨⟨m24, m25, m26, m27, m28, m29, m30, m31, m32, m34, m35, m36, m42, m43⟩, mq, mq37, mq33, mf, mfo, mk, mkn⟩ := hm
  obtain ⟨hh1, hh2, hh3, hh4⟩ := hh
  have hbs := (hal.1 s hs ha).1
  have nopage : ∀ t p, t < 8 → p < 16 → ¬ gc 23 t p = nI s := fun t p ht hp z => by
    have := (pu_cn_0 128).mp h0 (16 * t + p) (by omega)
    rw [(rl_div hp).1, (rl_div hp).2, decide_eq_true z] at this
    cases this
  have bne : ∀ r, r < 128 → al r = true → r ≠ s → be r ≠ be s := fun r hr har hne z => hne (hal.2.1 r s hr hs har ha z)
  refine ⟨?_, ?_, ?_, ?_, ?_, ?_, ?_, ?_, ?_, ?_, ?_, ?_, ?_, ?_⟩
  · intro t ht hne
    rw [c19, c23, m25, m26, m27]
    exact htk t ht hne
  · intro t ht
    rw [c19, c20, c21, m28, m29, m30]
    exact hrg t ht
  · intro t p ht hp
    rw [c22, c23, m31, m32]
    obtain ⟨a, b, d⟩ := hpg t p ht hp
    refine ⟨a, b, fun r hr z => ?_⟩
    obtain ⟨d1, d2, d3⟩ := d r hr z
    have hne : r ≠ s := fun w => nopage t p ht hp (by rw [← w]; exact z)
    exact ⟨by rw [rl_no_i hne]; exact d1, d2, d3⟩
  · intro r hr
    rw [rl_pc_congr c23]
    by_cases e : r = s
    · subst e; rw [c51, h0]; rfl
    · rw [c5 r 1 e]; exact hmp r hr
  · refine ⟨fun r hr hr2 => ?_, fun r r' hr hr' a a' e => ?_, fun q hq => ?_⟩
    · obtain ⟨hne, har⟩ := rl_no_t hr2
      obtain ⟨b1, b2⟩ := hal.1 r hr har
      exact ⟨b1, by rw [(mq _ (bne r hr har hne)).1]; exact b2⟩
    · exact hal.2.1 r r' hr hr' (rl_no_t a).2 (rl_no_t a').2 e
    · by_cases e : q = be s
      · subst e; exact Or.inl mq37
      · rw [(mq q e).1]
        rcases hal.2.2 q hq with z | ⟨r, hr, h1, h2⟩
        · exact Or.inl z
        · refine Or.inr ⟨r, hr, ?_, h2⟩
          rw [rl_no_i (fun w => e (by rw [← h2, w]))]; exact h1
  · intro r hr hr2
    by_cases e : r = s
    · subst e; exact ⟨c52, c53, c54, c55, c56, c6s⟩
    · rw [rl_no_i e] at hr2
      obtain ⟨a1, a2, a3, a4, a5, a6⟩ := hdd r hr hr2
      exact ⟨by rw [c5 r 2 e]; exact a1, by rw [c5 r 3 e]; exact a2, by rw [c5 r 4 e]; exact a3, by rw [c5 r 5 e]; exact a4, by rw [c5 r 6 e]; exact a5, fun k hk => by rw [c6 r k e]; exact a6 k hk⟩
  · rw [rl_sp, rl_nd_no hs ha]
    obtain ⟨p1, p2, p3⟩ := hsp
    refine ⟨c2, fun i hi => ?_, fun i j hi hj e => ?_⟩
    · by_cases e : i = rl_nd al
      · subst e; exact ⟨s, hs, c4n, rl_no_s⟩
      · obtain ⟨r, hr, q1, q2⟩ := p2 i (by omega)
        refine ⟨r, hr, by rw [c4 i e]; exact q1, ?_⟩
        rw [rl_no_i (fun w => by rw [w, ha] at q2; cases q2)]; exact q2
    · by_cases ei : i = rl_nd al
      · by_cases ej : j = rl_nd al
        · omega
        · exfalso
          rw [ei, c4n, c4 j ej] at e
          obtain ⟨r, hr, q1, q2⟩ := p2 j (by omega)
          rw [q1] at e
          have := pu_inj (by omega) (by omega) e
          rw [← this, ha] at q2; cases q2
      · by_cases ej : j = rl_nd al
        · exfalso
          rw [ej, c4n, c4 i ei] at e
          obtain ⟨r, hr, q1, q2⟩ := p2 i (by omega)
          rw [q1] at e
          have := pu_inj (by omega) (by omega) e
          rw [this, ha] at q2; cases q2
        · rw [c4 i ei, c4 j ej] at e
          exact p3 i j (by omega) (by omega) e
  · intro r hr hr2
    obtain ⟨hne, har2⟩ := rl_no_t hr2
    have hbr := bne r hr har2 hne
    obtain ⟨a1, a2, a3⟩ := hsh r hr har2
    rw [(mq _ hbr).2, m34, m35, m36, c5 r 2 hne, c5 r 3 hne, c5 r 4 hne, c5 r 5 hne]
    refine ⟨a1, fun k hk => by rw [c6 r k hne]; exact a2 k hk, ?_⟩
    rcases a3 with a3 | ⟨b1, f, b2, b3, b4, b5⟩ | ⟨b1, b2, a, n, d1, d2, d3, d4, d5, d6, d7⟩ | a3
    · exact Or.inl a3
    · have hfo : f ≠ fo := fun w => by
        subst w
        rcases hh1 with ⟨-, -, -, z⟩ | ⟨-, z⟩
        · rw [b4] at z
          exact hne (pu_inj (by omega) (by omega) z)
        · omega
      exact Or.inr (Or.inl ⟨b1, f, b2, b3, by rw [(cf f hfo).1]; exact b4, by rw [(cf f hfo).2.2]; exact b5⟩)
    · refine Or.inr (Or.inr (Or.inl ⟨b1, b2, a, n, d1, d2, d3, d4, d5, d6, fun b e1 e2 => ?_⟩))
      rw [cb b, d7 b e1 e2]
      rintro ⟨z1, z2⟩
      rcases hh2 with ⟨q1, q2, q3, q4, q5⟩ | ⟨-, q2, q3⟩
      · exact hne (har.2 r s b hr hs ⟨har2, b1, a, n, d4, d1, d2, e1, e2⟩ ⟨ha, q1, lo, hi - lo, by omega, q4, q5, z1, by omega⟩)
      · omega
    · exact Or.inr (Or.inr (Or.inr a3))
  · intro f hf
    by_cases e : f = fo
    · subst e
      obtain ⟨x1, x2, x3⟩ := cfo hf
      obtain ⟨y1, y2, y3⟩ := mfo hf
      rw [x1, x2, x3, y1, y2, y3, rl_bi_m]
      exact ⟨Or.inl rfl, rfl, rfl, rfl, Or.inl rfl, Or.inl rfl, fun _ => ⟨rfl, rfl⟩, fun r hr z => absurd z.symm (pu_m1 (by omega))⟩
    · obtain ⟨x1, x2, x3⟩ := cf f e
      obtain ⟨y1, y2, y3⟩ := mf f e
      obtain ⟨a1, a2, a3, a4, a5, a6, a7, a8⟩ := hfr f hf
      rw [x1, x2, x3, y1, y2, y3]
      refine ⟨a1, a2, a3, a4, a5, a6, a7, fun r hr z => ?_⟩
      obtain ⟨b1, b2, b3⟩ := a8 r hr z
      have hne : r ≠ s := fun w => by
        subst w
        rcases hh1 with ⟨-, q2, q3, -⟩ | ⟨q1, -⟩
        · rw [q3] at b3
          exact e (pu_inj (by omega) (by omega) b3).symm
        · exact q1 b2
      exact ⟨by rw [rl_no_i hne]; exact b1, by rw [c5 r 2 hne]; exact b2, by rw [c5 r 3 hne]; exact b3⟩
  · obtain ⟨x, x1, x2, x3⟩ := hhd
    exact ⟨x, x1, by rw [c7]; exact x2, by rw [m24]; exact x3⟩
  · have hin : ∀ r b, r < 128 → rl_in (rl_no al s) gc' r b → r ≠ s ∧ rl_in al gc r b := fun r b hr hi9 => by
      obtain ⟨i1, i2, a, n, i3, i4, i5, i6, i7⟩ := hi9
      obtain ⟨hne, har2⟩ := rl_no_t i1
      rw [c5 r 2 hne] at i2
      rw [c5 r 3 hne] at i4
      rw [c5 r 4 hne] at i5
      exact ⟨hne, har2, i2, a, n, i3, i4, i5, i6, i7⟩
    refine ⟨fun b hb => ?_, fun r r' b hr hr' h1 h2 => har.2 r r' b hr hr' (hin r b hr h1).2 (hin r' b hr' h2).2⟩
    by_cases e : lo ≤ b ∧ b < hi
    · exact Or.inl (cbi b e.1 e.2)
    · rw [cb b e]
      rcases har.1 b hb with z | ⟨z, r, hr, h1⟩
      · exact Or.inl z
      · have hne : r ≠ s := fun w => by
          subst w
          obtain ⟨-, i2, a, n, i3, i4, i5, i6, i7⟩ := h1
          rcases hh2 with ⟨q1, q2, q3, q4, q5⟩ | ⟨q1, -⟩
          · rw [q4] at i4
            rw [q5] at i5
            have := pu_inj (by omega) (by omega) i4
            have := pu_inj (by omega) (by omega) i5
            exact e (by omega)
          · exact q1 i2
        obtain ⟨i1, i2, a, n, i3, i4, i5, i6, i7⟩ := h1
        exact Or.inr ⟨z, r, hr, by rw [rl_no_i hne]; exact i1, by rw [c5 r 2 hne]; exact i2, a, n, i3, by rw [c5 r 3 hne]; exact i4, by rw [c5 r 4 hne]; exact i5, i6, i7⟩
  · have hwh := (hsh s hs ha).1
    have h37 := (hal.1 s hs ha).2
    have hle := pu_cn_le (fun q => decide (gm 37 0 q = 1 ∧ gm 33 0 q = 2)) 130
    show gc' 11 0 2 = nI (pu_cn (fun q => decide (gm' 37 0 q = 1 ∧ gm' 33 0 q = 2)) 130)
    rw [c11]
    rcases hh2 with ⟨q1, q2, -⟩ | ⟨q1, q2, q3⟩
    · have hcn : pu_cn (fun q => decide (gm 37 0 q = 1 ∧ gm 33 0 q = 2)) 130 = pu_cn (fun q => decide (gm' 37 0 q = 1 ∧ gm' 33 0 q = 2)) 130 + 1 :=
        pu_cn_up (k := be s) (decide_eq_false (fun z => by rw [mq37] at z; exact absurd z.1 (by decide))) (decide_eq_true ⟨h37, by rw [hwh]; exact q1⟩) (fun j hj => by rw [(mq j hj).1, (mq j hj).2]) 130 hbs
      rw [if_pos q2, hpk, hcn, nI_pred]
    · rw [if_neg (by omega), hpk]
      refine congrArg nI (pu_cn_congr 130 (fun j hj => ?_))
      show decide (gm 37 0 j = 1 ∧ gm 33 0 j = 2) = decide (gm' 37 0 j = 1 ∧ gm' 33 0 j = 2)
      by_cases e : j = be s
      · subst e
        rw [mq37, mq33, decide_eq_false (fun z => q1 (by rw [← hwh]; exact z.2)), decide_eq_false (fun z => by cases z.1)]
      · rw [(mq j e).1, (mq j e).2]
  · intro k hk
    rw [m42, m43, c16]
    obtain ⟨a1, a2, a3, a4, a5⟩ := hs1 k hk
    by_cases e : gm 41 0 k = nI (be s)
    · obtain ⟨x1, x2⟩ := mk k hk e
      have hkk : k = k1 ∨ k = k2 := by
        rcases a5 with ⟨-, -, z, -⟩ | ⟨-, -, z, -⟩ | ⟨-, -, r, hr, z1, z2, z3⟩
        · rw [e] at z; exact absurd z (pu_m1 (by omega))
        · rw [e] at z; exact absurd z (pu_m1 (by omega))
        · rw [e] at z2
          have hr2 : s = r := hal.2.1 s r hs hr ha z1 (pu_inj (by omega) (by have := (hal.1 r hr z1).1; omega) z2)
          subst hr2
          rcases z3 with z3 | z3
          · rcases hh3 with ⟨w1, w2, -⟩ | ⟨-, w2⟩
            · rw [z3] at w2; exact Or.inl (pu_inj (by omega) (by omega) w2)
            · rw [z3] at w2; exact absurd w2 (pu_m1 (by omega))
          · rcases hh4 with ⟨w1, w2, -⟩ | ⟨-, w2⟩
            · rw [z3] at w2; exact Or.inr (pu_inj (by omega) (by omega) w2)
            · rw [z3] at w2; exact absurd w2 (pu_m1 (by omega))
      have hb0 : gm 42 0 k = 0 := by
        rcases a5 with ⟨-, z, -⟩ | ⟨-, -, z, -⟩ | ⟨-, z, -⟩
        · exact z
        · rw [e] at z; exact absurd z (pu_m1 (by omega))
        · exact z
      have hc0 : gc' 15 0 k = 0 ∧ gc' 17 0 k = 0 := by
        rcases hkk with rfl | rfl
        · exact ck1 hk
        · exact ck2 hk
      rw [x1, x2, hc0.1, hc0.2]
      exact ⟨a1, a2, rfl, Or.inl rfl, Or.inl ⟨rfl, hb0, rfl, rfl⟩⟩
    · obtain ⟨x1, x2⟩ := mkn k hk e
      have n1 : k ≠ k1 := fun w => by
        subst w
        rcases hh3 with ⟨-, -, z⟩ | ⟨z, -⟩
        · exact e z
        · omega
      have n2 : k ≠ k2 := fun w => by
        subst w
        rcases hh4 with ⟨-, -, z⟩ | ⟨z, -⟩
        · exact e z
        · omega
      obtain ⟨y1, y2⟩ := ck k n1 n2
      rw [x1, x2, y1, y2]
      refine ⟨a1, a2, a3, a4, ?_⟩
      rcases a5 with z | z | ⟨z1, z2, r, hr, z3, z4, z5⟩
      · exact Or.inl z
      · exact Or.inr (Or.inl z)
      · have hne : r ≠ s := fun w => e (by rw [z4, w])
        exact Or.inr (Or.inr ⟨z1, z2, r, hr, by rw [rl_no_i hne]; exact z3, z4, by rw [c5 r 5 hne, c5 r 6 hne]; exact z5⟩)
  · intro r hr hr2
    obtain ⟨hne, har2⟩ := rl_no_t hr2
    have hbr := bne r hr har2 hne
    have hbr9 := (hal.1 r hr har2).1
    have keep : ∀ k, k < 24 → gm 41 0 k = nI (be r) → gm' 41 0 k = nI (be r) := fun k hk z => by
      rw [(mkn k hk (fun w => hbr (pu_inj (by omega) (by omega) (z.symm.trans w)))).1]
      exact z
    rw [c5 r 5 hne, c5 r 6 hne]
    rcases hs2 r hr har2 with z | ⟨k, z1, z2, z3, z4 | ⟨k', w1, w2, w3, w4⟩⟩
    · exact Or.inl z
    · exact Or.inr ⟨k, z1, z2, keep k z1 z3, Or.inl z4⟩
    · exact Or.inr ⟨k, z1, z2, keep k z1 z3, Or.inr ⟨k', w1, w2, w3, keep k' w2 w4⟩⟩
