/-! a sheet is copied, on both sides -/
theorem pu_cn_le2 {f f' : Nat → Bool} : ∀ n, (∀ k, k < n → f k = true → f' k = true) → pu_cn f n ≤ pu_cn f' n := by
  intro n
  induction n with
  | zero => intro _; exact Nat.le_refl _
  | succ n ih =>
    intro h
    have h1 := ih (fun k hk => h k (by omega))
    unfold pu_cn
    cases hf : f n with
    | false => dsimp only; omega
    | true => rw [h n (by omega) hf]; dsimp only; omega
theorem rl_nd_sub {al al' : Nat → Bool} (h : ∀ r, r < 128 → al' r = true → al r = true) : rl_nd al ≤ rl_nd al' := pu_cn_le2 128 (fun k hk z => by
  cases h1 : al' k with
  | false => rfl
  | true => rw [h k hk h1] at z; cases z)
/-- frameOf looks at the frames alone -/
theorem lm_frameOf_any (x : Int32) (g : am_S) : ∃ r, (r = -1 ∨ ∃ k, k < 10 ∧ r = nI k ∧ g 38 0 k = x) ∧ ∀ g' : am_S, g' 38 = g 38 → vX7_frameOf x g' = some (.inl (some (.inl r)), g') := by
  have least : ∀ n, n ≤ 10 → (∀ k, k < n → ¬ g 38 0 k = x) ∨ ∃ k, k < n ∧ g 38 0 k = x ∧ ∀ j, j < k → ¬ g 38 0 j = x := by
    intro n
    induction n with
    | zero => intro _; exact Or.inl (fun k hk => by omega)
    | succ n ih =>
      intro hn
      rcases ih (by omega) with h | ⟨k, h1, h2, h3⟩
      · by_cases c : g 38 0 n = x
        · exact Or.inr ⟨n, by omega, c, h⟩
        · refine Or.inl (fun k hk => ?_)
          by_cases e : k = n
          · rw [e]; exact c
          · exact h k (by omega)
      · exact Or.inr ⟨k, by omega, h2, h3⟩
  rcases least 10 (Nat.le_refl _) with h | ⟨k, h1, h2, h3⟩
  · exact ⟨-1, Or.inl rfl, fun g' e => lm_frameOf_no (fun f hf => by rw [e]; exact h f hf)⟩
  · refine ⟨nI k, Or.inr ⟨k, h1, rfl, h2⟩, fun g' e => ?_⟩
    rw [eX7_frameOf]
    obtain ⟨_, _, e1⟩ := pu_loop k (fun j (_ : Unit) => vX7_frameOf_2 x (nI j) g') (fun _ _ => True) (fun j _ hj _ => by
      refine ⟨(), trivial, ?_⟩
      have hne : ¬ g' 38 0 j = x := by rw [e]; exact h3 j hj
      rw [eX7_frameOf_2, if_neg (pu_nge (x := 10) (k := 10) rfl (by omega) (by omega)), pu_in (show j < 10 by omega) (by omega), pu_g, nI_clamp (by omega), if_neg hne, nI_1]) k 0 () (by omega) trivial
    have e' : vX7_frameOf_2 x 0 g' = vX7_frameOf_2 x (nI k) g' := e1
    have h2' : g' 38 0 k = x := by rw [e]; exact h2
    rw [e', eX7_frameOf_2, if_neg (pu_nge (x := 10) (k := 10) rfl h1 (by omega)), pu_in h1 (by omega), pu_g, nI_clamp (by omega), if_pos h2', eX7_frameOf_24, if_neg (pu_nge (x := 10) (k := 10) rfl h1 (by omega))]
/-- two stores that differ in the mark USED of f alone -/
def ag_ (f : Nat) (g g' : am_S) : Prop := ∀ c i j, ¬ (c = 39 ∧ i = 0 ∧ j = f) → g c i j = g' c i j
theorem ag_f {f : Nat} {g g' : am_S} (h : ag_ f g g') (c : Nat) (hc : c ≠ 39) : g c = g' c := by
  funext i j
  exact h c i j (fun z => hc z.1)
theorem ag_up {f : Nat} {g g' : am_S} {c i j : Nat} {v : Int32} (h : ag_ f g g') : ag_ f (am_up g c i j v) (am_up g' c i j v) := by
  intro c' i' j' hn
  unfold am_up
  by_cases q : c' = c ∧ i' = i ∧ j' = j
  · rw [if_pos q, if_pos q]
  · rw [if_neg q, if_neg q]; exact h c' i' j' hn
theorem ag_fs {f : Nat} {g g' : am_S} {x : Int32} (h : ag_ f g g') : ag_ f (lm_fs g x 24) (lm_fs g' x 24) := by
  intro c i j hn
  unfold lm_fs
  rw [ag_f h 41 (by decide)]
  by_cases q1 : (c = 41 ∧ i = 0 ∧ j < 24) ∧ g' 41 0 j = x
  · rw [if_pos q1, if_pos q1]
  · rw [if_neg q1, if_neg q1]
    by_cases q2 : (c = 44 ∧ i = 0 ∧ j < 24) ∧ g' 41 0 j = x
    · rw [if_pos q2, if_pos q2]
    · rw [if_neg q2, if_neg q2]; exact h c i j hn
theorem ag_39 {f : Nat} {g g' : am_S} {v : Int32} (h : ag_ f g g') : am_up g 39 0 f v = am_up g' 39 0 f v := by
  funext c i j
  unfold am_up
  by_cases q : c = 39 ∧ i = 0 ∧ j = f
  · rw [if_pos q, if_pos q]
  · rw [if_neg q, if_neg q]; exact h c i j q
theorem lm_unmap_39 {K f : Nat} {g : am_S} {v : Int32} (hK : K < 128) (hq : g 31 0 K = -1 ∨ ∃ q, q < 130 ∧ g 31 0 K = nI q) {m' : am_S} (h : vX7_unmap (nI K) (am_up g 39 0 f v) = some (.inl none, m')) : ∃ m, vX7_unmap (nI K) g = some (.inl none, m) ∧ ag_ f m m' ∧ m 32 = g 32 := by
  have a0 : ag_ f g (am_up g 39 0 f v) := fun c i j hn => by
    unfold am_up
    rw [if_neg hn]
  have e31 : (am_up g 39 0 f v) 31 0 K = g 31 0 K := by rw [pu_uf (by decide)]
  generalize am_up g 39 0 f v = G at h a0 e31
  rw [eX7_unmap, pu_in hK (by omega), pu_g, nI_clamp (by omega), pu_lv, pu_g, pu_lt', e31] at h
  rw [eX7_unmap, pu_in hK (by omega), pu_g, nI_clamp (by omega), pu_lv, pu_g, pu_lt']
  have a1 : ag_ f (am_up g 31 0 K (-1)) (am_up G 31 0 K (-1)) := ag_up a0
  have k1 : (am_up g 31 0 K (-1)) 32 = g 32 := pu_uf (by decide)
  generalize am_up g 31 0 K (-1) = g1 at a1 k1
  generalize am_up G 31 0 K (-1) = G1 at h a1
  rcases hq with z | ⟨q, hq, z⟩
  · rw [z, if_pos pu_neg] at h ⊢
    cases h
    exact ⟨g1, rfl, a1, k1⟩
  · rw [z, if_neg (pu_lt0 (by omega)), lm_mappings, pu_bI] at h ⊢
    have em : lm_mp G1 (nI q) = lm_mp g1 (nI q) := by unfold lm_mp; rw [ag_f a1 31 (by decide)]
    rw [em] at h
    by_cases c : nI (lm_mp g1 (nI q)) ≤ 0
    · rw [if_pos c, pu_in hq (by omega), pu_g, pu_b0, pu_g, pu_lt', nI_clamp (by omega)] at h ⊢
      have a2 : ag_ f (am_up g1 37 0 q 0) (am_up G1 37 0 q 0) := ag_up a1
      have k2 : (am_up g1 37 0 q 0) 32 = g 32 := by rw [pu_uf (by decide)]; exact k1
      generalize am_up g1 37 0 q 0 = g2 at a2 k2
      generalize am_up G1 37 0 q 0 = G2 at h a2
      obtain ⟨r, hr, hany⟩ := lm_frameOf_any (nI q) g2
      rw [hany G2 (ag_f a2 38 (by decide)).symm, pu_bI] at h
      rw [hany g2 rfl, pu_bI]
      rcases hr with rfl | ⟨k, hk, rfl, -⟩
      · rw [if_pos pu_neg, eX7_unmap_49, lm_freeSlots, pu_bV, pu_in hq (by omega), pu_g, pu_lt', nI_clamp (by omega)] at h ⊢
        cases h
        exact ⟨_, rfl, ag_up (ag_fs a2), by rw [pu_uf (by decide), rl_fs_f (by decide) (by decide)]; exact k2⟩
      · rw [if_neg (pu_lt0 (by omega)), lm_clearFrame hk, pu_bV, eX7_unmap_49, lm_freeSlots, pu_bV, pu_in hq (by omega), pu_g, pu_lt', nI_clamp (by omega)] at h ⊢
        cases h
        exact ⟨_, rfl, ag_up (ag_fs (ag_up (ag_up (ag_up a2)))), by rw [pu_uf (by decide), rl_fs_f (by decide) (by decide), pu_uf (by decide), pu_uf (by decide), pu_uf (by decide)]; exact k2⟩
    · rw [if_neg c] at h ⊢
      cases h
      exact ⟨g1, rfl, a1, k1⟩
theorem sm_cp {be : Nat → Nat} {al : Nat → Bool} {gc gm : am_S} {t p s : Nat} {A2 A3 B2 B3 B4 : Int32} {A7 : Option am_v} (R : rl_R 8 be al gc gm) (F : rl_fx 128 al gc) (ht : t < 8) (hp : p < 16) (hl : gc 19 t 4 = 1) (hs : s < 128) (hx : gc 23 t p = nI s) (h01 : gc 5 s 2 = 0 ∨ gc 5 s 2 = 1) (hnd : 0 < rl_nd al) (hA : ¬ A3 = 0) (hB : ¬ B3 = 0) :
    sm_T t p gc (vX6_touch_112 (nI t) A2 A3 (nI s) (nI p) 1 A7 gc) (vX7_touch_90 (nI t) B2 B3 B4 (nI (16 * t + p)) (nI (be s)) 0 gm) := by
  obtain ⟨-, px, py⟩ := R.2.2.1 t p ht hp
  have ha : al s = true := (py s hs hx).1
  have hbs := (R.2.2.2.2.1.1 s hs ha).1
  obtain ⟨hwh, -, hpl⟩ := R.2.2.2.2.2.2.2.1 s hs ha
  have hK : 16 * t + p < 128 := by omega
  have R0 := rl_fault_R (k := 0) R ht (by omega)
  have F0 : rl_fx 128 al (am_up gc 21 t 0 (gc 21 t 0 + 1)) := rl_fx_23 F (pu_uf (by decide))
  have k0 : ∀ c, c ≠ 21 → (am_up gc 21 t 0 (gc 21 t 0 + 1)) c = gc c := fun c hc => pu_uf hc
  have m0 : ∀ c, c ≠ 30 → (am_up gm 30 0 (3 * t + 0) (gm 30 0 (3 * t + 0) + 1)) c = gm c := fun c hc => pu_uf hc
  have lf : vX7_fault (nI t) 0 gm = some (.inl none, am_up gm 30 0 (3 * t + 0) (gm 30 0 (3 * t + 0) + 1)) := lm_fault (k := 0) ht (by omega)
  rw [eX6_touch_112, if_neg (show ¬ (1 : Int32) = 0 by decide), pu_in ht (by omega), pu_g, pu_g, show am_in 0 3 = true from by decide, pu_g, pu_g, pu_g, pu_lt', pu_in hs (by omega), pu_g, pu_g, nI_clamp (show t < 2 ^ 31 by omega), nI_clamp (show s < 2 ^ 31 by omega), show Int32.toNatClampNeg 0 = 0 from by decide, eX7_touch_90, if_pos (show (0 : Int32) ≤ 0 by decide), lf, pu_bV]
  generalize am_up gc 21 t 0 (gc 21 t 0 + 1) = g0' at R0 F0 k0
  generalize am_up gm 30 0 (3 * t + 0) (gm 30 0 (3 * t + 0) + 1) = m0' at R0 m0
  -- which frame is kept
  have keep : (if g0' 5 s 2 = 1 then vX6_touch_147 (nI t) A2 A3 (nI s) (nI p) 1 A7 (g0' 5 s 3) (nI t) g0' else vX6_touch_147 (nI t) A2 A3 (nI s) (nI p) 1 A7 (-1) (nI t) g0') = vX6_touch_147 (nI t) A2 A3 (nI s) (nI p) 1 A7 (gc 5 s 3) (nI t) g0' ∧ vX7_frameOf (nI (be s)) m0' = some (.inl (some (.inl (gc 5 s 3))), m0') := by
    rw [k0 5 (by decide)]
    rcases hpl with ⟨z, z3, -⟩ | ⟨z, f, hf, z3, z8, -⟩ | ⟨z, -⟩ | ⟨z, -⟩
    · rw [z, if_neg (by decide), z3]
      exact ⟨rfl, rl_frameOf_no R.2.2.2.2.2.2.2.2.1 R.2.2.2.2.1 hs ha (by rw [z]; decide) (m0 38 (by decide))⟩
    · rw [if_pos z, z3]
      exact ⟨rfl, rl_frameOf R.2.2.2.2.2.2.2.2.1 R.2.2.2.2.1 hs ha hf z3 z8 (m0 38 (by decide))⟩
    · rcases h01 with y | y <;> rw [y] at z <;> exact absurd z (by decide)
    · rcases h01 with y | y <;> rw [y] at z <;> exact absurd z (by decide)
  rw [keep.1, keep.2, pu_bI, eX6_touch_147]
  obtain ⟨alF, gF, mF, RF, FF, ⟨f, hf, eC, eM, h8, G⟩ | ⟨eC, eM, d⟩⟩ := sm_find (keep := gc 5 s 3) ht R0 F0 (by rw [k0 19 (by decide)]; exact hl)
  rotate_left
  · rw [eC, eM, pu_bI, pu_bI, if_pos rfl, if_neg (by decide)]
    exact ⟨be, alF, gF, mF, RF, FF, Or.inr (Or.inl ⟨rfl, rfl, d⟩)⟩
  rw [eC, eM, pu_bI, pu_bI, if_neg (pu_m1 (by omega)), if_pos (pu_ge (x := 0) (k := 0) rfl (by omega) (by omega))]
  obtain ⟨G1, G2, G3, G4, G5, G6⟩ := G
  have hxF : gF 23 t p = nI s := by rw [G5, k0 23 (by decide)]; exact hx
  obtain ⟨-, pxF, pyF⟩ := RF.2.2.1 t p ht hp
  obtain ⟨haF, kdF, kdF2⟩ := pyF s hs hxF
  rw [hxF, rl_bi_s hs] at pxF
  have hndF : 0 < rl_nd alF := Nat.lt_of_lt_of_le hnd (rl_nd_sub (fun r hr z => (G6 r hr z).1))
  obtain ⟨n, hn⟩ : ∃ n, rl_nd alF = n + 1 := ⟨rl_nd alF - 1, by omega⟩
  have hn128 : n < 128 := by have : rl_nd alF ≤ 128 := pu_cn_le _ _; omega
  obtain ⟨q, hq, hq0, hqu⟩ := rl_left RF.2.2.2.2.1
  obtain ⟨s', hs', ha', h4, R1⟩ := rl_new_R RF hn hq hq0
  have hss : s ≠ s' := fun z => by rw [z, ha'] at haF; cases haF
  have h2 : gF 2 0 2 = nI (n + 1) := by rw [← hn]; exact RF.2.2.2.2.2.2.1.1
  have T := lc_take hn128 h2
  rw [h4] at T
  have N := lm_newSheet hq hq0 hqu
  obtain ⟨d2, -⟩ := RF.2.2.2.2.2.1 s' hs' ha'
  have kG : ∀ c, c ≠ 2 → (am_up gF 2 0 2 (nI n)) c = gF c := fun c hc => pu_uf hc
  have kM : ∀ c, c ≠ 33 → c ≠ 36 → c ≠ 37 → (lm_ns mF q) c = mF c := fun c x1 x2 x3 => by unfold lm_ns; rw [pu_ff x2, pu_uf x1, pu_uf x3]
  rw [N, pu_bI, eX6_copyInto, pu_in ht (by omega), pu_g, pu_g, pu_in hp (by omega), pu_g, pu_lv, nI_clamp (show t < 2 ^ 31 by omega), nI_clamp (show p < 2 ^ 31 by omega), hxF, T, pu_bA5, if_neg (pu_lt0 (show s < 2147483648 by omega))]
  generalize am_up gF 2 0 2 (nI n) = gA at R1 kG
  generalize lm_ns mF q = mA at R1 kM
  have bes : rl_to be s' q s = be s := rl_to_i hss
  have bes' : rl_to be s' q s' = q := rl_to_s
  have alS : rl_yes alF s' s = true := by rw [rl_yes_i hss]; exact haF
  have alS' : rl_yes alF s' s' = true := rl_yes_s
  have alO : ∀ r, r ≠ s' → rl_yes alF s' r = alF r := fun r hne => rl_yes_i hne
  generalize rl_to be s' q = be' at R1 bes bes'
  generalize rl_yes alF s' = al' at R1 alS alS' alO
  -- the words
  obtain ⟨X, Y, ⟨R2, kX, kY⟩, u1, u2⟩ := pu_loop2 8 (fun j (X : am_S) => vX6_copyInto_25 (nI t) (nI p) (nI f) (nI s) (nI s') (nI j) X) (fun j (Y : am_S) => vX7_touch_135 (nI t) B2 B3 B4 (nI (16 * t + p)) (nI (be s)) (nI f) 0 (nI q) (nI j) Y) (fun j X Y => rl_R 8 be' al' X Y ∧ (∀ c, c ≠ 6 → X c = gA c) ∧ (∀ c, c ≠ 36 → Y c = mA c)) (fun j X Y hj hP => by
    obtain ⟨r1, r2, r3⟩ := hP
    have hw := (r1.2.2.2.2.2.2.2.1 s hs alS).2.1 j hj
    rw [bes] at hw
    have r1' := rl_word_R (v := X 6 s j) (k := j) r1 hs' alS' hj
    rw [bes'] at r1'
    refine ⟨am_up X 6 s' j (X 6 s j), am_up Y 36 0 (8 * q + j) (X 6 s j), ⟨r1', fun c hc => by rw [pu_uf hc]; exact r2 c hc, fun c hc => by rw [pu_uf hc]; exact r3 c hc⟩, ?_, ?_⟩
    · rw [eX6_copyInto_25, if_neg (pu_nge (x := 8) (k := 8) rfl hj (by omega)), pu_in hs' (by omega), pu_g, pu_in hs (by omega), pu_g, pu_g, pu_in hj (by omega), pu_g, pu_g, pu_g, pu_lt', nI_clamp (show s < 2 ^ 31 by omega), nI_clamp (show s' < 2 ^ 31 by omega), nI_clamp (show j < 2 ^ 31 by omega), nI_1]
    · rw [eX7_touch_135, if_neg (pu_nge (x := 8) (k := 8) rfl hj (by omega)), pu_8, pu_8, pu_in (show 8 * be s + j < 1040 by omega) (by omega), pu_g, pu_in (show 8 * q + j < 1040 by omega) (by omega), pu_g, pu_lt', nI_clamp (show 8 * be s + j < 2 ^ 31 by omega), nI_clamp (show 8 * q + j < 2 ^ 31 by omega), hw, nI_1]) 8 0 gA mA rfl ⟨R1, fun _ _ => rfl, fun _ _ => rfl⟩
  have u1' : vX6_copyInto_25 (nI t) (nI p) (nI f) (nI s) (nI s') 0 gA = vX6_copyInto_25 (nI t) (nI p) (nI f) (nI s) (nI s') (nI 8) X := u1
  have u2' : vX7_touch_135 (nI t) B2 B3 B4 (nI (16 * t + p)) (nI (be s)) (nI f) 0 (nI q) 0 mA = vX7_touch_135 (nI t) B2 B3 B4 (nI (16 * t + p)) (nI (be s)) (nI f) 0 (nI q) (nI 8) Y := u2
  rw [u1', u2', eX6_copyInto_25, if_pos (show (8 : Int32) ≤ nI 8 from by decide), eX7_touch_135, if_pos (show (8 : Int32) ≤ nI 8 from by decide), eX6_copyInto_54, lc_seat hs' hf, pu_bV, pu_in hq (by omega), pu_g, pu_lt', pu_in hf (by omega), pu_g, pu_lt', nI_clamp (show q < 2 ^ 31 by omega), nI_clamp (show f < 2 ^ 31 by omega)]
  -- the new sheet gets its frame
  have x8 : X 8 0 f = -1 := by rw [kX 8 (by decide), kG 8 (by decide)]; exact h8
  have x2 : X 5 s' 2 = 0 := by rw [kX 5 (by decide), kG 5 (by decide)]; exact d2
  have RS := rl_seat_R (u := 1) R2 hs' alS' hf x8 (Or.inl x2) (Or.inr rfl)
  rw [bes'] at RS
  have y40 : Y 40 0 f = 0 := by
    obtain ⟨-, -, -, a4, -, -, a7, -⟩ := R2.2.2.2.2.2.2.2.2.1 f hf
    rw [a4]; exact (a7 x8).2
  have eS : lm_st Y q f 1 = am_up (am_up (am_up Y 33 0 q 1) 38 0 f (nI q)) 39 0 f 1 := by
    unfold lm_st
    exact rl_up_id (by rw [pu_uf (by decide), pu_uf (by decide), pu_uf (by decide)]; exact y40)
  rw [eS] at RS
  have cS : ∀ c, 19 ≤ c → (lc_st X s' f 1) c = gF c := fun c hc => by rw [lc_st_f (by omega) (by omega) (by omega) (by omega), kX c (by omega), kG c (by omega)]
  have y31 : (am_up (am_up Y 33 0 q 1) 38 0 f (nI q)) 31 0 (16 * t + p) = nI (be s) := by rw [pu_uf (by decide), pu_uf (by decide), kY 31 (by decide), kM 31 (by decide) (by decide) (by decide)]; exact pxF
  have y32 : (am_up (am_up Y 33 0 q 1) 38 0 f (nI q)) 32 0 (16 * t + p) = gF 22 t p := by rw [pu_uf (by decide), pu_uf (by decide), kY 32 (by decide), kM 32 (by decide) (by decide) (by decide)]; exact kdF
  have sq : (lc_st X s' f 1) 5 s' 2 = 1 ∧ (lc_st X s' f 1) 5 s' 3 = nI f ∧ (lc_st X s' f 1) 8 0 f = nI s' := ⟨lc_st_2, lc_st_3, lc_st_8⟩
  have FS : rl_fx s' al' (lc_st X s' f 1) := by
    intro r hr z hne
    rw [rl_pc_congr (cS 23 (by omega))]
    rw [alO r hne] at z
    exact FF r hr z (by omega)
  have x23 : (lc_st X s' f 1) 23 t p = nI s := by rw [cS 23 (by omega)]; exact hxF
  generalize lc_st X s' f 1 = g3 at RS FS cS sq x23
  generalize am_up (am_up Y 33 0 q 1) 38 0 f (nI q) = M2 at RS y31 y32
  have hne : ¬ nI s = nI s' := fun z => hss (pu_inj (by omega) (by omega) z)
  obtain ⟨alU, gU, mU', eU, eV, RU, FU, KU, ⟨u19, u20, u21, u22, u23⟩, -, al4⟩ := sm_unmap (x := s') RS FS ht hp (fun _ => by rw [x23]; exact hne)
  have aU : alU s' = true := al4 s' hs' alS' (Or.inr (by rw [x23]; exact hne))
  obtain ⟨m, em, ag, e32⟩ := lm_unmap_39 hK (Or.inr ⟨be s, hbs, y31⟩) eV
  rw [eU, em, pu_bV, pu_bV, pu_in hK (by omega), pu_g, pu_lt', nI_clamp (show 16 * t + p < 2 ^ 31 by omega), pu_in ht (by omega), pu_g, pu_g, pu_in hp (by omega), pu_g, pu_g, nI_clamp (show t < 2 ^ 31 by omega), nI_clamp (show p < 2 ^ 31 by omega)]
  have kd : gU 22 t p = gF 22 t p := by rw [u22, cS 22 (by omega)]
  rw [kd, lc_map' ht hp hs', pu_bV, pu_bA5]
  have uM : gU 23 t p = -1 := by rw [u23, pu_us]
  have lv : gU 19 t 4 = 1 := by rw [u19, cS 19 (by omega), G1, k0 19 (by decide)]; exact hl
  obtain ⟨RM, m23⟩ := rl_map_R (k := gF 22 t p) RU ht hp hs' aU uM kdF2 (fun _ => lv)
  rw [bes'] at RM
  have FM : rl_fx 128 alU (lc_mp gU t p s' (gF 22 t p)) := rl_fx_map FU ht hp hs' uM m23 (Or.inl rfl)
  obtain ⟨-, -, v⟩ := KU s' hs' aU
  have n2 : (lc_mp gU t p s' (gF 22 t p)) 5 s' 2 = 1 := by unfold lc_mp; rw [pu_uj (by decide), pu_uf (by decide), pu_uf (by decide), v 2 (by decide)]; exact sq.1
  have n3 : (lc_mp gU t p s' (gF 22 t p)) 5 s' 3 = nI f := by unfold lc_mp; rw [pu_uj (by decide), pu_uf (by decide), pu_uf (by decide), v 3 (by decide)]; exact sq.2.1
  have n8 : (lc_mp gU t p s' (gF 22 t p)) 8 0 f = nI s' := by
    rcases (RM.2.2.2.2.2.2.2.1 s' hs' aU).2.2 with ⟨z, -⟩ | ⟨z, f', hf', z3, z8, -⟩ | ⟨z, -⟩ | ⟨z, -⟩
    · rw [n2] at z; exact absurd z (by decide)
    · rw [n3] at z3
      have := pu_inj (by omega) (by omega) z3
      rw [this]; exact z8
    · rw [n2] at z; exact absurd z (by decide)
    · rw [n2] at z; exact absurd z (by decide)
  have n19 : (lc_mp gU t p s' (gF 22 t p)) 19 = gF 19 := by unfold lc_mp; rw [pu_uf (by decide), pu_uf (by decide), pu_uf (by decide), u19, cS 19 (by omega)]
  have n20 : (lc_mp gU t p s' (gF 22 t p)) 20 = gF 20 := by unfold lc_mp; rw [pu_uf (by decide), pu_uf (by decide), pu_uf (by decide), u20, cS 20 (by omega)]
  have n23 : (lc_mp gU t p s' (gF 22 t p)) 23 t p = nI s' := by rw [m23, pu_us]
  -- the reference's store, but for the mark USED of f
  have m5 : ag_ f (am_up m 31 0 (16 * t + p) (nI q)) (lm_mpp mU' (16 * t + p) q (gF 22 t p)) := by
    have hm : am_up m 31 0 (16 * t + p) (nI q) = lm_mpp m (16 * t + p) q (gF 22 t p) := by
      unfold lm_mpp
      exact (rl_up_id (by rw [pu_uf (by decide), e32]; exact y32)).symm
    rw [hm]
    unfold lm_mpp
    exact ag_up (ag_up ag)
  have v39 : (lm_mpp mU' (16 * t + p) q (gF 22 t p)) = am_up (lm_mpp mU' (16 * t + p) q (gF 22 t p)) 39 0 f ((lm_mpp mU' (16 * t + p) q (gF 22 t p)) 39 0 f) := (rl_up_id rfl).symm
  rw [v39, ← ag_39 m5] at RM
  have z31 : (am_up m 31 0 (16 * t + p) (nI q)) 31 0 (16 * t + p) = nI (be' s') := by rw [pu_us, bes']
  obtain ⟨gZ, mZ, eZ, eW, RZ, kZ⟩ := sm_mark (t := t) (K := 16 * t + p) (A1 := nI t) (A2 := A2) (A3 := A3) (A5 := nI p) (A6 := 1) (A7 := some (.inl (nI f))) (B1 := nI t) (B2 := B2) (B3 := B3) (B4 := B4) (B6 := nI (be s)) (B8 := 0) (B9 := some (.inl (nI q))) (B10 := some (.inl (nI 8))) RM hs' aU hf n2 n3 n8 hK z31 (Or.inr ⟨hA, hB⟩)
  refine ⟨be', alU, gZ, mZ, RZ, rl_fx_23 FM (kZ 23 (by omega)), Or.inr (Or.inr ⟨s', hs', eZ, eW, ?_, ?_, ?_⟩)⟩
  · rw [kZ 23 (by omega)]; exact n23
  · rw [kZ 19 (by omega), n19, G1, k0 19 (by decide)]
  · rw [kZ 20 (by omega), n20, G2, k0 20 (by decide)]
