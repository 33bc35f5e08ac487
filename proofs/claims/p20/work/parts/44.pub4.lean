/-! free and area -/
/-- a count of pages: both sides' tests of page and count -/
theorem sm_page (x : Int32) (gc Y : am_S) : (∃ p, p < 16 ∧ x = nI p ∧ vX6_needPage x gc = some (.inl none, gc) ∧ vX7_isNumber x 16 Y = some (.inl (some (.inl 1)), Y)) ∨ (vX6_needPage x gc = some (.inr 1, gc) ∧ vX7_isNumber x 16 Y = some (.inl (some (.inl 0)), Y)) := by
  rw [eX6_needPage]
  rcases sm_num (n := 16) (by omega) x Y with ⟨p, hp, rfl, e⟩ | ⟨hx, e⟩
  · refine Or.inl ⟨p, hp, rfl, ?_, e⟩
    rw [if_neg (pu_lt0 (by omega)), if_pos (pu_lt (x := 16) (k := 16) rfl hp (by omega))]
  · refine Or.inr ⟨?_, e⟩
    rcases hx with z | ⟨z, w⟩
    · rw [if_pos z]
    · obtain ⟨j, hj, rfl⟩ := nI_of z
      have : ¬ nI j < 16 := fun o => by
        have w : nI 16 ≤ nI j := w
        have := (nI_leI (by omega) hj).mp w
        exact pu_nlt (x := 16) (k := 16) rfl this (by omega) o
      rw [if_neg z, if_neg this]
theorem sm_count (x : Int32) (gc : am_S) : (∃ n, 1 ≤ n ∧ n ≤ 16 ∧ x = nI n ∧ vX6_needCount x gc = some (.inl none, gc) ∧ ¬ x < 1 ∧ x ≤ 16) ∨ (vX6_needCount x gc = some (.inr 2, gc) ∧ (x < 1 ∨ (¬ x < 1 ∧ ¬ x ≤ 16))) := by
  rw [eX6_needCount]
  by_cases h1 : x < 1
  · rw [if_pos h1]; exact Or.inr ⟨rfl, Or.inl h1⟩
  · rw [if_neg h1]
    by_cases h2 : x ≤ 16
    · rw [if_pos h2]
      have h0 : ¬ x < 0 := fun z => h1 (Int32.lt_iff_toInt_lt.mpr (by have := Int32.lt_iff_toInt_lt.mp z; rw [show (0 : Int32).toInt = 0 from by decide] at this; rw [show (1 : Int32).toInt = 1 from by decide]; omega))
      obtain ⟨j, hj, rfl⟩ := nI_of h0
      have a : j ≤ 16 := (nI_leI (a := j) (b := 16) hj (by omega)).mp h2
      have b : 1 ≤ j := by
        rcases Nat.lt_or_ge j 1 with o | o
        · exact absurd (pu_lt (x := 1) (k := 1) rfl o (by omega)) h1
        · exact o
      exact Or.inl ⟨j, b, a, rfl, rfl, h1, h2⟩
    · rw [if_neg h2]; exact Or.inr ⟨rfl, Or.inr ⟨h1, h2⟩⟩
/-- are the pages mapped -/
theorem sm_mapped {be : Nat → Nat} {al : Nat → Bool} {gc gm Y : am_S} {t p n : Nat} (hpg : rl_pg be al gc gm) (hal : rl_al be al gm) (hY : Y 31 = gm 31) (ht : t < 8) (hp : p < 16) (hn : n ≤ 16) :
    (p + n ≤ 16 ∧ (∀ i, p ≤ i → i < p + n → ¬ gc 23 t i = -1) ∧ vX6_needMapped (nI t) (nI p) (nI n) gc = some (.inl none, gc) ∧ vX7_areMapped (nI t) (nI p) (nI n) Y = some (.inl (some (.inl 1)), Y)) ∨
    (vX6_needMapped (nI t) (nI p) (nI n) gc = some (.inr 3, gc) ∧ vX7_areMapped (nI t) (nI p) (nI n) Y = some (.inl (some (.inl 0)), Y)) := by
  rw [eX6_needMapped, eX7_areMapped, nI_add]
  by_cases h16 : p + n ≤ 16
  · rw [if_pos (pu_le (x := 16) (k := 16) rfl h16 (by omega)), if_neg (pu_ngt (x := 16) (k := 16) rfl h16 (by omega))]
    have L := pu_loop2E (p + n) (fun j (_ : Unit) => vX6_needMapped_22 (nI t) (nI p) (nI n) (nI j) gc) (fun j (_ : Unit) => vX7_areMapped_18 (nI t) (nI p) (nI n) 1 (nI j) Y) (fun j _ _ => p ≤ j ∧ ∀ i, p ≤ i → i < j → ¬ gc 23 t i = -1)
      (fun v u => v = some (.inr 3, gc) ∧ u = some (.inl (some (.inl 0)), Y)) (fun j _ _ hj hP => by
      show (∃ x' y' : Unit, (p ≤ j + 1 ∧ ∀ i, p ≤ i → i < j + 1 → ¬ gc 23 t i = -1) ∧ vX6_needMapped_22 (nI t) (nI p) (nI n) (nI j) gc = vX6_needMapped_22 (nI t) (nI p) (nI n) (nI (j + 1)) gc ∧ vX7_areMapped_18 (nI t) (nI p) (nI n) 1 (nI j) Y = vX7_areMapped_18 (nI t) (nI p) (nI n) 1 (nI (j + 1)) Y) ∨ (vX6_needMapped_22 (nI t) (nI p) (nI n) (nI j) gc = some (.inr 3, gc) ∧ vX7_areMapped_18 (nI t) (nI p) (nI n) 1 (nI j) Y = some (.inl (some (.inl 0)), Y))
      obtain ⟨o1, o2, o3⟩ := hpg t j ht (by omega)
      rw [eX6_needMapped_22, eX7_areMapped_18, nI_add, if_neg (nI_ge hj (by omega)), if_neg (nI_ge hj (by omega)), if_neg (show ¬ (1 : Int32) = 0 by decide), pu_in ht (by omega), pu_g, pu_g, pu_in (show j < 16 by omega) (by omega), pu_g, pu_16, pu_in (show 16 * t + j < 128 by omega) (by omega), pu_g, nI_clamp (show t < 2 ^ 31 by omega), nI_clamp (show j < 2 ^ 31 by omega), nI_clamp (show 16 * t + j < 2 ^ 31 by omega), hY, o2, nI_1]
      rcases o1 with z | ⟨s, hs, z⟩
      · rw [z, rl_bi_m, if_pos pu_neg, if_pos pu_neg]
        refine Or.inr ⟨rfl, ?_⟩
        rw [eX7_areMapped_18, pu_b0, pu_g, if_pos rfl]
        split <;> rfl
      · have hb := (hal.1 s hs (o3 s hs z).1).1
        rw [z, rl_bi_s hs, if_neg (pu_lt0 (by omega)), if_neg (pu_lt0 (by omega))]
        refine Or.inl ⟨(), (), ⟨by omega, fun i i1 i2 => ?_⟩, rfl, rfl⟩
        by_cases e : i = j
        · rw [e, z]; exact pu_m1 (by omega)
        · exact hP.2 i i1 (by omega)) n p () () rfl ⟨Nat.le_refl _, fun i i1 i2 => by omega⟩
    rcases L with ⟨_, _, hP, e1, e2⟩ | L
    · refine Or.inl ⟨h16, hP.2, ?_, ?_⟩
      · rw [e1, eX6_needMapped_22, nI_add, if_pos (nI_le (Nat.le_refl _) (by omega))]
      · rw [e2, eX7_areMapped_18, nI_add, if_pos (nI_le (Nat.le_refl _) (by omega)), pu_b1, pu_g]
    · exact Or.inr L
  · rw [if_neg (pu_nle (x := 16) (k := 16) rfl (by omega) (by omega)), if_pos (pu_gt (x := 16) (k := 16) rfl (by omega) (by omega))]
    refine Or.inr ⟨rfl, ?_⟩
    rw [eX7_areMapped_18, pu_b0, pu_g, if_pos rfl]
    split <;> rfl
/-- are the pages free -/
theorem sm_unmapped {be : Nat → Nat} {al : Nat → Bool} {gc gm Y : am_S} {t p n : Nat} (hpg : rl_pg be al gc gm) (hal : rl_al be al gm) (hY : Y 31 = gm 31) (ht : t < 8) (hp : p < 16) (hn : n ≤ 16) :
    (p + n ≤ 16 ∧ (∀ i, p ≤ i → i < p + n → gc 23 t i = -1) ∧ vX6_needUnmapped (nI t) (nI p) (nI n) gc = some (.inl none, gc) ∧ vX7_areFree (nI t) (nI p) (nI n) Y = some (.inl (some (.inl 1)), Y)) ∨
    (vX6_needUnmapped (nI t) (nI p) (nI n) gc = some (.inr 3, gc) ∧ vX7_areFree (nI t) (nI p) (nI n) Y = some (.inl (some (.inl 0)), Y)) := by
  rw [eX6_needUnmapped, eX7_areFree, nI_add]
  by_cases h16 : p + n ≤ 16
  · rw [if_pos (pu_le (x := 16) (k := 16) rfl h16 (by omega)), if_neg (pu_ngt (x := 16) (k := 16) rfl h16 (by omega))]
    have L := pu_loop2E (p + n) (fun j (_ : Unit) => vX6_needUnmapped_22 (nI t) (nI p) (nI n) (nI j) gc) (fun j (_ : Unit) => vX7_areFree_18 (nI t) (nI p) (nI n) 1 (nI j) Y) (fun j _ _ => p ≤ j ∧ ∀ i, p ≤ i → i < j → gc 23 t i = -1)
      (fun v u => v = some (.inr 3, gc) ∧ u = some (.inl (some (.inl 0)), Y)) (fun j _ _ hj hP => by
      show (∃ x' y' : Unit, (p ≤ j + 1 ∧ ∀ i, p ≤ i → i < j + 1 → gc 23 t i = -1) ∧ vX6_needUnmapped_22 (nI t) (nI p) (nI n) (nI j) gc = vX6_needUnmapped_22 (nI t) (nI p) (nI n) (nI (j + 1)) gc ∧ vX7_areFree_18 (nI t) (nI p) (nI n) 1 (nI j) Y = vX7_areFree_18 (nI t) (nI p) (nI n) 1 (nI (j + 1)) Y) ∨ (vX6_needUnmapped_22 (nI t) (nI p) (nI n) (nI j) gc = some (.inr 3, gc) ∧ vX7_areFree_18 (nI t) (nI p) (nI n) 1 (nI j) Y = some (.inl (some (.inl 0)), Y))
      obtain ⟨o1, o2, o3⟩ := hpg t j ht (by omega)
      rw [eX6_needUnmapped_22, eX7_areFree_18, nI_add, if_neg (nI_ge hj (by omega)), if_neg (nI_ge hj (by omega)), if_neg (show ¬ (1 : Int32) = 0 by decide), pu_in ht (by omega), pu_g, pu_g, pu_in (show j < 16 by omega) (by omega), pu_g, pu_16, pu_in (show 16 * t + j < 128 by omega) (by omega), pu_g, nI_clamp (show t < 2 ^ 31 by omega), nI_clamp (show j < 2 ^ 31 by omega), nI_clamp (show 16 * t + j < 2 ^ 31 by omega), hY, o2, nI_1]
      rcases o1 with z | ⟨s, hs, z⟩
      · rw [z, rl_bi_m, if_pos pu_neg, if_neg (by decide)]
        refine Or.inl ⟨(), (), ⟨by omega, fun i i1 i2 => ?_⟩, rfl, rfl⟩
        by_cases e : i = j
        · rw [e, z]
        · exact hP.2 i i1 (by omega)
      · have hb := (hal.1 s hs (o3 s hs z).1).1
        rw [z, rl_bi_s hs, if_neg (pu_lt0 (by omega)), if_pos (pu_ge (x := 0) (k := 0) rfl (by omega) (by omega))]
        refine Or.inr ⟨rfl, ?_⟩
        rw [eX7_areFree_18, pu_b0, pu_g, if_pos rfl]
        split <;> rfl) n p () () rfl ⟨Nat.le_refl _, fun i i1 i2 => by omega⟩
    rcases L with ⟨_, _, hP, e1, e2⟩ | L
    · refine Or.inl ⟨h16, hP.2, ?_, ?_⟩
      · rw [e1, eX6_needUnmapped_22, nI_add, if_pos (nI_le (Nat.le_refl _) (by omega))]
      · rw [e2, eX7_areFree_18, nI_add, if_pos (nI_le (Nat.le_refl _) (by omega)), pu_b1, pu_g]
    · exact Or.inr L
  · rw [if_neg (pu_nle (x := 16) (k := 16) rfl (by omega) (by omega)), if_pos (pu_gt (x := 16) (k := 16) rfl (by omega) (by omega))]
    refine Or.inr ⟨rfl, ?_⟩
    rw [eX7_areFree_18, pu_b0, pu_g, if_pos rfl]
    split <;> rfl
theorem sm_free {gc gm : am_S} (x y z : Int32) (h : rl_Q gc gm) : sm_OV th_123 (vX6_free x y z gc) (vX7_free x y z gm) := by
  obtain ⟨be, al, R, F⟩ := h
  -- thrown: no page is touched
  have no : ∀ (v : Int32), ¬ v = 0 → ∀ a b : Int32, vX7_free_58 x a b a (am_up gm 24 0 0 v) = some (.inl none, am_up gm 24 0 0 v) := fun v hv a b => by
    rw [eX7_free_58, pu_us, if_neg hv]
    split <;> rfl
  have bad : ∀ (e : Nat) (v : Int32), th_123 e = v → ¬ v = 0 → sm_OV th_123 (some (.inr e, gc)) (some (.inl none, am_up gm 24 0 0 v)) := fun e v he hv => ⟨gc, _, ⟨be, al, rl_thr_R R, F⟩, rfl, Or.inr ⟨e, rfl, by rw [pu_us, he], by rw [he]; exact hv⟩⟩
  rw [eX6_free, eX7_free]
  rcases sm_living R.1 rfl x with ⟨e1, e2⟩ | ⟨t, ht, rfl, hl, e1, e2⟩
  · rw [e1, e2, pu_bAx, pu_bI, if_pos rfl, pu_lt', no 1 (by decide)]
    exact bad 1 1 rfl (by decide)
  · rw [e1, e2, pu_bA19, pu_bI, if_neg (by decide)]
    rcases sm_page y gc gm with ⟨p, hp, rfl, e3, e4⟩ | ⟨e3, e4⟩
    · rw [e3, e4, pu_bV, pu_bI, if_neg (by decide)]
      rcases sm_count z gc with ⟨n, n1, n2, rfl, e5, c1, c2⟩ | ⟨e5, c⟩
      · rw [e5, pu_bV, if_neg c1, if_pos c2]
        rcases sm_mapped (Y := gm) R.2.2.1 R.2.2.2.2.1 rfl ht hp n2 with ⟨h16, hm, e6, e7⟩ | ⟨e6, e7⟩
        · rw [e6, e7, pu_bV, pu_bI, if_neg (by decide), pu_lt']
          obtain ⟨X, Y, hP, u1, u2⟩ := pu_loop2 (p + n) (fun j (X : (Nat → Bool) × am_S) => vX6_free_28 (nI t) (nI p) (nI n) (nI t) (nI j) X.2) (fun j (Y : am_S) => vX7_free_58 (nI t) (nI p) (nI n) (nI j) Y) (fun j X Y => p ≤ j ∧ rl_R 8 be X.1 X.2 Y ∧ rl_fx 128 X.1 X.2 ∧ Y 24 0 0 = 0) (fun j X Y hj hp => by
            obtain ⟨p0, p1, p2, p3⟩ := hp
            obtain ⟨al', gc', gm', c, m, s1, s2, -⟩ := sm_unmap p1 p2 ht (show j < 16 by omega) (fun w => by omega)
            have k := mK_00 (qX7_unmap _ _ m)
            refine ⟨(al', gc'), gm', ⟨by omega, s1, s2, k.trans p3⟩, ?_, ?_⟩
            · show vX6_free_28 (nI t) (nI p) (nI n) (nI t) (nI j) X.2 = vX6_free_28 (nI t) (nI p) (nI n) (nI t) (nI (j + 1)) gc'
              rw [eX6_free_28, nI_add, if_neg (nI_ge hj (by omega)), c, pu_bV, nI_1]
            · rw [eX7_free_58, nI_add, if_neg (nI_ge hj (by omega)), if_pos p3, pu_16, m, pu_bV, nI_1]) n p (al, gc) (am_up gm 24 0 0 0) rfl ⟨Nat.le_refl _, rl_thr_R R, F, pu_us⟩
          obtain ⟨-, p1, p2, p3⟩ := hP
          refine ⟨X.2, Y, ⟨be, X.1, p1, p2⟩, ?_, Or.inl ⟨?_, p3⟩⟩
          · rw [u2, eX7_free_58, nI_add, if_pos (nI_le (Nat.le_refl _) (by omega))]
          · refine Eq.trans u1 ?_
            rw [eX6_free_28, nI_add, if_pos (nI_le (Nat.le_refl _) (by omega))]
        · rw [e6, e7, pu_bVx, pu_bI, if_pos rfl, pu_lt', no 3 (by decide)]
          exact bad 3 3 rfl (by decide)
      · rw [e5, pu_bVx]
        rcases c with c | ⟨c1, c2⟩
        · rw [if_pos c, pu_lt', no 2 (by decide)]
          exact bad 2 2 rfl (by decide)
        · rw [if_neg c1, if_neg c2, pu_lt', no 2 (by decide)]
          exact bad 2 2 rfl (by decide)
    · rw [e3, e4, pu_bVx, pu_bI, if_pos rfl, pu_lt', no 1 (by decide)]
      exact bad 1 1 rfl (by decide)
theorem sm_area {gc gm : am_S} (x y z k : Int32) (h : rl_Q gc gm) : sm_OV th_123 (vX6_area x y z k gc) (vX7_area x y z k gm) := by
  obtain ⟨be, al, R, F⟩ := h
  have no : ∀ (v : Int32), ¬ v = 0 → ∀ a b : Int32, vX7_area_69 x a b k a (am_up gm 24 0 0 v) = some (.inl none, am_up gm 24 0 0 v) := fun v hv a b => by
    rw [eX7_area_69, pu_us, if_neg hv]
    split <;> rfl
  have bad : ∀ (e : Nat) (v : Int32), th_123 e = v → ¬ v = 0 → sm_OV th_123 (some (.inr e, gc)) (some (.inl none, am_up gm 24 0 0 v)) := fun e v he hv => ⟨gc, _, ⟨be, al, rl_thr_R R, F⟩, rfl, Or.inr ⟨e, rfl, by rw [pu_us, he], by rw [he]; exact hv⟩⟩
  rw [eX6_area, eX7_area]
  rcases sm_living R.1 rfl x with ⟨e1, e2⟩ | ⟨t, ht, rfl, hl, e1, e2⟩
  · rw [e1, e2, pu_bAx, pu_bI, if_pos rfl, pu_lt', no 1 (by decide)]
    exact bad 1 1 rfl (by decide)
  · rw [e1, e2, pu_bA19, pu_bI, if_neg (by decide)]
    rcases sm_page y gc gm with ⟨p, hp, rfl, e3, e4⟩ | ⟨e3, e4⟩
    · rw [e3, e4, pu_bV, pu_bI, if_neg (by decide)]
      rcases sm_count z gc with ⟨n, n1, n2, rfl, e5, c1, c2⟩ | ⟨e5, c⟩
      · have c3 : ¬ (16 : Int32) < nI n := pu_ngt (x := 16) (k := 16) rfl n2 (by omega)
        rw [e5, pu_bV, if_neg c1, if_neg c3]
        by_cases k0 : k < 0
        · rw [if_pos k0, if_pos k0, pu_lt', no 2 (by decide)]
          exact bad 2 2 rfl (by decide)
        · rw [if_neg k0, if_neg k0]
          by_cases k2 : k ≤ 2
          · rw [if_pos k2, if_pos k2]
            have hk : k = 0 ∨ k = 1 ∨ k = 2 := by
              obtain ⟨j, hj, rfl⟩ := nI_of k0
              have : j ≤ 2 := (nI_leI (a := j) (b := 2) hj (by omega)).mp k2
              rcases j with _ | _ | _ | j
              · exact Or.inl rfl
              · exact Or.inr (Or.inl rfl)
              · exact Or.inr (Or.inr rfl)
              · omega
            rcases sm_unmapped (Y := gm) R.2.2.1 R.2.2.2.2.1 rfl ht hp n2 with ⟨h16, hm, e6, e7⟩ | ⟨e6, e7⟩
            · rw [e6, e7, pu_bV, pu_bI, if_neg (by decide), pu_lt']
              obtain ⟨X, Y, hP, u1, u2⟩ := pu_loop2 (p + n) (fun j (X : (Nat → Nat) × (Nat → Bool) × am_S) => vX6_area_49 (nI t) (nI p) (nI n) k (nI t) (nI j) X.2.2) (fun j (Y : am_S) => vX7_area_69 (nI t) (nI p) (nI n) k (nI j) Y) (fun j X Y => p ≤ j ∧ rl_R 8 X.1 X.2.1 X.2.2 Y ∧ rl_fx 128 X.2.1 X.2.2 ∧ Y 24 0 0 = 0 ∧ X.2.2 19 t 4 = 1 ∧ ∀ i, j ≤ i → i < p + n → X.2.2 23 t i = -1) (fun j X Y hj hp => by
                obtain ⟨p0, p1, p2, p3, p4, p5⟩ := hp
                obtain ⟨be', al', s, q, g1, m1, hs, hq, T, Mp, N, R', F', a1, a2, a3, a4⟩ := sm_newpage (k := k) p1 p2 ht (show j < 16 by omega) (p5 j (Nat.le_refl _) hj) hk p4
                refine ⟨(be', al', lc_mp g1 t j s k), lm_mpp m1 (16 * t + j) q k, ⟨by omega, R', F', ?_, ?_, fun i i1 i2 => ?_⟩, ?_, ?_⟩
                · show (lm_mpp m1 (16 * t + j) q k) 24 0 0 = 0
                  unfold lm_mpp
                  rw [pu_uf (by decide), pu_uf (by decide), a4]; exact p3
                · show (lc_mp g1 t j s k) 19 t 4 = 1
                  rw [a2]; exact p4
                · show (lc_mp g1 t j s k) 23 t i = -1
                  rw [a3, pu_uj (by omega)]
                  exact p5 i (by omega) i2
                · show vX6_area_49 (nI t) (nI p) (nI n) k (nI t) (nI j) X.2.2 = vX6_area_49 (nI t) (nI p) (nI n) k (nI t) (nI (j + 1)) (lc_mp g1 t j s k)
                  rw [eX6_area_49, nI_add, if_neg (nI_ge hj (by omega)), T, pu_bA5, pu_in ht (by omega), pu_g, Mp, pu_bV, nI_1]
                · rw [eX7_area_69, nI_add, if_neg (nI_ge hj (by omega)), if_pos p3, N, pu_bI, pu_16, pu_in (show 16 * t + j < 128 by omega) (by omega), pu_g, pu_lt', pu_g, pu_lt', nI_clamp (by omega), nI_1]
                  rfl) n p (be, al, gc) (am_up gm 24 0 0 0) rfl ⟨Nat.le_refl _, rl_thr_R R, F, pu_us, hl, fun i i1 i2 => hm i i1 i2⟩
              obtain ⟨-, p1, p2, p3, -⟩ := hP
              refine ⟨X.2.2, Y, ⟨X.1, X.2.1, p1, p2⟩, ?_, Or.inl ⟨?_, p3⟩⟩
              · rw [u2, eX7_area_69, nI_add, if_pos (nI_le (Nat.le_refl _) (by omega))]
              · refine Eq.trans u1 ?_
                rw [eX6_area_49, nI_add, if_pos (nI_le (Nat.le_refl _) (by omega))]
            · rw [e6, e7, pu_bVx, pu_bI, if_pos rfl, pu_lt', no 3 (by decide)]
              exact bad 3 3 rfl (by decide)
          · rw [if_neg k2, if_neg k2, pu_lt', no 2 (by decide)]
            exact bad 2 2 rfl (by decide)
      · rw [e5, pu_bVx]
        rcases c with c | ⟨c1, c2⟩
        · rw [if_pos c, pu_lt', no 2 (by decide)]
          exact bad 2 2 rfl (by decide)
        · have c3 : (16 : Int32) < z := Int32.not_le.mp c2
          rw [if_neg c1, if_pos c3, pu_lt', no 2 (by decide)]
          exact bad 2 2 rfl (by decide)
    · rw [e3, e4, pu_bVx, pu_bI, if_pos rfl, pu_lt', no 1 (by decide)]
      exact bad 1 1 rfl (by decide)
