/-! words that are read and written, on both sides -/
theorem rl_word_R {ex : Nat} {be : Nat → Nat} {al : Nat → Bool} {gc gm : am_S} {s k : Nat} {v : Int32} (h : rl_R ex be al gc gm) (hs : s < 128) (ha : al s = true) (hk : k < 8) : rl_R ex be al (am_up gc 6 s k v) (am_up gm 36 0 (8 * be s + k) v) := by
  obtain ⟨htk, hrg, hpg, hmp, hal, hdd, hsp, hsh, hfr, hhd, har, hpk, hs1, hs2⟩ := h
  have c : ∀ f, f ≠ 6 → (am_up gc 6 s k v) f = gc f := fun f hf => pu_uf hf
  have m : ∀ f, f ≠ 36 → (am_up gm 36 0 (8 * be s + k) v) f = gm f := fun f hf => pu_uf hf
  refine ⟨?_, ?_, ?_, ?_, ?_, ?_, ?_, ?_, ?_, ?_, ?_, ?_, ?_, ?_⟩
  · unfold rl_tk; rw [c 19 (by decide), c 23 (by decide), m 25 (by decide), m 26 (by decide), m 27 (by decide)]; exact htk
  · unfold rl_rg; rw [c 19 (by decide), c 20 (by decide), c 21 (by decide), m 28 (by decide), m 29 (by decide), m 30 (by decide)]; exact hrg
  · unfold rl_pg; rw [c 22 (by decide), c 23 (by decide), m 31 (by decide), m 32 (by decide)]; exact hpg
  · intro r hr; rw [rl_pc_congr (c 23 (by decide)), c 5 (by decide)]; exact hmp r hr
  · unfold rl_al; rw [m 37 (by decide)]; exact hal
  · intro r hr hr2
    have e : r ≠ s := fun w => by rw [w, ha] at hr2; cases hr2
    rw [c 5 (by decide), pu_ui e]
    exact hdd r hr hr2
  · unfold rl_sp; rw [c 2 (by decide), c 4 (by decide)]; exact hsp
  · intro r hr hr2
    rw [c 5 (by decide), c 8 (by decide), c 10 (by decide), c 12 (by decide), m 33 (by decide), m 34 (by decide), m 35 (by decide)]
    obtain ⟨a1, a2, a3⟩ := hsh r hr hr2
    refine ⟨a1, fun j hj => ?_, a3⟩
    rw [pu_ub, pu_ub]
    by_cases e : r = s ∧ j = k
    · rw [if_pos e, if_pos ⟨rfl, by rw [e.1, e.2]⟩]
    · rw [if_neg e, if_neg]
      · exact a2 j hj
      · intro w
        have q : be r = be s := by omega
        exact e ⟨hal.2.1 r s hr hs hr2 ha q, by omega⟩
  · unfold rl_fr; rw [c 5 (by decide), c 8 (by decide), c 9 (by decide), c 10 (by decide), m 38 (by decide), m 39 (by decide), m 40 (by decide)]; exact hfr
  · unfold rl_hd; rw [c 7 (by decide), m 24 (by decide)]; exact hhd
  · unfold rl_ar rl_in; rw [c 5 (by decide), c 12 (by decide)]; exact har
  · unfold rl_pk; rw [c 11 (by decide), m 33 (by decide), m 37 (by decide)]; exact hpk
  · unfold rl_s1; rw [c 5 (by decide), c 15 (by decide), c 16 (by decide), c 17 (by decide), m 41 (by decide), m 42 (by decide), m 43 (by decide), m 44 (by decide)]; exact hs1
  · unfold rl_s2; rw [c 5 (by decide), m 41 (by decide)]; exact hs2
theorem lc_addr (x : Int32) (g : am_S) : (∃ a, a < 128 ∧ x = nI a ∧ vX6_needAddress x g = some (.inl none, g)) ∨ ((x < 0 ∨ (¬ x < 0 ∧ (128 : Int32) ≤ x)) ∧ vX6_needAddress x g = some (.inr 1, g)) := by
  rw [eX6_needAddress]
  by_cases h0 : x < 0
  · rw [if_pos h0]; exact Or.inr ⟨Or.inl h0, rfl⟩
  · rw [if_neg h0]
    by_cases h1 : x < 128
    · rw [if_pos h1]
      obtain ⟨j, hj, rfl⟩ := nI_of h0
      exact Or.inl ⟨j, (nI_ltI (a := j) (b := 128) hj (by omega)).mp h1, rfl, rfl⟩
    · rw [if_neg h1]; exact Or.inr ⟨Or.inr ⟨h0, Int32.not_lt.mp h1⟩, rfl⟩
theorem lm_acc1 {a1 a2 a3 a4 : Int32} {g : am_S} : vX7_access_24 a1 a2 a3 a4 1 g = some (.inl (some (.inl (-1))), am_up g 24 0 0 1) := by
  rw [eX7_access_24, pu_lt', pu_us, if_neg (by decide)]
/-- how an access comes out -/
theorem sm_acc {w b3 b4 : Int32} (H : sm_TO w b3 b4) {gc gm : am_S} (x y : Int32) (Q : rl_Q gc gm) :
    (vX7_access x y b3 b4 gm = some (.inl (some (.inl (-1))), am_up gm 24 0 0 1) ∧ (vX6_living x gc = some (.inr 1, gc) ∨ (vX6_living x gc = some (.inl (some (.inr (.inr (19, x)))), gc) ∧ vX6_needAddress y gc = some (.inr 1, gc)))) ∨
    ∃ t a, t < 8 ∧ a < 128 ∧ x = nI t ∧ y = nI a ∧ vX6_living x gc = some (.inl (some (.inr (.inr (19, x)))), gc) ∧ vX6_needAddress y gc = some (.inl none, gc) ∧ ∃ be al gc' gm', rl_R 8 be al gc' gm' ∧ rl_fx 128 al gc' ∧
      ((vX6_touch x y w gc = some (.inl (some (.inr (.inr (5, (-1))))), gc') ∧ vX7_access x y b3 b4 gm = some (.inl (some (.inl (-1))), gm') ∧ ((gc' 19 t 4 = 1 ∧ gm' 24 0 0 = 2) ∨ (gc' 19 t 4 = 0 ∧ gm' 24 0 0 = 3))) ∨
       ∃ s, s < 128 ∧ al s = true ∧ be s < 130 ∧ vX6_touch x y w gc = some (.inl (some (.inr (.inr (5, nI s)))), gc') ∧ vX7_access x y b3 b4 gm = some (.inl (some (.inl (nI (8 * be s + a % 8)))), gm') ∧ gm' 24 0 0 = 0) := by
  obtain ⟨be, al, R, F⟩ := Q
  rw [eX7_access]
  rcases sm_living R.1 rfl x with ⟨e1, e2⟩ | ⟨t, ht, rfl, hl, e1, e2⟩
  · rw [e2, pu_bI, if_pos rfl, eX7_access_19, lm_acc1]
    exact Or.inl ⟨rfl, Or.inl e1⟩
  · rw [e2, pu_bI, if_neg (show ¬ (1 : Int32) = 0 by decide)]
    rcases sm_num (n := 128) (by omega) y gm with ⟨a, ha, rfl, e3⟩ | ⟨hy, e3⟩
    · have e3' : vX7_isNumber (nI a) 128 gm = _ := e3
      have d8 : nI a / 8 = nI (a / 8) := pu_d8 ⟨a, ha⟩
      have r8 : nI a - nI (a / 8) * 8 = nI (a % 8) := by rw [← d8]; exact pu_r8 ⟨a, ha⟩
      rw [e3', pu_bI, if_neg (show ¬ (1 : Int32) = 0 by decide), eX7_access_24, pu_lt', pu_us, if_pos (show (0 : Int32) ≤ 0 by decide), pu_nz8, pu_g, d8]
      have na : vX6_needAddress (nI a) gc = some (.inl none, gc) := by
        rw [eX6_needAddress, if_neg (pu_lt0 (by omega)), if_pos (pu_lt (x := 128) (k := 128) rfl ha (by omega))]
      refine Or.inr ⟨t, a, ht, ha, rfl, rfl, e1, na, ?_⟩
      obtain ⟨be', al', gc', gm', R', F', res⟩ := H be al gc (am_up gm 24 0 0 0) t a (rl_thr_R R) F ht ha hl
      rcases res with ⟨c, m, d⟩ | ⟨c, m, d⟩ | ⟨s, hs, c, m, d1, d2, d3⟩
      · rw [c, m, pu_bI, if_pos rfl, eX7_access_72, pu_lt', pu_us, if_neg (by decide)]
        exact ⟨be', al', gc', _, rl_thr_R R', F', Or.inl ⟨rfl, rfl, Or.inl ⟨d, pu_us⟩⟩⟩
      · rw [c, m, pu_bI, if_neg (by decide), if_pos rfl, eX7_access_72, pu_lt', pu_us, if_neg (by decide)]
        exact ⟨be', al', gc', _, rl_thr_R R', F', Or.inl ⟨rfl, rfl, Or.inr ⟨d, pu_us⟩⟩⟩
      · obtain ⟨-, p2, p3⟩ := R'.2.2.1 t (a / 8) ht (by omega)
        have has := (p3 s hs d1).1
        have hbs := (R'.2.2.2.2.1.1 s hs has).1
        rw [d1, rl_bi_s hs] at p2
        rw [c, m, pu_bI, if_neg (by decide), if_neg (by decide), eX7_access_72, pu_lt', pu_us, if_pos (by decide), pu_nz8, pu_g, d8, pu_16, pu_in (show 16 * t + a / 8 < 128 by omega) (by omega), pu_g, pu_g, nI_clamp (show 16 * t + a / 8 < 2 ^ 31 by omega), pu_uf (show 31 ≠ 24 by decide), p2, r8, pu_8]
        exact ⟨be', al', gc', _, rl_thr_R R', F', Or.inr ⟨s, hs, has, hbs, rfl, rfl, pu_us⟩⟩
    · have e3' : vX7_isNumber y 128 gm = _ := e3
      rw [e3', pu_bI, if_pos rfl, eX7_access_19, lm_acc1]
      refine Or.inl ⟨rfl, Or.inr ⟨e1, ?_⟩⟩
      rw [eX6_needAddress]
      rcases hy with z | ⟨z, z'⟩
      · rw [if_pos z]
      · rw [if_neg z, if_neg (show ¬ y < 128 from Int32.not_lt.mpr z')]
theorem lc_untouched {g : am_S} {t : Nat} (ht : t < 8) : vX6_throwUntouched (nI t) g = if g 19 t 4 = 0 then some (.inr 4, g) else some (.inr 3, g) := by
  rw [eX6_throwUntouched, pu_in ht (by omega), pu_g, nI_clamp (by omega)]
theorem sm_read {gc gm : am_S} (x y : Int32) (h : rl_Q gc gm) : sm_OI th_134 (vX6_read x y gc) (vX7_read x y gm) := by
  rw [eX6_read, eX7_read]
  rcases sm_acc sm_TO_r x y h with ⟨e1, e2⟩ | ⟨t, a, ht, ha, rfl, rfl, e1, e2, be, al, gc', gm', R, F, res⟩
  · have out : sm_OI th_134 (some (.inr 1, gc)) (some (.inl (some (.inl 0)), am_up gm 24 0 0 1)) := ⟨gc, _, 0, rl_thr h, rfl, Or.inr ⟨1, rfl, by rw [pu_us]; rfl, by decide⟩⟩
    rw [e1, pu_bI, if_neg (by decide)]
    rcases e2 with e2 | ⟨e2, e3⟩
    · rw [e2, pu_bAx]; exact out
    · rw [e2, pu_bA19, e3, pu_bVx]; exact out
  · have r8 : nI a - nI a / 8 * 8 = nI (a % 8) := pu_r8 ⟨a, ha⟩
    rw [e1, pu_bA19, e2, pu_bV]
    rcases res with ⟨c, m, d⟩ | ⟨s, hs, has, hbs, c, m, d⟩
    · rw [c, m, pu_bA5, pu_bI, if_pos pu_neg, if_neg (by decide), lc_untouched ht]
      rcases d with ⟨d1, d2⟩ | ⟨d1, d2⟩
      · rw [d1, if_neg (by decide), pu_bVx]
        exact ⟨gc', gm', 0, ⟨be, al, R, F⟩, rfl, Or.inr ⟨3, rfl, by rw [d2]; rfl, by decide⟩⟩
      · rw [d1, if_pos rfl, pu_bVx]
        exact ⟨gc', gm', 0, ⟨be, al, R, F⟩, rfl, Or.inr ⟨4, rfl, by rw [d2]; rfl, by decide⟩⟩
    · have h8 : a % 8 < 8 := by omega
      rw [c, m, pu_bA5, pu_bI, if_neg (pu_lt0 (by omega)), if_pos (pu_ge (x := 0) (k := 0) rfl (by omega) (by omega)), pu_in hs (by omega), pu_g, pu_nz8, pu_g, pu_g, r8, pu_in h8 (by omega), pu_g, pu_in (show 8 * be s + a % 8 < 1040 by omega) (by omega), pu_g, nI_clamp (show s < 2 ^ 31 by omega), nI_clamp (show a % 8 < 2 ^ 31 by omega), nI_clamp (show 8 * be s + a % 8 < 2 ^ 31 by omega), (R.2.2.2.2.2.2.2.1 s hs has).2.1 (a % 8) h8]
      exact ⟨gc', gm', _, ⟨be, al, R, F⟩, rfl, Or.inl ⟨rfl, d⟩⟩
/-- a word is put: what the class's put and the reference's access come to -/
theorem sm_putw {w b4 : Int32} (H : sm_TO w 1 b4) {gc gm : am_S} (x y v : Int32) (h : rl_Q gc gm) : sm_OV th_134 (vX6_put x y v w gc) (am_bI (vX7_access x y 1 b4 gm) (fun r2 g1 => if r2 < 0 then (some (.inl none, g1)) else am_g (am_in r2 1040) (am_lt (am_up g1 36 0 r2.toNatClampNeg v) (fun g3 => some (.inl none, g3))))) := by
  rw [eX6_put]
  rcases sm_acc H x y h with ⟨e1, e2⟩ | ⟨t, a, ht, ha, rfl, rfl, e1, e2, be, al, gc', gm', R, F, res⟩
  · have out : sm_OV th_134 (some (.inr 1, gc)) (some (.inl none, am_up gm 24 0 0 1)) := ⟨gc, _, rl_thr h, rfl, Or.inr ⟨1, rfl, by rw [pu_us]; rfl, by decide⟩⟩
    rw [e1, pu_bI, if_pos pu_neg]
    rcases e2 with e2 | ⟨e2, e3⟩
    · rw [e2, pu_bAx]; exact out
    · rw [e2, pu_bA19, e3, pu_bVx]; exact out
  · have r8 : nI a - nI a / 8 * 8 = nI (a % 8) := pu_r8 ⟨a, ha⟩
    rw [e1, pu_bA19, e2, pu_bV]
    rcases res with ⟨c, m, d⟩ | ⟨s, hs, has, hbs, c, m, d⟩
    · rw [c, m, pu_bA5, pu_bI, if_pos pu_neg, if_pos pu_neg, lc_untouched ht]
      rcases d with ⟨d1, d2⟩ | ⟨d1, d2⟩
      · rw [d1, if_neg (by decide), pu_bVx]
        exact ⟨gc', gm', ⟨be, al, R, F⟩, rfl, Or.inr ⟨3, rfl, by rw [d2]; rfl, by decide⟩⟩
      · rw [d1, if_pos rfl, pu_bVx]
        exact ⟨gc', gm', ⟨be, al, R, F⟩, rfl, Or.inr ⟨4, rfl, by rw [d2]; rfl, by decide⟩⟩
    · have h8 : a % 8 < 8 := by omega
      rw [c, m, pu_bA5, pu_bI, if_neg (pu_lt0 (show s < 2147483648 by omega)), if_neg (pu_lt0 (by omega)), pu_in hs (by omega), pu_g, pu_nz8, pu_g, pu_g, r8, pu_in h8 (by omega), pu_g, pu_lt', pu_in (show 8 * be s + a % 8 < 1040 by omega) (by omega), pu_g, pu_lt', nI_clamp (show s < 2 ^ 31 by omega), nI_clamp (show a % 8 < 2 ^ 31 by omega), nI_clamp (show 8 * be s + a % 8 < 2 ^ 31 by omega)]
      refine ⟨_, _, ⟨be, al, rl_word_R R hs has h8, fun r hr q1 q2 => ?_⟩, rfl, Or.inl ⟨rfl, ?_⟩⟩
      · rw [rl_pc_congr (pu_uf (by decide))]; exact F r hr q1 q2
      · rw [pu_uf (by decide)]; exact d
theorem sm_bVid {th : Nat → Int32} {c m : am_R} (h : sm_OV th c m) : sm_OV th (am_bV c (fun g => some (.inl none, g))) m := by
  obtain ⟨gc', gm', Q, e, ⟨rfl, d⟩ | ⟨x, rfl, d⟩⟩ := h
  · exact ⟨gc', gm', Q, e, Or.inl ⟨rfl, d⟩⟩
  · exact ⟨gc', gm', Q, e, Or.inr ⟨x, rfl, d⟩⟩
theorem sm_write (H : sm_TO 1 1 0) {gc gm : am_S} (x y v : Int32) (h : rl_Q gc gm) : sm_OV th_134 (vX6_write x y v gc) (vX7_write x y v gm) := by
  rw [eX6_write, eX7_write]
  exact sm_bVid (sm_putw H x y v h)
theorem sm_load (H : sm_TO 2 1 1) {gc gm : am_S} (x y v : Int32) (h : rl_Q gc gm) : sm_OV th_134 (vX6_load x y v gc) (vX7_load x y v gm) := by
  rw [eX6_load, eX7_load]
  exact sm_bVid (sm_putw H x y v h)
