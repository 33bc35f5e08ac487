/-! leaves of the class -/
theorem lc_vacate {g : am_S} {f : Nat} (hf : f < 10) : vX2_vacate (nI f) g = some (.inl none, am_up (am_up (am_up g 8 0 f (-1)) 9 0 f 0) 10 0 f 0) := by
  rw [eX2_vacate, if_neg (pu_lt0 (by omega)), if_pos (pu_lt (x := 10) (k := 10) rfl hf (by omega)), pu_in hf (by omega), pu_g, nI_clamp (by omega), pu_nvm, pu_g, pu_lt', pu_g, pu_b0, pu_g, pu_lt', pu_g, pu_g, pu_lt']
theorem lc_release {g : am_S} {k : Nat} (hk : k < 24) : vX1_release (nI k) g = some (.inl none, am_up (am_up g 15 0 k 0) 17 0 k 0) := by
  rw [eX1_release, if_neg (pu_lt0 (by omega)), if_neg (pu_nge (x := 24) (k := 24) rfl hk (by omega)), pu_in hk (by omega), pu_g, nI_clamp (by omega), pu_lt', pu_g, pu_b0, pu_g, pu_lt']
theorem lc_release_no {g : am_S} : vX1_release (-1) g = some (.inl none, g) := by
  rw [eX1_release, if_pos pu_neg]
/-- the store behind clear -/
def lc_cl (g : am_S) (s : Nat) : am_S := am_up (am_up (am_up (am_up (am_up (am_up (pu_fi g 6 s 0 8 (fun _ => 0)) 5 s 1 0) 5 s 2 0) 5 s 3 (-1)) 5 s 4 0) 5 s 5 (-1)) 5 s 6 (-1)
theorem lc_clear {g : am_S} {s : Nat} (hs : s < 128) : vX3_clear (nI s) g = some (.inl none, lc_cl g s) := by
  rw [eX3_clear]
  obtain ⟨_, rfl, e⟩ := pu_loop 8 (fun j g => vX3_clear_2 (nI s) (nI j) g) (fun j g' => g' = pu_fi g 6 s 0 j (fun _ => 0)) (fun j g' hj hg => by
    refine ⟨_, rfl, ?_⟩
    subst hg
    rw [eX3_clear_2, if_neg (pu_nge (x := 8) (k := 8) rfl hj (by omega)), pu_in hs (by omega), pu_g, pu_g, pu_in hj (by omega), pu_g, nI_clamp (by omega), nI_clamp (by omega), pu_lt', nI_1]
    rw [← pu_fi_s (v := fun _ => 0) (Nat.zero_le j)]) 8 0 g rfl pu_fi_0.symm
  have e' : vX3_clear_2 (nI s) 0 g = vX3_clear_2 (nI s) (nI 8) (pu_fi g 6 s 0 8 (fun _ => 0)) := e
  rw [e', eX3_clear_2, if_pos (show (8 : Int32) ≤ nI 8 from by decide), pu_in hs (by omega), pu_g, nI_clamp (by omega), pu_lt', pu_g, pu_lt', pu_g, pu_lt', pu_g, pu_lt', pu_g, pu_lt', pu_g, pu_lt']
  rfl
theorem lc_giveBack {g : am_S} {n s : Nat} (hn : n < 128) (hs : s < 128) (h : g 2 0 2 = nI n) : vX4_giveBack (nI s) g = some (.inl none, am_up (am_up g 4 0 n (nI s)) 2 0 2 (nI (n + 1))) := by
  rw [eX4_giveBack, h, if_neg (show ¬ Int32.ofNat 128 ≤ nI n from nI_ge hn (by omega)), pu_in hn (by omega), pu_g, pu_nv hs, pu_g, nI_clamp (by omega), pu_lt', pu_lt', pu_uf (by decide), h, nI_1]
theorem lc_take {g : am_S} {n : Nat} (hn : n < 128) (h : g 2 0 2 = nI (n + 1)) : vX4_take g = some (.inl (some (.inr (.inr (5, g 4 0 n)))), am_up g 2 0 2 (nI n)) := by
  have e : nI (n + 1) - 1 = nI n := nI_pred n
  rw [eX4_take, h, if_pos (show (0 : Int32) < nI (n + 1) from nI_lt (a := 0) (by omega) (by omega)), pu_lt', e, pu_us, pu_in hn (by omega), pu_g, nI_clamp (by omega), pu_uf (by decide)]
theorem lc_map {g : am_S} {t p s : Nat} {k : Int32} (ht : t < 8) (hp : p < 16) (hs : s < 128) : vX5_map (nI t) (nI p) (nI s) k g = some (.inl none, am_up (am_up (am_up g 23 t p (nI s)) 22 t p k) 5 s 1 (g 5 s 1 + 1)) := by
  rw [eX5_map, pu_in ht (by omega), pu_g, pu_g, pu_in hp (by omega), pu_g, pu_nv hs, pu_g, nI_clamp (show t < 2 ^ 31 by omega), nI_clamp (show p < 2 ^ 31 by omega), pu_lt', pu_g, pu_g, pu_g, pu_lt', pu_in hs (by omega), pu_g, pu_g, nI_clamp (show s < 2 ^ 31 by omega), pu_lt', pu_uf (by decide), pu_uf (by decide)]
/-- the store behind unpack -/
def lc_up (g : am_S) (s a n : Nat) : am_S := am_up (am_up (pu_fi g 12 0 a (a + n) (fun _ => 0)) 11 0 2 (g 11 0 2 - 1)) 5 s 4 0
theorem lc_unpack {g : am_S} {s a n : Nat} (hs : s < 128) (ha : g 5 s 3 = nI a) (hn : g 5 s 4 = nI n) (h : a + n ≤ 64) : vX0_unpack (nI s) g = some (.inl none, lc_up g s a n) := by
  have r3 : ∀ j, (pu_fi g 12 0 a (a + j) (fun _ => 0)) 5 s 3 = nI a := fun j => by rw [pu_ff (by decide)]; exact ha
  have r4 : ∀ j, (pu_fi g 12 0 a (a + j) (fun _ => 0)) 5 s 4 = nI n := fun j => by rw [pu_ff (by decide)]; exact hn
  rw [eX0_unpack, pu_in hs (by omega), pu_g, nI_clamp (by omega), ha, pu_lv]
  obtain ⟨_, rfl, e⟩ := pu_loop n (fun j g => vX0_unpack_5 (nI s) (nI (a + j)) g) (fun j g' => g' = pu_fi g 12 0 a (a + j) (fun _ => 0)) (fun j g' hj hg => by
    refine ⟨_, rfl, ?_⟩
    subst hg
    rw [eX0_unpack_5, if_neg (pu_lt0 (by omega)), pu_in hs (by omega), pu_g, pu_g, nI_clamp (show s < 2 ^ 31 by omega), r3, r4, nI_add, if_neg (nI_ge (show a + j < a + n by omega) (by omega)), if_neg (pu_nge (x := 64) (k := 64) rfl (show a + j < 64 by omega) (by omega)), pu_in (show a + j < 64 by omega) (by omega), pu_g, pu_b0, pu_g, nI_clamp (by omega), pu_lt', nI_1]
    rw [← Nat.add_assoc, ← pu_fi_s (v := fun _ => 0) (show a ≤ a + j by omega)]) n 0 g (by omega) (by rw [Nat.add_zero, pu_fi_0])
  have e' : vX0_unpack_5 (nI s) (nI a) g = vX0_unpack_5 (nI s) (nI (a + n)) (pu_fi g 12 0 a (a + n) (fun _ => 0)) := e
  have f41 : ∀ x, vX0_unpack_41 (nI s) x (pu_fi g 12 0 a (a + n) (fun _ => 0)) = some (.inl none, lc_up g s a n) := fun x => by
    rw [eX0_unpack_41, pu_lt', pu_in hs (by omega), pu_g, nI_clamp (by omega), pu_lt', pu_ff (by decide)]
    rfl
  rw [e', eX0_unpack_5, if_neg (pu_lt0 (by omega)), pu_in hs (by omega), pu_g, pu_g, nI_clamp (by omega), r3, r4, nI_add, if_pos (nI_le (Nat.le_refl _) (by omega)), f41]
