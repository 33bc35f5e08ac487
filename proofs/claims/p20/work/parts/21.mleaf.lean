/-! leaves of the reference -/
theorem pu_bI {x : Int32} {g : am_S} {kk : Int32 → am_S → am_R} : am_bI (some (.inl (some (.inl x)), g)) kk = kk x g := rfl
theorem pu_bV {g : am_S} {kk : am_S → am_R} : am_bV (some (.inl none, g)) kk = kk g := rfl
theorem pu_bA5 {x : Int32} {g : am_S} {kk : Int32 → am_S → am_R} : am_bA 5 (some (.inl (some (.inr (.inr (5, x)))), g)) kk = kk x g := rfl
theorem pu_bA19 {x : Int32} {g : am_S} {kk : Int32 → am_S → am_R} : am_bA 19 (some (.inl (some (.inr (.inr (19, x)))), g)) kk = kk x g := rfl
theorem pu_lt' {g : am_S} {k : am_S → am_R} : am_lt g k = k g := rfl
theorem pu_lv {v : Int32} {k : Int32 → am_R} : am_lv v k = k v := rfl
/-- how many pages are mapped to x -/
def lm_mp (g : am_S) (x : Int32) : Nat := pu_cn (fun k => decide (g 31 0 k = x)) 128
theorem lm_mappings (x : Int32) (g : am_S) : vX7_mappings x g = some (.inl (some (.inl (nI (lm_mp g x)))), g) := by
  rw [eX7_mappings]
  have h := pu_loop 128 (fun j n => vX7_mappings_4 x (nI n) (nI j) g) (fun j n => n = pu_cn (fun k => decide (g 31 0 k = x)) j) (fun j n hj hn => by
    refine ⟨pu_cn (fun k => decide (g 31 0 k = x)) (j + 1), rfl, ?_⟩
    subst hn
    rw [eX7_mappings_4, if_neg (pu_nge (x := 128) (k := 128) rfl hj (by omega)), pu_in hj (by omega), pu_g, nI_clamp (by omega), nI_1, pu_lv, nI_1, pu_cn]
    by_cases hx : g 31 0 j = x
    · rw [if_pos hx, decide_eq_true hx]
    · rw [if_neg hx, decide_eq_false hx]; rfl) 128 0 0 rfl rfl
  obtain ⟨n, hn, e⟩ := h
  have e' : vX7_mappings_4 x 0 0 g = vX7_mappings_4 x (nI n) (nI 128) g := e
  rw [e', eX7_mappings_4, if_pos (show (128 : Int32) ≤ nI 128 from by decide), hn]
  rfl
theorem lm_frameOf_at {x : Int32} {g : am_S} {f : Nat} (hf : f < 10) (h : g 38 0 f = x) (hu : ∀ f', f' < 10 → g 38 0 f' = x → f' = f) : vX7_frameOf x g = some (.inl (some (.inl (nI f))), g) := by
  rw [eX7_frameOf]
  have h1 := pu_loop f (fun j (_ : Unit) => vX7_frameOf_2 x (nI j) g) (fun _ _ => True) (fun j _ hj _ => by
    refine ⟨(), trivial, ?_⟩
    have hne : ¬ g 38 0 j = x := fun z => by have := hu j (by omega) z; omega
    rw [eX7_frameOf_2, if_neg (pu_nge (x := 10) (k := 10) rfl (by omega) (by omega)), pu_in (show j < 10 by omega) (by omega), pu_g, nI_clamp (by omega), if_neg hne, nI_1]) f 0 () (by omega) trivial
  obtain ⟨_, _, e⟩ := h1
  have e' : vX7_frameOf_2 x 0 g = vX7_frameOf_2 x (nI f) g := e
  rw [e', eX7_frameOf_2, if_neg (pu_nge (x := 10) (k := 10) rfl hf (by omega)), pu_in hf (by omega), pu_g, nI_clamp (by omega), if_pos h, eX7_frameOf_24, if_neg (pu_nge (x := 10) (k := 10) rfl hf (by omega))]
theorem lm_frameOf_no {x : Int32} {g : am_S} (h : ∀ f, f < 10 → ¬ g 38 0 f = x) : vX7_frameOf x g = some (.inl (some (.inl (-1))), g) := by
  rw [eX7_frameOf]
  have h1 := pu_loop 10 (fun j (_ : Unit) => vX7_frameOf_2 x (nI j) g) (fun _ _ => True) (fun j _ hj _ => by
    refine ⟨(), trivial, ?_⟩
    rw [eX7_frameOf_2, if_neg (pu_nge (x := 10) (k := 10) rfl (by omega) (by omega)), pu_in hj (by omega), pu_g, nI_clamp (by omega), if_neg (h j hj), nI_1]) 10 0 () rfl trivial
  obtain ⟨_, _, e⟩ := h1
  have e' : vX7_frameOf_2 x 0 g = vX7_frameOf_2 x (nI 10) g := e
  rw [e', eX7_frameOf_2, if_pos (show (10 : Int32) ≤ nI 10 from by decide), eX7_frameOf_24, if_pos (show (10 : Int32) ≤ nI 10 from by decide)]
/-- the store behind newSheet -/
def lm_ns (g : am_S) (q : Nat) : am_S := pu_fi (am_up (am_up g 37 0 q 1) 33 0 q 0) 36 0 (8 * q) (8 * q + 8) (fun _ => 0)
theorem lm_newSheet {g : am_S} {q : Nat} (hq : q < 130) (h0 : g 37 0 q = 0) (hu : ∀ k, k < q → ¬ g 37 0 k = 0) : vX7_newSheet g = some (.inl (some (.inl (nI q))), lm_ns g q) := by
  rw [eX7_newSheet]
  obtain ⟨_, _, e⟩ := pu_loop q (fun j (_ : Unit) => vX7_newSheet_2 (nI j) g) (fun _ _ => True) (fun j _ hj _ => by
    refine ⟨(), trivial, ?_⟩
    rw [eX7_newSheet_2, pu_in (show j < 130 by omega) (by omega), pu_g, nI_clamp (by omega), if_neg (hu j hj), nI_1]) q 0 () (by omega) trivial
  have e' : vX7_newSheet_2 0 g = vX7_newSheet_2 (nI q) g := e
  rw [e', eX7_newSheet_2, pu_in hq (by omega), pu_g, nI_clamp (by omega), if_pos h0, pu_g, pu_b1, pu_g, pu_lt', pu_g, pu_lt']
  obtain ⟨_, rfl, e⟩ := pu_loop 8 (fun j g => vX7_newSheet_33 (nI q) (nI j) g) (fun j g' => g' = pu_fi (am_up (am_up g 37 0 q 1) 33 0 q 0) 36 0 (8 * q) (8 * q + j) (fun _ => 0)) (fun j g' hj hg => by
    refine ⟨_, rfl, ?_⟩
    subst hg
    rw [eX7_newSheet_33, if_neg (pu_nge (x := 8) (k := 8) rfl hj (by omega)), pu_8, pu_in (show 8 * q + j < 1040 by omega) (by omega), pu_g, nI_clamp (by omega), pu_lt', nI_1]
    rw [← Nat.add_assoc, ← pu_fi_s (v := fun _ => 0) (show 8 * q ≤ 8 * q + j by omega)]) 8 0 _ rfl (by rw [Nat.add_zero, pu_fi_0])
  have e'' : vX7_newSheet_33 (nI q) 0 (am_up (am_up g 37 0 q 1) 33 0 q 0) = vX7_newSheet_33 (nI q) (nI 8) _ := e
  rw [e'', eX7_newSheet_33, if_pos (show (8 : Int32) ≤ nI 8 from by decide)]
  rfl
/-- the store behind freeSlots, over the first n -/
def lm_fs (g : am_S) (x : Int32) (n : Nat) : am_S := fun f i j => if (f = 41 ∧ i = 0 ∧ j < n) ∧ g 41 0 j = x then -1 else if (f = 44 ∧ i = 0 ∧ j < n) ∧ g 41 0 j = x then 0 else g f i j
theorem lm_fs_0 {g : am_S} {x : Int32} : lm_fs g x 0 = g := by
  funext f i j
  unfold lm_fs
  rw [if_neg (fun q => by omega), if_neg (fun q => by omega)]
theorem lm_fs_s {g : am_S} {x : Int32} {n : Nat} (h : g 41 0 n = x) : am_up (am_up (lm_fs g x n) 41 0 n (-1)) 44 0 n 0 = lm_fs g x (n + 1) := by
  funext f i j
  unfold am_up lm_fs
  by_cases h1 : f = 44 ∧ i = 0 ∧ j = n
  · obtain ⟨rfl, rfl, rfl⟩ := h1
    rw [if_pos ⟨rfl, rfl, rfl⟩, if_neg (fun q => by omega), if_pos ⟨⟨rfl, rfl, by omega⟩, h⟩]
  · rw [if_neg h1]
    by_cases h2 : f = 41 ∧ i = 0 ∧ j = n
    · obtain ⟨rfl, rfl, rfl⟩ := h2
      rw [if_pos ⟨rfl, rfl, rfl⟩, if_pos ⟨⟨rfl, rfl, by omega⟩, h⟩]
    · rw [if_neg h2]
      by_cases h3 : (f = 41 ∧ i = 0 ∧ j < n) ∧ g 41 0 j = x
      · rw [if_pos h3, if_pos ⟨⟨h3.1.1, h3.1.2.1, by omega⟩, h3.2⟩]
      · have h3' : ¬ ((f = 41 ∧ i = 0 ∧ j < n + 1) ∧ g 41 0 j = x) := fun q => by
          have : j ≠ n := fun z => h2 ⟨q.1.1, q.1.2.1, z⟩
          exact h3 ⟨⟨q.1.1, q.1.2.1, by omega⟩, q.2⟩
        rw [if_neg h3, if_neg h3']
        by_cases h4 : (f = 44 ∧ i = 0 ∧ j < n) ∧ g 41 0 j = x
        · rw [if_pos h4, if_pos ⟨⟨h4.1.1, h4.1.2.1, by omega⟩, h4.2⟩]
        · rw [if_neg h4, if_neg (fun q => by
            have : j ≠ n := fun z => h1 ⟨q.1.1, q.1.2.1, z⟩
            exact h4 ⟨⟨q.1.1, q.1.2.1, by omega⟩, q.2⟩)]
theorem lm_fs_n {g : am_S} {x : Int32} {n : Nat} (h : ¬ g 41 0 n = x) : lm_fs g x n = lm_fs g x (n + 1) := by
  funext f i j
  unfold lm_fs
  by_cases hj : j = n
  · subst hj
    rw [if_neg (fun q => h q.2), if_neg (fun q => h q.2), if_neg (fun q => h q.2), if_neg (fun q => h q.2)]
  · have e : ∀ c, ((f = c ∧ i = 0 ∧ j < n) ∧ g 41 0 j = x) = ((f = c ∧ i = 0 ∧ j < n + 1) ∧ g 41 0 j = x) := fun c => propext ⟨fun q => ⟨⟨q.1.1, q.1.2.1, by omega⟩, q.2⟩, fun q => ⟨⟨q.1.1, q.1.2.1, by omega⟩, q.2⟩⟩
    simp only [e 41, e 44]
theorem lm_fs_41 {g : am_S} {x : Int32} {n : Nat} : (lm_fs g x n) 41 0 n = g 41 0 n := by
  unfold lm_fs
  rw [if_neg (fun q => by omega), if_neg (fun q => by omega)]
theorem lm_freeSlot {g : am_S} {k : Nat} (hk : k < 24) : vX7_freeSlot (nI k) g = some (.inl none, am_up (am_up g 41 0 k (-1)) 44 0 k 0) := by
  rw [eX7_freeSlot, pu_in hk (by omega), pu_g, nI_clamp (by omega), pu_lt', pu_g, pu_b0, pu_g, pu_lt']
theorem lm_freeSlots {g : am_S} {x : Int32} : vX7_freeSlots x g = some (.inl none, lm_fs g x 24) := by
  rw [eX7_freeSlots]
  obtain ⟨_, rfl, e⟩ := pu_loop 24 (fun j g => vX7_freeSlots_2 x (nI j) g) (fun j g' => g' = lm_fs g x j) (fun j g' hj hg => by
    refine ⟨_, rfl, ?_⟩
    subst hg
    rw [eX7_freeSlots_2, if_neg (pu_nge (x := 24) (k := 24) rfl hj (by omega)), pu_in hj (by omega), pu_g, nI_clamp (by omega), lm_fs_41, nI_1]
    by_cases hx : g 41 0 j = x
    · rw [if_pos hx, lm_freeSlot hj, pu_bV, lm_fs_s hx]
    · rw [if_neg hx, lm_fs_n hx]) 24 0 g rfl lm_fs_0.symm
  have e' : vX7_freeSlots_2 x 0 g = vX7_freeSlots_2 x (nI 24) (lm_fs g x 24) := e
  rw [e', eX7_freeSlots_2, if_pos (show (24 : Int32) ≤ nI 24 from by decide)]
theorem lm_clearFrame {g : am_S} {f : Nat} (hf : f < 10) : vX7_clearFrame (nI f) g = some (.inl none, am_up (am_up (am_up g 38 0 f (-1)) 39 0 f 0) 40 0 f 0) := by
  rw [eX7_clearFrame, pu_in hf (by omega), pu_g, nI_clamp (by omega), pu_lt', pu_g, pu_b0, pu_g, pu_lt', pu_g, pu_g, pu_lt']
/-- the first slot of x -/
theorem lm_sn0_at {g : am_S} {x : Int32} {k : Nat} (hk : k < 24) (h : g 41 0 k = x) (hu : ∀ j, j < k → ¬ g 41 0 j = x) : vX7_slotNumber x 0 g = some (.inl (some (.inl (nI k))), g) := by
  rw [eX7_slotNumber]
  obtain ⟨_, _, e⟩ := pu_loop k (fun j (_ : Unit) => vX7_slotNumber_5 x 0 0 (nI j) g) (fun _ _ => True) (fun j _ hj _ => by
    refine ⟨(), trivial, ?_⟩
    rw [eX7_slotNumber_5, if_neg (pu_nge (x := 24) (k := 24) rfl (by omega) (by omega)), pu_in (show j < 24 by omega) (by omega), pu_g, nI_clamp (by omega), if_neg (hu j hj), nI_1]) k 0 () (by omega) trivial
  have e' : vX7_slotNumber_5 x 0 0 0 g = vX7_slotNumber_5 x 0 0 (nI k) g := e
  rw [e', eX7_slotNumber_5, if_neg (pu_nge (x := 24) (k := 24) rfl hk (by omega)), pu_in hk (by omega), pu_g, nI_clamp (by omega), if_pos h, if_pos rfl]
theorem lm_sn_no {g : am_S} {x n : Int32} (h : ∀ j, j < 24 → ¬ g 41 0 j = x) : vX7_slotNumber x n g = some (.inl (some (.inl (-1))), g) := by
  rw [eX7_slotNumber]
  obtain ⟨_, _, e⟩ := pu_loop 24 (fun j (_ : Unit) => vX7_slotNumber_5 x n n (nI j) g) (fun _ _ => True) (fun j _ hj _ => by
    refine ⟨(), trivial, ?_⟩
    rw [eX7_slotNumber_5, if_neg (pu_nge (x := 24) (k := 24) rfl (by omega) (by omega)), pu_in (show j < 24 by omega) (by omega), pu_g, nI_clamp (by omega), if_neg (h j hj), nI_1]) 24 0 () rfl trivial
  have e' : vX7_slotNumber_5 x n n 0 g = vX7_slotNumber_5 x n n (nI 24) g := e
  rw [e', eX7_slotNumber_5, if_pos (show (24 : Int32) ≤ nI 24 from by decide)]
/-- the second slot of x, whose first is k -/
theorem lm_sn1 {g : am_S} {x : Int32} {k : Nat} (hk : k < 24) (h : g 41 0 k = x) (hu : ∀ j, j < k → ¬ g 41 0 j = x) : vX7_slotNumber x 1 g = vX7_slotNumber_5 x 1 0 (nI (k + 1)) g := by
  rw [eX7_slotNumber]
  obtain ⟨_, _, e⟩ := pu_loop k (fun j (_ : Unit) => vX7_slotNumber_5 x 1 1 (nI j) g) (fun _ _ => True) (fun j _ hj _ => by
    refine ⟨(), trivial, ?_⟩
    rw [eX7_slotNumber_5, if_neg (pu_nge (x := 24) (k := 24) rfl (by omega) (by omega)), pu_in (show j < 24 by omega) (by omega), pu_g, nI_clamp (by omega), if_neg (hu j hj), nI_1]) k 0 () (by omega) trivial
  have e' : vX7_slotNumber_5 x 1 1 0 g = vX7_slotNumber_5 x 1 1 (nI k) g := e
  rw [e', eX7_slotNumber_5, if_neg (pu_nge (x := 24) (k := 24) rfl hk (by omega)), pu_in hk (by omega), pu_g, nI_clamp (by omega), if_pos h, if_neg (by decide), nI_1]
  rfl
theorem lm_sn1_at {g : am_S} {x : Int32} {k k' : Nat} (hkk : k < k') (hk : k' < 24) (h : g 41 0 k = x) (h' : g 41 0 k' = x) (hu : ∀ j, j < k' → g 41 0 j = x → j = k) : vX7_slotNumber x 1 g = some (.inl (some (.inl (nI k'))), g) := by
  rw [lm_sn1 (by omega) h (fun j hj z => by have := hu j (by omega) z; omega)]
  obtain ⟨_, _, e⟩ := pu_loop k' (fun j (_ : Unit) => vX7_slotNumber_5 x 1 0 (nI j) g) (fun j _ => k + 1 ≤ j) (fun j _ hj hp => by
    refine ⟨(), by omega, ?_⟩
    rw [eX7_slotNumber_5, if_neg (pu_nge (x := 24) (k := 24) rfl (by omega) (by omega)), pu_in (show j < 24 by omega) (by omega), pu_g, nI_clamp (by omega), if_neg (fun z => by have := hu j hj z; omega), nI_1]) (k' - (k + 1)) (k + 1) () (by omega) (Nat.le_refl _)
  have e' : vX7_slotNumber_5 x 1 0 (nI (k + 1)) g = vX7_slotNumber_5 x 1 0 (nI k') g := e
  rw [e', eX7_slotNumber_5, if_neg (pu_nge (x := 24) (k := 24) rfl hk (by omega)), pu_in hk (by omega), pu_g, nI_clamp (by omega), if_pos h', if_pos rfl]
theorem lm_sn1_no {g : am_S} {x : Int32} {k : Nat} (hk : k < 24) (h : g 41 0 k = x) (hu : ∀ j, j < 24 → g 41 0 j = x → j = k) : vX7_slotNumber x 1 g = some (.inl (some (.inl (-1))), g) := by
  rw [lm_sn1 hk h (fun j hj z => by have := hu j (by omega) z; omega)]
  obtain ⟨_, _, e⟩ := pu_loop 24 (fun j (_ : Unit) => vX7_slotNumber_5 x 1 0 (nI j) g) (fun j _ => k + 1 ≤ j) (fun j _ hj hp => by
    refine ⟨(), by omega, ?_⟩
    rw [eX7_slotNumber_5, if_neg (pu_nge (x := 24) (k := 24) rfl (by omega) (by omega)), pu_in (show j < 24 by omega) (by omega), pu_g, nI_clamp (by omega), if_neg (fun z => by have := hu j hj z; omega), nI_1]) (24 - (k + 1)) (k + 1) () (by omega) (Nat.le_refl _)
  have e' : vX7_slotNumber_5 x 1 0 (nI (k + 1)) g = vX7_slotNumber_5 x 1 0 (nI 24) g := e
  rw [e', eX7_slotNumber_5, if_pos (show (24 : Int32) ≤ nI 24 from by decide)]
theorem lm_fault {g : am_S} {t k : Nat} (ht : t < 8) (hk : k < 3) : vX7_fault (nI t) (nI k) g = some (.inl none, am_up g 30 0 (3 * t + k) (g 30 0 (3 * t + k) + 1)) := by
  rw [eX7_fault, pu_3, pu_in (show 3 * t + k < 24 by omega) (by omega), pu_g, pu_g, nI_clamp (by omega), pu_lt']
