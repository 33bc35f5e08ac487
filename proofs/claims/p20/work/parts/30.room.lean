/-! room in the pool, and the slots that a writing finds -/
theorem sm_room {be : Nat → Nat} {al : Nat → Bool} {gc gm : am_S} {n : Nat} (hal : rl_al be al gm) (hsh : rl_sh be al gc gm) (har : rl_ar al gc) (h1 : 1 ≤ n) (h2 : n ≤ 16) :
    ∃ r : Int32, vX0_lowestRow (nI n) gc = some (.inl (some (.inl r)), gc) ∧ vX7_room (nI n) gm = some (.inl (some (.inl r)), gm) ∧ (r = -1 ∨ ∃ a, r = nI a ∧ a + n ≤ 64 ∧ ∀ b, a ≤ b → b < a + n → gc 12 0 b = 0) := by
  rw [eX0_lowestRow, eX7_room]
  have L := pu_loop2E 64 (fun j (x : Nat) => vX0_lowestRow_4 (nI n) (nI x) (nI j) gc) (fun j (y : Nat) => vX7_room_4 (nI n) (nI y) (nI j) gm) (fun j x y => x = y ∧ x < n ∧ x ≤ j ∧ ∀ b, j - x ≤ b → b < j → gc 12 0 b = 0)
    (fun v u => ∃ a, a + n ≤ 64 ∧ v = some (.inl (some (.inl (nI a))), gc) ∧ u = some (.inl (some (.inl (nI a))), gm) ∧ ∀ b, a ≤ b → b < a + n → gc 12 0 b = 0) (fun j x y hj hp => by
    obtain ⟨rfl, p1, p2, p3⟩ := hp
    show (∃ x' y' : Nat, (x' = y' ∧ x' < n ∧ x' ≤ j + 1 ∧ ∀ b, j + 1 - x' ≤ b → b < j + 1 → gc 12 0 b = 0) ∧ vX0_lowestRow_4 (nI n) (nI x) (nI j) gc = vX0_lowestRow_4 (nI n) (nI x') (nI (j + 1)) gc ∧ vX7_room_4 (nI n) (nI x) (nI j) gm = vX7_room_4 (nI n) (nI y') (nI (j + 1)) gm) ∨ ∃ a, a + n ≤ 64 ∧ vX0_lowestRow_4 (nI n) (nI x) (nI j) gc = some (.inl (some (.inl (nI a))), gc) ∧ vX7_room_4 (nI n) (nI x) (nI j) gm = some (.inl (some (.inl (nI a))), gm) ∧ ∀ b, a ≤ b → b < a + n → gc 12 0 b = 0
    rw [eX0_lowestRow_4, eX7_room_4, if_neg (pu_nge (x := 64) (k := 64) rfl hj (by omega)), if_neg (pu_nge (x := 64) (k := 64) rfl hj (by omega)), pu_in hj (by omega), pu_g, nI_clamp (by omega), sm_isTaken hal hsh har hj, pu_bI, nI_1]
    by_cases hz : gc 12 0 j = 0
    · rw [if_pos hz, if_pos hz, eX0_lowestRow_26, eX7_room_25]
      by_cases hn : x + 1 = n
      · rw [if_pos (by rw [hn]), if_pos (by rw [hn])]
        refine Or.inr ⟨j + 1 - n, by omega, ?_, ?_, fun b b1 b2 => ?_⟩
        · rw [nI_1, pu_sub (by omega)]
        · rw [pu_ac, nI_1, pu_sub (by omega)]
        · by_cases e : b = j
          · rw [e]; exact hz
          · exact p3 b (by omega) (by omega)
      · rw [if_neg (pu_ne (x := nI n) (k := n) rfl hn (by omega) (by omega)), if_neg (pu_ne (x := nI n) (k := n) rfl hn (by omega) (by omega)), nI_1]
        refine Or.inl ⟨x + 1, x + 1, ⟨rfl, by omega, by omega, fun b b1 b2 => ?_⟩, rfl, rfl⟩
        by_cases e : b = j
        · rw [e]; exact hz
        · exact p3 b (by omega) (by omega)
    · rw [if_neg hz, if_neg hz, eX0_lowestRow_26, eX7_room_25, if_neg (fun z => nI_ne0 (n := n) (by omega) (by omega) z.symm), if_neg (fun z => nI_ne0 (n := n) (by omega) (by omega) z.symm), nI_1]
      exact Or.inl ⟨0, 0, ⟨rfl, by omega, by omega, fun b b1 b2 => by omega⟩, rfl, rfl⟩) 64 0 0 0 rfl ⟨rfl, by omega, by omega, fun b b1 b2 => by omega⟩
  rcases L with ⟨x, y, hP, e1, e2⟩ | ⟨a, a1, a2, a3, a4⟩
  · refine ⟨-1, ?_, ?_, Or.inl rfl⟩
    · refine Eq.trans (show vX0_lowestRow_4 (nI n) 0 0 gc = vX0_lowestRow_4 (nI n) (nI x) (nI 64) gc from e1) ?_
      rw [eX0_lowestRow_4, if_pos (show (64 : Int32) ≤ nI 64 from by decide)]
    · refine Eq.trans (show vX7_room_4 (nI n) 0 0 gm = vX7_room_4 (nI n) (nI y) (nI 64) gm from e2) ?_
      rw [eX7_room_4, if_pos (show (64 : Int32) ≤ nI 64 from by decide)]
  · exact ⟨nI a, a2, a3, Or.inr ⟨a, rfl, a1, a4⟩⟩
/-- the class's store when s is packed at a -/
def lc_pk (g : am_S) (s a n : Nat) : am_S := am_up (am_up (am_up (am_up (pu_fi g 12 0 a (a + n) (fun _ => 1)) 11 0 2 (g 11 0 2 + 1)) 5 s 2 2) 5 s 3 (nI a)) 5 s 4 (nI n)
theorem lc_pack {g : am_S} {s a n : Nat} {x : Int32} (hs : s < 128) (h : a + n ≤ 64) : vX0_pack_31 (nI s) (nI n) (nI a) (nI a) g = some (.inl (some (.inl 1)), lc_pk g s a n) := by
  obtain ⟨_, rfl, e⟩ := pu_loop n (fun j g => vX0_pack_31 (nI s) (nI n) (nI a) (nI (a + j)) g) (fun j g' => g' = pu_fi g 12 0 a (a + j) (fun _ => 1)) (fun j g' hj hg => by
    refine ⟨_, rfl, ?_⟩
    subst hg
    rw [eX0_pack_31, nI_add, if_neg (nI_ge (show a + j < a + n by omega) (by omega)), if_neg (pu_nge (x := 64) (k := 64) rfl (show a + j < 64 by omega) (by omega)), pu_in (show a + j < 64 by omega) (by omega), pu_g, pu_b1, pu_g, nI_clamp (by omega), pu_lt', nI_1]
    rw [← Nat.add_assoc, ← pu_fi_s (v := fun _ => 1) (show a ≤ a + j by omega)]) n 0 g (by omega) (by rw [Nat.add_zero, pu_fi_0])
  refine Eq.trans (show vX0_pack_31 (nI s) (nI n) (nI a) (nI a) g = vX0_pack_31 (nI s) (nI n) (nI a) (nI (a + n)) (pu_fi g 12 0 a (a + n) (fun _ => 1)) from e) ?_
  rw [eX0_pack_31, nI_add, if_pos (nI_le (Nat.le_refl _) (by omega)), eX0_pack_60, pu_lt', pu_in hs (by omega), pu_g, pu_lt', pu_g, pu_lt', pu_g, pu_lt', pu_b1, pu_g, nI_clamp (by omega), pu_ff (by decide)]
  rfl
/-- a writing looks for a slot: those below lim that were free are BAD now -/
def tl_c (gc : am_S) (lim : Nat) : am_S := fun f i j => if (f = 15 ∧ i = 0 ∧ j < lim) ∧ gc 15 0 j = 0 then 2 else gc f i j
def tl_m (gc gm : am_S) (lim : Nat) : am_S := fun f i j => if (f = 42 ∧ i = 0 ∧ j < lim) ∧ gc 15 0 j = 0 then 1 else gm f i j
theorem tl_c_f {gc : am_S} {lim f : Nat} (h : f ≠ 15) : tl_c gc lim f = gc f := by
  funext i j
  unfold tl_c
  rw [if_neg (fun z => h z.1.1)]
theorem tl_m_f {gc gm : am_S} {lim f : Nat} (h : f ≠ 42) : tl_m gc gm lim f = gm f := by
  funext i j
  unfold tl_m
  rw [if_neg (fun z => h z.1.1)]
theorem tl_c_0 {gc : am_S} : tl_c gc 0 = gc := by
  funext f i j
  unfold tl_c
  rw [if_neg (fun z => by omega)]
theorem tl_m_0 {gc gm : am_S} : tl_m gc gm 0 = gm := by
  funext f i j
  unfold tl_m
  rw [if_neg (fun z => by omega)]
theorem tl_c_at {gc : am_S} {lim : Nat} {j : Nat} (h : lim ≤ j) : tl_c gc lim 15 0 j = gc 15 0 j := by
  unfold tl_c
  rw [if_neg (fun z => by omega)]
theorem tl_m_at {gc gm : am_S} {lim : Nat} {j : Nat} (h : lim ≤ j) : tl_m gc gm lim 42 0 j = gm 42 0 j := by
  unfold tl_m
  rw [if_neg (fun z => by omega)]
theorem tl_c_s {gc : am_S} {lim : Nat} (h : gc 15 0 lim = 0) : am_up (tl_c gc lim) 15 0 lim 2 = tl_c gc (lim + 1) := by
  funext f i j
  unfold am_up tl_c
  by_cases h1 : f = 15 ∧ i = 0 ∧ j = lim
  · obtain ⟨rfl, rfl, rfl⟩ := h1
    rw [if_pos ⟨rfl, rfl, rfl⟩, if_pos ⟨⟨rfl, rfl, by omega⟩, h⟩]
  · rw [if_neg h1]
    by_cases h2 : (f = 15 ∧ i = 0 ∧ j < lim) ∧ gc 15 0 j = 0
    · rw [if_pos h2, if_pos ⟨⟨h2.1.1, h2.1.2.1, by omega⟩, h2.2⟩]
    · rw [if_neg h2, if_neg (fun z => h2 ⟨⟨z.1.1, z.1.2.1, by have : j ≠ lim := fun w => h1 ⟨z.1.1, z.1.2.1, w⟩; omega⟩, z.2⟩)]
theorem tl_m_s {gc gm : am_S} {lim : Nat} (h : gc 15 0 lim = 0) : am_up (tl_m gc gm lim) 42 0 lim 1 = tl_m gc gm (lim + 1) := by
  funext f i j
  unfold am_up tl_m
  by_cases h1 : f = 42 ∧ i = 0 ∧ j = lim
  · obtain ⟨rfl, rfl, rfl⟩ := h1
    rw [if_pos ⟨rfl, rfl, rfl⟩, if_pos ⟨⟨rfl, rfl, by omega⟩, h⟩]
  · rw [if_neg h1]
    by_cases h2 : (f = 42 ∧ i = 0 ∧ j < lim) ∧ gc 15 0 j = 0
    · rw [if_pos h2, if_pos ⟨⟨h2.1.1, h2.1.2.1, by omega⟩, h2.2⟩]
    · rw [if_neg h2, if_neg (fun z => h2 ⟨⟨z.1.1, z.1.2.1, by have : j ≠ lim := fun w => h1 ⟨z.1.1, z.1.2.1, w⟩; omega⟩, z.2⟩)]
theorem tl_c_n {gc : am_S} {lim : Nat} (h : ¬ gc 15 0 lim = 0) : tl_c gc lim = tl_c gc (lim + 1) := by
  funext f i j
  unfold tl_c
  by_cases hj : j = lim
  · subst hj
    rw [if_neg (fun z => h z.2), if_neg (fun z => h z.2)]
  · by_cases h2 : (f = 15 ∧ i = 0 ∧ j < lim) ∧ gc 15 0 j = 0
    · rw [if_pos h2, if_pos ⟨⟨h2.1.1, h2.1.2.1, by omega⟩, h2.2⟩]
    · rw [if_neg h2, if_neg (fun z => h2 ⟨⟨z.1.1, z.1.2.1, by omega⟩, z.2⟩)]
theorem tl_m_n {gc gm : am_S} {lim : Nat} (h : ¬ gc 15 0 lim = 0) : tl_m gc gm lim = tl_m gc gm (lim + 1) := by
  funext f i j
  unfold tl_m
  by_cases hj : j = lim
  · subst hj
    rw [if_neg (fun z => h z.2), if_neg (fun z => h z.2)]
  · by_cases h2 : (f = 42 ∧ i = 0 ∧ j < lim) ∧ gc 15 0 j = 0
    · rw [if_pos h2, if_pos ⟨⟨h2.1.1, h2.1.2.1, by omega⟩, h2.2⟩]
    · rw [if_neg h2, if_neg (fun z => h2 ⟨⟨z.1.1, z.1.2.1, by omega⟩, z.2⟩)]
/-- slots: free on both sides, failing on both sides -/
def sl_P (gc gm : am_S) : Prop := ∀ k, k < 24 → (gc 15 0 k = 0 ↔ (gm 42 0 k = 0 ∧ gm 41 0 k < 0)) ∧ gm 43 0 k = gc 16 0 k
theorem sm_slot {gc gm : am_S} (h : sl_P gc gm) : ∃ lim, (lim = 24 ∧ vX1_takeLowest gc = some (.inl (some (.inl (-1))), tl_c gc 24) ∧ vX7_writeSlot gm = some (.inl (some (.inl (-1))), tl_m gc gm 24)) ∨ (lim < 24 ∧ gc 15 0 lim = 0 ∧ vX1_takeLowest gc = some (.inl (some (.inl (nI lim))), am_up (tl_c gc lim) 15 0 lim 1) ∧ vX7_writeSlot gm = some (.inl (some (.inl (nI lim))), tl_m gc gm lim)) := by
  rw [eX1_takeLowest, eX7_writeSlot]
  have L := pu_loop2E 24 (fun j (x : am_S) => vX1_takeLowest_2 (nI j) x) (fun j (y : am_S) => vX7_writeSlot_2 (nI j) y) (fun j x y => x = tl_c gc j ∧ y = tl_m gc gm j)
    (fun v u => ∃ lim, lim < 24 ∧ gc 15 0 lim = 0 ∧ v = some (.inl (some (.inl (nI lim))), am_up (tl_c gc lim) 15 0 lim 1) ∧ u = some (.inl (some (.inl (nI lim))), tl_m gc gm lim)) (fun j x y hj hp => by
    obtain ⟨rfl, rfl⟩ := hp
    show (∃ x' y' : am_S, (x' = tl_c gc (j + 1) ∧ y' = tl_m gc gm (j + 1)) ∧ vX1_takeLowest_2 (nI j) (tl_c gc j) = vX1_takeLowest_2 (nI (j + 1)) x' ∧ vX7_writeSlot_2 (nI j) (tl_m gc gm j) = vX7_writeSlot_2 (nI (j + 1)) y') ∨ ∃ lim, lim < 24 ∧ gc 15 0 lim = 0 ∧ vX1_takeLowest_2 (nI j) (tl_c gc j) = some (.inl (some (.inl (nI lim))), am_up (tl_c gc lim) 15 0 lim 1) ∧ vX7_writeSlot_2 (nI j) (tl_m gc gm j) = some (.inl (some (.inl (nI lim))), tl_m gc gm lim)
    obtain ⟨k1, k2⟩ := h j hj
    rw [eX1_takeLowest_2, eX7_writeSlot_2, if_neg (pu_nge (x := 24) (k := 24) rfl hj (by omega)), if_neg (pu_nge (x := 24) (k := 24) rfl hj (by omega)), pu_in hj (by omega), pu_g, pu_g, pu_g, pu_g, pu_g, pu_g, pu_g, pu_g, pu_b1, pu_g, nI_clamp (by omega), tl_c_at (Nat.le_refl j), tl_m_at (Nat.le_refl j), tl_c_f (show 16 ≠ 15 by decide), tl_m_f (show 41 ≠ 42 by decide), tl_m_f (show 43 ≠ 42 by decide), k2, nI_1, pu_lt', pu_lt', pu_lt']
    by_cases hz : gc 15 0 j = 0
    · obtain ⟨z1, z2⟩ := k1.mp hz
      rw [if_pos hz, if_pos z1, if_pos z2]
      by_cases hf : gc 16 0 j = 0
      · rw [if_pos hf, if_pos hf]
        exact Or.inr ⟨j, hj, hz, rfl, rfl⟩
      · rw [if_neg hf, if_neg hf, tl_c_s hz, tl_m_s hz]
        exact Or.inl ⟨_, _, ⟨rfl, rfl⟩, rfl, rfl⟩
    · rw [if_neg hz, tl_c_n hz, tl_m_n hz]
      refine Or.inl ⟨_, _, ⟨rfl, rfl⟩, rfl, ?_⟩
      by_cases c1 : gm 42 0 j = 0
      · rw [if_pos c1, if_neg (fun w => hz (k1.mpr ⟨c1, w⟩))]
      · rw [if_neg c1]) 24 0 gc gm rfl ⟨tl_c_0.symm, tl_m_0.symm⟩
  rcases L with ⟨x, y, ⟨rfl, rfl⟩, e1, e2⟩ | ⟨lim, h1, h2, h3, h4⟩
  · refine ⟨24, Or.inl ⟨rfl, ?_, ?_⟩⟩
    · refine Eq.trans (show vX1_takeLowest_2 0 gc = vX1_takeLowest_2 (nI 24) (tl_c gc 24) from e1) ?_
      rw [eX1_takeLowest_2, if_pos (show (24 : Int32) ≤ nI 24 from by decide)]
    · refine Eq.trans (show vX7_writeSlot_2 0 gm = vX7_writeSlot_2 (nI 24) (tl_m gc gm 24) from e2) ?_
      rw [eX7_writeSlot_2, if_pos (show (24 : Int32) ≤ nI 24 from by decide)]
  · exact ⟨lim, Or.inr ⟨h1, h2, h3, h4⟩⟩
