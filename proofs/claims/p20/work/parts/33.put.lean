/-! putting a frame's sheet away, on both sides -/
def lc_vc (g : am_S) (f : Nat) : am_S := am_up (am_up (am_up g 8 0 f (-1)) 9 0 f 0) 10 0 f 0
def lm_vc (g : am_S) (f : Nat) : am_S := am_up (am_up (am_up g 38 0 f (-1)) 39 0 f 0) 40 0 f 0
theorem lc_vc_f {g : am_S} {f c : Nat} (h1 : c ≠ 8) (h2 : c ≠ 9) (h3 : c ≠ 10) : lc_vc g f c = g c := by unfold lc_vc; rw [pu_uf h3, pu_uf h2, pu_uf h1]
theorem lm_vc_f {g : am_S} {f c : Nat} (h1 : c ≠ 38) (h2 : c ≠ 39) (h3 : c ≠ 40) : lm_vc g f c = g c := by unfold lm_vc; rw [pu_uf h3, pu_uf h2, pu_uf h1]
theorem lc_vc_a {g : am_S} {f : Nat} : (lc_vc g f) 8 0 f = -1 ∧ (lc_vc g f) 9 0 f = 0 ∧ (lc_vc g f) 10 0 f = 0 := by
  unfold lc_vc
  refine ⟨?_, ?_, ?_⟩
  · rw [pu_uf (by decide), pu_uf (by decide), pu_us]
  · rw [pu_uf (by decide), pu_us]
  · rw [pu_us]
theorem lm_vc_a {g : am_S} {f : Nat} : (lm_vc g f) 38 0 f = -1 ∧ (lm_vc g f) 39 0 f = 0 ∧ (lm_vc g f) 40 0 f = 0 := by
  unfold lm_vc
  refine ⟨?_, ?_, ?_⟩
  · rw [pu_uf (by decide), pu_uf (by decide), pu_us]
  · rw [pu_uf (by decide), pu_us]
  · rw [pu_us]
theorem lc_vc_o {g : am_S} {f f' : Nat} (h : f' ≠ f) : (lc_vc g f) 8 0 f' = g 8 0 f' ∧ (lc_vc g f) 9 0 f' = g 9 0 f' ∧ (lc_vc g f) 10 0 f' = g 10 0 f' := by
  unfold lc_vc
  refine ⟨?_, ?_, ?_⟩ <;> rw [pu_uj h, pu_uj h, pu_uj h]
theorem lm_vc_o {g : am_S} {f f' : Nat} (h : f' ≠ f) : (lm_vc g f) 38 0 f' = g 38 0 f' ∧ (lm_vc g f) 39 0 f' = g 39 0 f' ∧ (lm_vc g f) 40 0 f' = g 40 0 f' := by
  unfold lm_vc
  refine ⟨?_, ?_, ?_⟩ <;> rw [pu_uj h, pu_uj h, pu_uj h]
theorem pu_comm {g : am_S} {f i j f' i' j' : Nat} {v v' : Int32} (h : f ≠ f') : am_up (am_up g f i j v) f' i' j' v' = am_up (am_up g f' i' j' v') f i j v := by
  funext a b c
  unfold am_up
  by_cases h1 : a = f' ∧ b = i' ∧ c = j'
  · rw [if_pos h1, if_neg (fun z => h (z.1.symm.trans h1.1)), if_pos h1]
  · rw [if_neg h1, if_neg h1]
theorem tl_c_up {g : am_S} {f i j l : Nat} {v : Int32} (h : f ≠ 15) : tl_c (am_up g f i j v) l = am_up (tl_c g l) f i j v := by
  funext a b c
  unfold tl_c
  rw [pu_uf (g := g) (Ne.symm h)]
  by_cases h1 : (a = 15 ∧ b = 0 ∧ c < l) ∧ g 15 0 c = 0
  · rw [if_pos h1]
    unfold am_up
    rw [if_neg (fun z => h (z.1.symm.trans h1.1.1))]
    exact (if_pos h1).symm
  · rw [if_neg h1]
    unfold am_up
    by_cases h2 : a = f ∧ b = i ∧ c = j
    · rw [if_pos h2, if_pos h2]
    · rw [if_neg h2, if_neg h2]
      exact (if_neg h1).symm
theorem tl_m_up {g m : am_S} {f i j l : Nat} {v : Int32} (h : f ≠ 42) : tl_m g (am_up m f i j v) l = am_up (tl_m g m l) f i j v := by
  funext a b c
  unfold tl_m
  by_cases h1 : (a = 42 ∧ b = 0 ∧ c < l) ∧ g 15 0 c = 0
  · rw [if_pos h1]
    unfold am_up
    rw [if_neg (fun z => h (z.1.symm.trans h1.1.1))]
    exact (if_pos h1).symm
  · rw [if_neg h1]
    unfold am_up
    by_cases h2 : a = f ∧ b = i ∧ c = j
    · rw [if_pos h2, if_pos h2]
    · rw [if_neg h2, if_neg h2]
      exact (if_neg h1).symm
theorem tl_m_cg {g g' m : am_S} {l : Nat} (h : g' 15 = g 15) : tl_m g' m l = tl_m g m l := by
  unfold tl_m
  rw [h]
theorem tl_vc {g : am_S} {f l : Nat} : tl_c (lc_vc g f) l = lc_vc (tl_c g l) f := by
  unfold lc_vc
  rw [tl_c_up (by decide), tl_c_up (by decide), tl_c_up (by decide)]
theorem tl_mvc {g m : am_S} {f l : Nat} : tl_m g (lm_vc m f) l = lm_vc (tl_m g m l) f := by
  unfold lm_vc
  rw [tl_m_up (by decide), tl_m_up (by decide), tl_m_up (by decide)]
theorem up_vc {g : am_S} {f c i j : Nat} {v : Int32} (h1 : c ≠ 8) (h2 : c ≠ 9) (h3 : c ≠ 10) : am_up (lc_vc g f) c i j v = lc_vc (am_up g c i j v) f := by
  unfold lc_vc
  rw [pu_comm (Ne.symm h3), pu_comm (Ne.symm h2), pu_comm (Ne.symm h1)]
theorem up_mvc {g : am_S} {f c i j : Nat} {v : Int32} (h1 : c ≠ 38) (h2 : c ≠ 39) (h3 : c ≠ 40) : am_up (lm_vc g f) c i j v = lm_vc (am_up g c i j v) f := by
  unfold lm_vc
  rw [pu_comm (Ne.symm h3), pu_comm (Ne.symm h2), pu_comm (Ne.symm h1)]
/-- the slots of a sheet -/
theorem rl_slots {ex : Nat} {be : Nat → Nat} {al : Nat → Bool} {gc gm : am_S} {s : Nat} (h : rl_R ex be al gc gm) (hs : s < 128) (ha : al s = true) {j : Nat} (hj : j < 24) (hx : gm 41 0 j = nI (be s)) : gc 5 s 5 = nI j ∨ gc 5 s 6 = nI j := by
  obtain ⟨-, -, -, -, hal, -, -, -, -, -, -, -, hs1, -⟩ := h
  have hb := (hal.1 s hs ha).1
  rcases (hs1 j hj).2.2.2.2 with ⟨-, -, z, -⟩ | ⟨-, -, z, -⟩ | ⟨-, -, r, hr, z1, z2, z3⟩
  · rw [hx] at z; exact absurd z (pu_m1 (by omega))
  · rw [hx] at z; exact absurd z (pu_m1 (by omega))
  · rw [hx] at z2
    have := hal.2.1 s r hs hr ha z1 (pu_inj (by omega) (by have := (hal.1 r hr z1).1; omega) z2)
    subst this
    exact z3
theorem sm_sn {ex : Nat} {be : Nat → Nat} {al : Nat → Bool} {gc gm Y : am_S} {s : Nat} (h : rl_R ex be al gc gm) (hs : s < 128) (ha : al s = true) (hY : Y 41 = gm 41) : vX7_slotNumber (nI (be s)) 0 Y = some (.inl (some (.inl (gc 5 s 5))), Y) ∧ vX7_slotNumber (nI (be s)) 1 Y = some (.inl (some (.inl (gc 5 s 6))), Y) := by
  have key := fun j hj hx => rl_slots (j := j) h hs ha hj hx
  obtain ⟨-, -, -, -, -, -, -, -, -, -, -, -, -, hs2⟩ := h
  rw [← hY] at key
  rcases hs2 s hs ha with ⟨a, b⟩ | ⟨k, a, b, c, d | ⟨k', d1, d2, d3, d4⟩⟩
  · have no : ∀ j, j < 24 → ¬ Y 41 0 j = nI (be s) := fun j hj hx => by
      rcases key j hj hx with z | z
      · rw [a] at z; exact pu_m1 (by omega) z.symm
      · rw [b] at z; exact pu_m1 (by omega) z.symm
    rw [a, b]
    exact ⟨lm_sn_no no, lm_sn_no no⟩
  · rw [← hY] at c
    have un : ∀ j, j < 24 → Y 41 0 j = nI (be s) → j = k := fun j hj hx => by
      rcases key j hj hx with z | z
      · rw [b] at z; exact (pu_inj (by omega) (by omega) z).symm
      · rw [d] at z; exact absurd z.symm (pu_m1 (by omega))
    rw [b, d]
    exact ⟨lm_sn0_at a c (fun j hj hx => by have := un j (by omega) hx; omega), lm_sn1_no a c un⟩
  · rw [← hY] at c d4
    have un : ∀ j, j < 24 → Y 41 0 j = nI (be s) → j = k ∨ j = k' := fun j hj hx => by
      rcases key j hj hx with z | z
      · rw [b] at z; exact Or.inl (pu_inj (by omega) (by omega) z).symm
      · rw [d3] at z; exact Or.inr (pu_inj (by omega) (by omega) z).symm
    rw [b, d3]
    exact ⟨lm_sn0_at a c (fun j hj hx => by have := un j (by omega) hx; omega), lm_sn1_at d1 d2 c d4 (fun j hj hx => by have := un j (by omega) hx; omega)⟩
/-- A: its slots still hold it -/
theorem rl_outA {ex : Nat} {be : Nat → Nat} {al : Nat → Bool} {gc gm : am_S} {s fo k : Nat} (h : rl_R ex be al gc gm) (hs : s < 128) (ha : al s = true) (hfo : fo < 10) (h2 : gc 5 s 2 = 1) (h3 : gc 5 s 3 = nI fo) (h8 : gc 8 0 fo = nI s) (hk : k < 24) (h5 : gc 5 s 5 = nI k) :
    rl_R ex be al (lc_vc (am_up (am_up gc 5 s 2 3) 5 s 3 (-1)) fo) (lm_vc (am_up gm 33 0 (be s) 3) fo) := by
  have hR := h
  obtain ⟨-, -, -, -, hal, -, -, hsh, -, -, har, hpk, hs1, hs2⟩ := h
  have hwh := (hsh s hs ha).1
  have CU : ∀ f, f ≠ 5 → f ≠ 8 → f ≠ 9 → f ≠ 10 → (lc_vc (am_up (am_up gc 5 s 2 3) 5 s 3 (-1)) fo) f = gc f := fun f a b c d => by rw [lc_vc_f b c d, pu_uf a, pu_uf a]
  have C5 : (lc_vc (am_up (am_up gc 5 s 2 3) 5 s 3 (-1)) fo) 5 = (am_up (am_up gc 5 s 2 3) 5 s 3 (-1)) 5 := lc_vc_f (by decide) (by decide) (by decide)
  have C5r : ∀ r j, r ≠ s → (lc_vc (am_up (am_up gc 5 s 2 3) 5 s 3 (-1)) fo) 5 r j = gc 5 r j := fun r j hr => by rw [C5, pu_ui hr, pu_ui hr]
  have C52 : (lc_vc (am_up (am_up gc 5 s 2 3) 5 s 3 (-1)) fo) 5 s 2 = 3 := by rw [C5, pu_uj (by decide), pu_us]
  have C5j : ∀ j, j ≠ 2 → j ≠ 3 → (lc_vc (am_up (am_up gc 5 s 2 3) 5 s 3 (-1)) fo) 5 s j = gc 5 s j := fun j a b => by rw [C5, pu_uj b, pu_uj a]
  have C5a : ∀ r j, j ≠ 2 → j ≠ 3 → (lc_vc (am_up (am_up gc 5 s 2 3) 5 s 3 (-1)) fo) 5 r j = gc 5 r j := fun r j a b => by
    by_cases e : r = s
    · rw [e]; exact C5j j a b
    · exact C5r r j e
  have MU : ∀ f, f ≠ 33 → f ≠ 38 → f ≠ 39 → f ≠ 40 → (lm_vc (am_up gm 33 0 (be s) 3) fo) f = gm f := fun f a b c d => by rw [lm_vc_f b c d, pu_uf a]
  have M33 : (lm_vc (am_up gm 33 0 (be s) 3) fo) 33 = (am_up gm 33 0 (be s) 3) 33 := lm_vc_f (by decide) (by decide) (by decide)
  have M33r : ∀ r, r ≠ be s → (lm_vc (am_up gm 33 0 (be s) 3) fo) 33 0 r = gm 33 0 r := fun r hr => by rw [M33, pu_uj hr]
  have M33s : (lm_vc (am_up gm 33 0 (be s) 3) fo) 33 0 (be s) = 3 := by rw [M33, pu_us]
  refine rl_out_R hR hs ha hfo h2 h3 h8 (fun f a b c d _ _ _ => CU f a b c d) C5r (C5j 1 (by decide) (by decide)) (fun f hf => ?_) lc_vc_a (fun b hb => ?_) (fun f a _ _ b c d _ _ => MU f a b c d) (fun r hr => ⟨M33r r hr, by rw [MU 34 (by decide) (by decide) (by decide) (by decide)], by rw [MU 35 (by decide) (by decide) (by decide) (by decide)]⟩) (by rw [M33s, C52]) (fun f hf => ?_) lm_vc_a (Or.inr ⟨C52, k, hk, by rw [C5j 5 (by decide) (by decide)]; exact h5⟩) ?_ ?_ ?_ ?_
  · obtain ⟨a, b, c⟩ := lc_vc_o (g := am_up (am_up gc 5 s 2 3) 5 s 3 (-1)) hf
    rw [a, b, c, pu_uf (by decide), pu_uf (by decide), pu_uf (by decide), pu_uf (by decide), pu_uf (by decide), pu_uf (by decide)]
    exact ⟨rfl, rfl, rfl⟩
  · rw [CU 12 (by decide) (by decide) (by decide) (by decide)]; exact hb
  · obtain ⟨a, b, c⟩ := lm_vc_o (g := am_up gm 33 0 (be s) 3) hf
    rw [a, b, c, pu_uf (by decide), pu_uf (by decide), pu_uf (by decide)]
    exact ⟨rfl, rfl, rfl⟩
  · exact rl_ar_no har C5r (CU 12 (by decide) (by decide) (by decide) (by decide)) (by rw [h2]; decide) (by rw [C52]; decide)
  · exact rl_pk_no hpk (CU 11 (by decide) (by decide) (by decide) (by decide)) (MU 37 (by decide) (by decide) (by decide) (by decide)) M33r (by rw [hwh, h2]; decide) (by rw [M33s]; decide)
  · intro j hj
    rw [CU 15 (by decide) (by decide) (by decide) (by decide), CU 16 (by decide) (by decide) (by decide) (by decide), CU 17 (by decide) (by decide) (by decide) (by decide), MU 41 (by decide) (by decide) (by decide) (by decide), MU 42 (by decide) (by decide) (by decide) (by decide), MU 43 (by decide) (by decide) (by decide) (by decide), MU 44 (by decide) (by decide) (by decide) (by decide)]
    obtain ⟨a1, a2, a3, a4, a5⟩ := hs1 j hj
    refine ⟨a1, a2, a3, a4, ?_⟩
    rcases a5 with z | z | ⟨z1, z2, r, hr, z3, z4, z5⟩
    · exact Or.inl z
    · exact Or.inr (Or.inl z)
    · exact Or.inr (Or.inr ⟨z1, z2, r, hr, z3, z4, by rw [C5a r 5 (by decide) (by decide), C5a r 6 (by decide) (by decide)]; exact z5⟩)
  · intro r hr hr2
    rw [C5a r 5 (by decide) (by decide), C5a r 6 (by decide) (by decide), MU 41 (by decide) (by decide) (by decide) (by decide)]
    exact hs2 r hr hr2
