/-! the public methods, on both sides -/
theorem pu_bIx {e : Nat} {g : am_S} {kk : Int32 → am_S → am_R} : am_bI (some (.inr e, g)) kk = some (.inr e, g) := rfl
theorem pu_bVx {e : Nat} {g : am_S} {kk : am_S → am_R} : am_bV (some (.inr e, g)) kk = some (.inr e, g) := rfl
theorem pu_bAx {f e : Nat} {g : am_S} {kk : Int32 → am_S → am_R} : am_bA f (some (.inr e, g)) kk = some (.inr e, g) := rfl
def rl_Q (gc gm : am_S) : Prop := ∃ be al, rl_R 8 be al gc gm ∧ rl_fx 128 al gc
theorem rl_thr_R {ex : Nat} {be : Nat → Nat} {al : Nat → Bool} {gc gm : am_S} {v : Int32} (h : rl_R ex be al gc gm) : rl_R ex be al gc (am_up gm 24 0 0 v) := by
  refine rl_mark_R h (fun _ _ _ => rfl) (fun f a _ => pu_uf a) ?_ (fun f hf => ?_)
  · obtain ⟨x, a, b, c⟩ := h.2.2.2.2.2.2.2.2.2.1
    exact ⟨x, a, b, by rw [pu_uj (by decide)]; exact c⟩
  · rw [pu_uf (by decide)]
    obtain ⟨-, -, a3, -, a5, -, a7, -⟩ := h.2.2.2.2.2.2.2.2.1 f hf
    exact ⟨a3, a5, fun z => (a7 z).1⟩
theorem rl_thr {gc gm : am_S} {v : Int32} (h : rl_Q gc gm) : rl_Q gc (am_up gm 24 0 0 v) := by
  obtain ⟨be, al, a, b⟩ := h
  exact ⟨be, al, rl_thr_R a, b⟩
theorem sm_num {n : Nat} (hn : n < 2147483648) (x : Int32) (g : am_S) : (∃ j, j < n ∧ x = nI j ∧ vX7_isNumber x (nI n) g = some (.inl (some (.inl 1)), g)) ∨ ((x < 0 ∨ (¬ x < 0 ∧ nI n ≤ x)) ∧ vX7_isNumber x (nI n) g = some (.inl (some (.inl 0)), g)) := by
  rw [eX7_isNumber]
  by_cases h0 : x < 0
  · rw [if_pos h0, pu_b0, pu_g]
    exact Or.inr ⟨Or.inl h0, rfl⟩
  · rw [if_neg h0]
    by_cases h1 : nI n ≤ x
    · rw [if_pos h1, pu_b0, pu_g]
      exact Or.inr ⟨Or.inr ⟨h0, h1⟩, rfl⟩
    · rw [if_neg h1, pu_b1, pu_g]
      obtain ⟨j, hj, rfl⟩ := nI_of h0
      refine Or.inl ⟨j, ?_, rfl, rfl⟩
      rcases Nat.lt_or_ge j n with o | o
      · exact o
      · exact absurd (nI_le o hj) h1
theorem sm_living {gc gm Y : am_S} (htk : rl_tk 8 gc gm) (hY : Y 25 = gm 25) (x : Int32) : (vX6_living x gc = some (.inr 1, gc) ∧ vX7_isLiving x Y = some (.inl (some (.inl 0)), Y)) ∨ ∃ t, t < 8 ∧ x = nI t ∧ gc 19 t 4 = 1 ∧ vX6_living x gc = some (.inl (some (.inr (.inr (19, x)))), gc) ∧ vX7_isLiving x Y = some (.inl (some (.inl 1)), Y) := by
  rw [eX6_living, eX7_isLiving]
  rcases sm_num (n := 8) (by omega) x Y with ⟨t, ht, rfl, e⟩ | ⟨hx, e⟩
  · have e' : vX7_isNumber (nI t) 8 Y = _ := e
    obtain ⟨t1, t2, -⟩ := htk t ht (by omega)
    rw [e', pu_bI, if_neg (show ¬ (1 : Int32) = 0 by decide), if_neg (pu_lt0 (by omega)), if_neg (pu_nge (x := 8) (k := 8) rfl ht (by omega)), pu_in ht (by omega), pu_g, pu_g, pu_g, nI_clamp (by omega), pu_g, hY, t1, pu_b0, pu_b1, pu_g, pu_g]
    by_cases hl : gc 19 t 4 = 0
    · rw [if_pos hl, if_pos hl]
      exact Or.inl ⟨rfl, rfl⟩
    · rw [if_neg hl, if_neg hl]
      refine Or.inr ⟨t, ht, rfl, ?_, rfl, rfl⟩
      rcases t2 with z | z
      · exact absurd z hl
      · exact z
  · have e' : vX7_isNumber x 8 Y = _ := e
    rw [e', pu_bI, if_pos rfl, pu_b0, pu_g]
    refine Or.inl ⟨?_, rfl⟩
    rcases hx with z | ⟨z, w⟩
    · rw [if_pos z]
    · rw [if_neg z, if_pos (show (8 : Int32) ≤ x from w)]
