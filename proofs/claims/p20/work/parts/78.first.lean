/-! the first store -/
def g0 : am_S := fun f _ j => if f = 4 then nI j else if f = 2 then nI 128 else if f = 5 then (if j = 3 ∨ j = 5 ∨ j = 6 then -1 else 0) else if f = 8 ∨ f = 23 ∨ f = 31 ∨ f = 38 ∨ f = 41 then -1 else 0
theorem g0_Q : rl_Q g0 g0 := by
  have pc0 : ∀ s, s < 128 → rl_pc g0 s = 0 := fun s hs => (pu_cn_0 128).mpr (fun k hk => decide_eq_false (fun z => pu_m1 (show s < 2147483648 by omega) (show (-1 : Int32) = nI s from z).symm))
  have nd : rl_nd (fun _ => false) = 128 := by decide +kernel
  refine ⟨fun s => s, fun _ => false, ⟨?_, ?_, ?_, ?_, ?_, ?_, ?_, ?_, ?_, ?_, ?_, ?_, ?_, ?_⟩, ?_⟩
  · intro t ht _
    exact ⟨rfl, Or.inl rfl, Or.inl rfl, fun z => absurd (show (0 : Int32) = 1 from z) (by decide), fun _ => ⟨rfl, fun p hp => rfl⟩, rfl⟩
  · intro t ht
    exact ⟨rfl, fun i hi => rfl, fun i hi => rfl⟩
  · intro t p ht hp
    exact ⟨Or.inl rfl, rl_bi_m.symm, fun s hs z => absurd (show (-1 : Int32) = nI s from z).symm (pu_m1 (by omega))⟩
  · intro s hs
    rw [pc0 s hs]
    rfl
  · exact ⟨fun s hs z => absurd z Bool.false_ne_true, fun s s' hs hs' z => absurd z Bool.false_ne_true, fun q hq => Or.inl rfl⟩
  · intro s hs _
    exact ⟨rfl, rfl, rfl, rfl, rfl, fun k hk => rfl⟩
  · refine ⟨by rw [nd]; rfl, fun i hi => ⟨i, by rw [nd] at hi; exact hi, rfl, rfl⟩, fun i j hi hj z => ?_⟩
    rw [nd] at hi hj
    exact pu_inj (by omega) (by omega) (show nI i = nI j from z)
  · intro s hs z
    exact absurd z Bool.false_ne_true
  · intro f hf
    exact ⟨Or.inl rfl, rl_bi_m.symm, rfl, rfl, Or.inl rfl, Or.inl rfl, fun _ => ⟨rfl, rfl⟩, fun s hs z => absurd (show (-1 : Int32) = nI s from z).symm (pu_m1 (by omega))⟩
  · exact ⟨0, by decide, rfl, rfl⟩
  · exact ⟨fun b hb => Or.inl rfl, fun s s' b hs hs' z => absurd z.1 Bool.false_ne_true⟩
  · have : pu_cn (fun q => decide (g0 37 0 q = 1 ∧ g0 33 0 q = 2)) 130 = 0 := (pu_cn_0 130).mpr (fun q hq => decide_eq_false (fun z => absurd (show (0 : Int32) = 1 from z.1) (by decide)))
    unfold rl_pk
    rw [this]
    rfl
  · intro k hk
    exact ⟨rfl, Or.inl rfl, rfl, Or.inl rfl, Or.inl ⟨rfl, rfl, rfl, rfl⟩⟩
  · intro s hs z
    exact absurd z Bool.false_ne_true
  · intro s hs z
    exact absurd z Bool.false_ne_true
/-- cells that are the same -/
def cw_eqv (x y : va_E) : Prop := x = y ∨ (∃ c n f f', x = .inl (c, n, .inr (.inr (.inr (.inr f)))) ∧ y = .inl (c, n, .inr (.inr (.inr (.inr f')))) ∧ ∀ j, j < n → f j = f' j) ∨ ∃ c n f f', x = .inl (c, n, .inl f) ∧ y = .inl (c, n, .inl f') ∧ ∀ j, j < n → f j = f' j
theorem arrV_same {c : ClassId} {n : Nat} {f f' : Nat → Value} (h : ∀ j, j < n → f j = f' j) : arrV c n f = arrV c n f' := by
  unfold arrV
  congr 1
  apply Array.ext
  · simp
  · intro i h1 h2
    simp at h1
    simp [h i h1]
theorem cw_same {D : va_G} {o n : Nat} {w w' : Nat → va_E} {H : Heap} (h : ∀ k, k < n → cw_eqv (w k) (w' k)) (hP : va_P D vwCl (cw_l o n w) H) : va_P D vwCl (cw_l o n w') H := by
  intro k q hq
  obtain ⟨hk, rfl⟩ := cw_l_lt hq
  have hp := hP k _ (cw_l_get hk)
  rcases h k hk with e | ⟨c, m, f, f', e1, e2, e3⟩ | ⟨c, m, f, f', e1, e2, e3⟩
  · rw [e] at hp; exact hp
  · rw [e1] at hp
    rw [e2]
    have : vp_cell c (m, .inr (.inr (.inr (.inr f)))) = vp_cell c (m, .inr (.inr (.inr (.inr f')))) := by
      show arrV c m (fun j => va_rf (f j)) = arrV c m (fun j => va_rf (f' j))
      exact arrV_same (fun j hj => by rw [e3 j hj])
    show H[o + k]? = some (vp_cell c (m, .inr (.inr (.inr (.inr f')))))
    rw [← this]
    exact hp
  · rw [e1] at hp
    rw [e2]
    have : vp_cell c (m, .inl f) = vp_cell c (m, .inl f') := by
      show arrV c m (fun j => .int (f j)) = arrV c m (fun j => .int (f' j))
      exact arrV_same (fun j hj => by rw [e3 j hj])
    show H[o + k]? = some (vp_cell c (m, .inl f'))
    rw [← this]
    exact hp
theorem cw_am (o : Nat) (cy : Nat → ClassId) (g : am_S) : cw_l o 335 (fun k => am_ce o cy g (am_de k).1 (am_de k).2) = am_wl o cy g := rfl
