/-! what the two programs do when a sheet goes -/
def rl_v (g : am_S) (fo : Nat) : am_S := if fo < 10 then am_up (am_up (am_up g 8 0 fo (-1)) 9 0 fo 0) 10 0 fo 0 else g
def rl_u (g : am_S) (s lo hi : Nat) : am_S := if lo < hi then lc_up g s lo (hi - lo) else g
def rl_rs (g : am_S) (k : Nat) : am_S := if k < 24 then am_up (am_up g 15 0 k 0) 17 0 k 0 else g
def rl_t (g : am_S) (s k1 k2 n : Nat) : am_S := am_up (am_up (lc_cl (rl_rs (rl_rs g k1) k2) s) 4 0 n (nI s)) 2 0 2 (nI (n + 1))
theorem rl_v_f {g : am_S} {fo f : Nat} (h1 : f ≠ 8) (h2 : f ≠ 9) (h3 : f ≠ 10) : rl_v g fo f = g f := by
  unfold rl_v
  split
  · rw [pu_uf h3, pu_uf h2, pu_uf h1]
  · rfl
theorem rl_u_f {g : am_S} {s lo hi f : Nat} (h1 : f ≠ 12) (h2 : f ≠ 11) (h3 : f ≠ 5) : rl_u g s lo hi f = g f := by
  unfold rl_u lc_up
  split
  · rw [pu_uf h3, pu_uf h2, pu_ff h1]
  · rfl
theorem rl_rs_f {g : am_S} {k f : Nat} (h1 : f ≠ 15) (h2 : f ≠ 17) : rl_rs g k f = g f := by
  unfold rl_rs
  split
  · rw [pu_uf h2, pu_uf h1]
  · rfl
theorem rl_cl_f {g : am_S} {s f : Nat} (h1 : f ≠ 5) (h2 : f ≠ 6) : lc_cl g s f = g f := by
  unfold lc_cl
  rw [pu_uf h1, pu_uf h1, pu_uf h1, pu_uf h1, pu_uf h1, pu_uf h1, pu_ff h2]
theorem rl_release {g : am_S} {x : Int32} {k : Nat} (h : (k < 24 ∧ x = nI k) ∨ (k = 24 ∧ x = -1)) : vX1_release x g = some (.inl none, rl_rs g k) := by
  unfold rl_rs
  rcases h with ⟨h1, rfl⟩ | ⟨rfl, rfl⟩
  · rw [if_pos h1]; exact lc_release h1
  · rw [if_neg (by omega)]; exact lc_release_no
theorem rl_75 {g : am_S} {s k1 k2 n : Nat} {a1 a2 : Int32} (hs : s < 128) (hn : n < 128) (h2 : g 2 0 2 = nI n) (hk1 : (k1 < 24 ∧ g 5 s 5 = nI k1) ∨ (k1 = 24 ∧ g 5 s 5 = -1)) (hk2 : (k2 < 24 ∧ g 5 s 6 = nI k2) ∨ (k2 = 24 ∧ g 5 s 6 = -1)) :
    vX6_unmap_75 a1 a2 (nI s) g = some (.inl none, rl_t g s k1 k2 n) := by
  rw [eX6_unmap_75, pu_in hs (by omega), pu_g, nI_clamp (by omega), rl_release hk1, pu_bV, pu_g, rl_release (g := rl_rs g k1) (k := k2) (by rw [rl_rs_f (by decide) (by decide)]; exact hk2), pu_bV, pu_g, lc_clear hs, pu_bV,
    lc_giveBack (n := n) hn hs (by rw [rl_cl_f (by decide) (by decide), rl_rs_f (by decide) (by decide), rl_rs_f (by decide) (by decide)]; exact h2), pu_bV]
  rfl
theorem rl_t_Fc {g : am_S} {s fo lo hi k1 k2 n : Nat} (hx : fo < 10 → ¬ lo < hi) (hl : ¬ lo < hi → lo = 0 ∧ hi = 0) (hfo : fo ≤ 10) (hk1 : k1 ≤ 24) (hk2 : k2 ≤ 24) : rl_Fc g (rl_t (rl_u (rl_v g fo) s lo hi) s k1 k2 n) s fo lo hi k1 k2 n := by
  have R1 : ∀ f, f ≠ 2 → f ≠ 4 → f ≠ 5 → f ≠ 6 → f ≠ 15 → f ≠ 17 → rl_t (rl_u (rl_v g fo) s lo hi) s k1 k2 n f = rl_u (rl_v g fo) s lo hi f := fun f h2 h4 h5 h6 h15 h17 => by
    unfold rl_t
    rw [pu_uf h2, pu_uf h4, rl_cl_f h5 h6, rl_rs_f h15 h17, rl_rs_f h15 h17]
  have R2 : ∀ f, f ≠ 2 → f ≠ 4 → f ≠ 5 → f ≠ 6 → f ≠ 15 → f ≠ 17 → f ≠ 12 → f ≠ 11 → f ≠ 8 → f ≠ 9 → f ≠ 10 → rl_t (rl_u (rl_v g fo) s lo hi) s k1 k2 n f = g f := fun f h2 h4 h5 h6 h15 h17 h12 h11 h8 h9 h10 => by
    rw [R1 f h2 h4 h5 h6 h15 h17, rl_u_f h12 h11 h5, rl_v_f h8 h9 h10]
  have R5 : ∀ s' j, s' ≠ s → rl_t (rl_u (rl_v g fo) s lo hi) s k1 k2 n 5 s' j = g 5 s' j := fun s' j hne => by
    unfold rl_t lc_cl
    rw [pu_uf (by decide), pu_uf (by decide), pu_ui hne, pu_ui hne, pu_ui hne, pu_ui hne, pu_ui hne, pu_ui hne, pu_ff (by decide), rl_rs_f (by decide) (by decide), rl_rs_f (by decide) (by decide)]
    unfold rl_u lc_up
    split
    · rw [pu_ui hne, pu_uf (by decide), pu_ff (by decide), rl_v_f (by decide) (by decide) (by decide)]
    · rw [rl_v_f (by decide) (by decide) (by decide)]
  refine ⟨⟨R2 19 (by decide) (by decide) (by decide) (by decide) (by decide) (by decide) (by decide) (by decide) (by decide) (by decide) (by decide), R2 20 (by decide) (by decide) (by decide) (by decide) (by decide) (by decide) (by decide) (by decide) (by decide) (by decide) (by decide), R2 21 (by decide) (by decide) (by decide) (by decide) (by decide) (by decide) (by decide) (by decide) (by decide) (by decide) (by decide), R2 22 (by decide) (by decide) (by decide) (by decide) (by decide) (by decide) (by decide) (by decide) (by decide) (by decide) (by decide), R2 23 (by decide) (by decide) (by decide) (by decide) (by decide) (by decide) (by decide) (by decide) (by decide) (by decide) (by decide), R2 7 (by decide) (by decide) (by decide) (by decide) (by decide) (by decide) (by decide) (by decide) (by decide) (by decide) (by decide), R2 16 (by decide) (by decide) (by decide) (by decide) (by decide) (by decide) (by decide) (by decide) (by decide) (by decide) (by decide)⟩, R5, ?_, ?_, ?_, ?_, ?_, ?_, ?_, ?_, ?_, ?_, ?_, ?_, ?_, ?_⟩
  · unfold rl_t lc_cl
    rw [pu_uf (by decide), pu_uf (by decide)]
    refine ⟨?_, ?_, ?_, ?_, ?_, ?_⟩
    · rw [pu_uj (by decide), pu_uj (by decide), pu_uj (by decide), pu_uj (by decide), pu_uj (by decide), pu_us]
    · rw [pu_uj (by decide), pu_uj (by decide), pu_uj (by decide), pu_uj (by decide), pu_us]
    · rw [pu_uj (by decide), pu_uj (by decide), pu_uj (by decide), pu_us]
    · rw [pu_uj (by decide), pu_uj (by decide), pu_us]
    · rw [pu_uj (by decide), pu_us]
    · rw [pu_us]
  · intro s' k hne
    unfold rl_t lc_cl
    rw [pu_uf (by decide), pu_uf (by decide), pu_uf (by decide), pu_uf (by decide), pu_uf (by decide), pu_uf (by decide), pu_uf (by decide), pu_uf (by decide), pu_fii hne, rl_rs_f (by decide) (by decide), rl_rs_f (by decide) (by decide), rl_u_f (by decide) (by decide) (by decide), rl_v_f (by decide) (by decide) (by decide)]
  · intro k hk
    unfold rl_t lc_cl
    rw [pu_uf (by decide), pu_uf (by decide), pu_uf (by decide), pu_uf (by decide), pu_uf (by decide), pu_uf (by decide), pu_uf (by decide), pu_uf (by decide), pu_fin (Nat.zero_le _) hk]
  · intro f hf
    have e : ∀ c, c = 8 ∨ c = 9 ∨ c = 10 → rl_t (rl_u (rl_v g fo) s lo hi) s k1 k2 n c 0 f = g c 0 f := fun c hc => by
      have q1 : c ≠ 2 := by omega
      have q2 : c ≠ 4 := by omega
      have q3 : c ≠ 5 := by omega
      have q4 : c ≠ 6 := by omega
      have q5 : c ≠ 15 := by omega
      have q6 : c ≠ 17 := by omega
      have q7 : c ≠ 12 := by omega
      have q8 : c ≠ 11 := by omega
      rw [R1 c q1 q2 q3 q4 q5 q6, rl_u_f q7 q8 q3]
      unfold rl_v
      split
      · rw [pu_uj hf, pu_uj hf, pu_uj hf]
      · rfl
    exact ⟨e 8 (Or.inl rfl), e 9 (Or.inr (Or.inl rfl)), e 10 (Or.inr (Or.inr rfl))⟩
  · intro hf
    rw [R1 8 (by decide) (by decide) (by decide) (by decide) (by decide) (by decide), R1 9 (by decide) (by decide) (by decide) (by decide) (by decide) (by decide), R1 10 (by decide) (by decide) (by decide) (by decide) (by decide) (by decide), rl_u_f (by decide) (by decide) (by decide), rl_u_f (by decide) (by decide) (by decide), rl_u_f (by decide) (by decide) (by decide)]
    unfold rl_v
    rw [if_pos hf]
    refine ⟨?_, ?_, ?_⟩
    · rw [pu_uf (by decide), pu_uf (by decide), pu_us]
    · rw [pu_uf (by decide), pu_us]
    · rw [pu_us]
  · intro b hb
    rw [R1 12 (by decide) (by decide) (by decide) (by decide) (by decide) (by decide)]
    unfold rl_u lc_up
    split
    · rw [pu_uf (by decide), pu_uf (by decide), pu_fout (by omega), rl_v_f (by decide) (by decide) (by decide)]
    · rw [rl_v_f (by decide) (by decide) (by decide)]
  · intro b h1 h2
    rw [R1 12 (by decide) (by decide) (by decide) (by decide) (by decide) (by decide)]
    unfold rl_u lc_up
    rw [if_pos (by omega), pu_uf (by decide), pu_uf (by decide), pu_fin h1 (by omega)]
  · rw [R1 11 (by decide) (by decide) (by decide) (by decide) (by decide) (by decide)]
    unfold rl_u lc_up
    split
    · rw [pu_uf (by decide), pu_us, rl_v_f (by decide) (by decide) (by decide)]
    · rw [rl_v_f (by decide) (by decide) (by decide)]
  · intro k h1 h2
    have e : ∀ c, c = 15 ∨ c = 17 → rl_t (rl_u (rl_v g fo) s lo hi) s k1 k2 n c 0 k = g c 0 k := fun c hc => by
      have q1 : c ≠ 2 := by omega
      have q2 : c ≠ 4 := by omega
      have q3 : c ≠ 5 := by omega
      have q4 : c ≠ 6 := by omega
      have q7 : c ≠ 12 := by omega
      have q8 : c ≠ 11 := by omega
      have q9 : c ≠ 8 := by omega
      have q10 : c ≠ 9 := by omega
      have q11 : c ≠ 10 := by omega
      unfold rl_t
      rw [pu_uf q1, pu_uf q2, rl_cl_f q3 q4]
      have r : ∀ (gg : am_S) (kk : Nat), k ≠ kk → rl_rs gg kk c 0 k = gg c 0 k := fun gg kk hne => by
        unfold rl_rs
        split
        · rw [pu_uj hne, pu_uj hne]
        · rfl
      rw [r _ _ h2, r _ _ h1, rl_u_f q7 q8 q3, rl_v_f q9 q10 q11]
    exact ⟨e 15 (Or.inl rfl), e 17 (Or.inr rfl)⟩
  · intro hk
    have r : ∀ (gg : am_S) (kk c : Nat), (c = 15 ∨ c = 17) → gg c 0 k1 = 0 → rl_rs gg kk c 0 k1 = 0 := fun gg kk c hc hz => by
      unfold rl_rs
      split
      · rw [am_up, am_up]
        split
        · rfl
        · split
          · rfl
          · exact hz
      · exact hz
    unfold rl_t
    rw [pu_uf (by decide), pu_uf (by decide), pu_uf (by decide), pu_uf (by decide), rl_cl_f (by decide) (by decide), rl_cl_f (by decide) (by decide)]
    refine ⟨r _ _ 15 (Or.inl rfl) ?_, r _ _ 17 (Or.inr rfl) ?_⟩
    · unfold rl_rs; rw [if_pos hk, pu_uf (by decide), pu_us]
    · unfold rl_rs; rw [if_pos hk, pu_us]
  · intro hk
    unfold rl_t
    rw [pu_uf (by decide), pu_uf (by decide), pu_uf (by decide), pu_uf (by decide), rl_cl_f (by decide) (by decide), rl_cl_f (by decide) (by decide)]
    refine ⟨?_, ?_⟩
    · unfold rl_rs; rw [if_pos hk, pu_uf (by decide), pu_us]
    · unfold rl_rs; rw [if_pos hk, pu_us]
  · intro i hi9
    unfold rl_t
    rw [pu_uf (by decide), pu_uj hi9, rl_cl_f (by decide) (by decide), rl_rs_f (by decide) (by decide), rl_rs_f (by decide) (by decide), rl_u_f (by decide) (by decide) (by decide), rl_v_f (by decide) (by decide) (by decide)]
  · unfold rl_t
    rw [pu_uf (by decide), pu_us]
  · unfold rl_t
    rw [pu_us]
