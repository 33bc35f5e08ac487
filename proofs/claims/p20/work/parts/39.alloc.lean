/-! a new sheet, and a page that gets one -/
theorem pu_pig : ∀ (m n : Nat) (f : Nat → Nat), (∀ q, q < n → f q < m) → (∀ q r, q < n → r < n → f q = f r → q = r) → n ≤ m := by
  intro m
  induction m with
  | zero =>
    intro n f h1 _
    rcases Nat.eq_zero_or_pos n with e | e
    · omega
    · have := h1 0 e; omega
  | succ m ih =>
    intro n f h1 h2
    rcases Nat.eq_zero_or_pos n with e | e
    · omega
    · obtain ⟨k, rfl⟩ : ∃ k, n = k + 1 := ⟨n - 1, by omega⟩
      have := ih k (fun q => if f q = m then f k else f q) (fun q hq => by
        show (if f q = m then f k else f q) < m
        have a := h1 q (by omega)
        have b := h1 k (by omega)
        by_cases c : f q = m
        · rw [if_pos c]
          have : f k ≠ m := fun z => by have := h2 q k (by omega) (by omega) (c.trans z.symm); omega
          omega
        · rw [if_neg c]; omega) (fun q r hq hr hx => by
        have hx : (if f q = m then f k else f q) = (if f r = m then f k else f r) := hx
        by_cases c : f q = m
        · rw [if_pos c] at hx
          by_cases d : f r = m
          · exact h2 q r (by omega) (by omega) (c.trans d.symm)
          · rw [if_neg d] at hx
            have := h2 k r (by omega) (by omega) hx
            omega
        · rw [if_neg c] at hx
          by_cases d : f r = m
          · rw [if_pos d] at hx
            have := h2 q k (by omega) (by omega) hx
            omega
          · rw [if_neg d] at hx
            exact h2 q r (by omega) (by omega) hx)
      omega
/-- a sheet is spare while some page k0 is not needed -/
theorem rl_spare {al : Nat → Bool} {gc : am_S} {k0 : Nat} (hk0 : k0 < 128) (h : ∀ s, s < 128 → al s = true → ∃ k, k < 128 ∧ k ≠ k0 ∧ gc 23 (k / 16) (k % 16) = nI s) : 0 < rl_nd al := by
  rcases Nat.eq_zero_or_pos (rl_nd al) with e | e
  · exfalso
    have hall : ∀ s, s < 128 → al s = true := fun s hs => by
      have := (pu_cn_0 128).mp e s hs
      cases hx : al s with
      | true => rfl
      | false => rw [hx] at this; cases this
    have hex : ∀ s, ∃ k, s < 128 → (k < 128 ∧ k ≠ k0 ∧ gc 23 (k / 16) (k % 16) = nI s) := fun s => by
      by_cases hs : s < 128
      · obtain ⟨k, a⟩ := h s hs (hall s hs)
        exact ⟨k, fun _ => a⟩
      · exact ⟨0, fun z => absurd z hs⟩
    have hf := fun s => Classical.choose_spec (hex s)
    have := pu_pig 127 128 (fun s => if Classical.choose (hex s) = 127 then k0 else Classical.choose (hex s)) (fun s hs => by
      show (if Classical.choose (hex s) = 127 then k0 else Classical.choose (hex s)) < 127
      obtain ⟨a, b, -⟩ := hf s hs
      by_cases c : Classical.choose (hex s) = 127
      · rw [if_pos c]; omega
      · rw [if_neg c]; omega) (fun s r hs hr hx => by
      have hx : (if Classical.choose (hex s) = 127 then k0 else Classical.choose (hex s)) = (if Classical.choose (hex r) = 127 then k0 else Classical.choose (hex r)) := hx
      obtain ⟨a, b, c⟩ := hf s hs
      obtain ⟨a', b', c'⟩ := hf r hr
      have e : Classical.choose (hex s) = Classical.choose (hex r) := by
        by_cases d : Classical.choose (hex s) = 127
        · by_cases d' : Classical.choose (hex r) = 127
          · exact d.trans d'.symm
          · rw [if_pos d, if_neg d'] at hx; exact absurd hx.symm b'
        · by_cases d' : Classical.choose (hex r) = 127
          · rw [if_neg d, if_pos d'] at hx; exact absurd hx b
          · rw [if_neg d, if_neg d'] at hx; exact hx
      rw [e] at c
      exact pu_inj (by omega) (by omega) (c.symm.trans c'))
    omega
  · exact e
/-- the reference has a number left -/
theorem rl_left {be : Nat → Nat} {al : Nat → Bool} {gm : am_S} (hal : rl_al be al gm) : ∃ q, q < 130 ∧ gm 37 0 q = 0 ∧ ∀ k, k < q → ¬ gm 37 0 k = 0 := by
  have hex : ∃ q, q < 130 ∧ gm 37 0 q = 0 := by
    by_cases hx : ∃ q, q < 130 ∧ gm 37 0 q = 0
    · exact hx
    · exfalso
      have hs : ∀ q, ∃ s, q < 130 → (s < 128 ∧ be s = q) := fun q => by
        by_cases hq : q < 130
        · rcases hal.2.2 q hq with z | ⟨s, a, -, b⟩
          · exact absurd ⟨q, hq, z⟩ hx
          · exact ⟨s, fun _ => ⟨a, b⟩⟩
        · exact ⟨0, fun z => absurd z hq⟩
      have hf := fun q => Classical.choose_spec (hs q)
      have := pu_pig 128 130 (fun q => Classical.choose (hs q)) (fun q hq => (hf q hq).1) (fun q r hq hr he => by
        have he : Classical.choose (hs q) = Classical.choose (hs r) := he
        rw [← (hf q hq).2, ← (hf r hr).2, he])
      omega
  obtain ⟨q, hq, hz⟩ := hex
  have least : ∀ n, (∃ k, k < n ∧ gm 37 0 k = 0) → ∃ k, k < n ∧ gm 37 0 k = 0 ∧ ∀ j, j < k → ¬ gm 37 0 j = 0 := by
    intro n
    induction n with
    | zero => intro ⟨k, hk, _⟩; omega
    | succ n ih =>
      intro ⟨k, hk, hz⟩
      by_cases hx : ∃ k, k < n ∧ gm 37 0 k = 0
      · obtain ⟨k, a, b, c⟩ := ih hx
        exact ⟨k, by omega, b, c⟩
      · have : k = n := by
          rcases Nat.lt_or_ge k n with o | o
          · exact absurd ⟨k, o, hz⟩ hx
          · omega
        subst this
        exact ⟨k, hk, hz, fun j hj z => hx ⟨j, hj, z⟩⟩
  exact least 130 ⟨q, hq, hz⟩
def rl_yes (al : Nat → Bool) (s : Nat) : Nat → Bool := fun r => if r = s then true else al r
def rl_to (be : Nat → Nat) (s q : Nat) : Nat → Nat := fun r => if r = s then q else be r
theorem rl_yes_s {al : Nat → Bool} {s : Nat} : rl_yes al s s = true := if_pos rfl
theorem rl_yes_i {al : Nat → Bool} {s r : Nat} (h : r ≠ s) : rl_yes al s r = al r := if_neg h
theorem rl_to_s {be : Nat → Nat} {s q : Nat} : rl_to be s q s = q := if_pos rfl
theorem rl_to_i {be : Nat → Nat} {s q r : Nat} (h : r ≠ s) : rl_to be s q r = be r := if_neg h
theorem rl_bi_to {be : Nat → Nat} {s q : Nat} {x : Int32} (hx : rl_ok x) (h : ¬ x = nI s) : rl_bi (rl_to be s q) x = rl_bi be x := by
  rcases hx with rfl | ⟨r, hr, rfl⟩
  · rw [rl_bi_m, rl_bi_m]
  · rw [rl_bi_s hr, rl_bi_s hr, rl_to_i (fun z => h (by rw [z]))]
theorem rl_new_R {ex : Nat} {be : Nat → Nat} {al : Nat → Bool} {gc gm : am_S} {q n : Nat} (h : rl_R ex be al gc gm) (hn : rl_nd al = n + 1) (hq : q < 130) (hq0 : gm 37 0 q = 0) :
    ∃ s, s < 128 ∧ al s = false ∧ gc 4 0 n = nI s ∧ rl_R ex (rl_to be s q) (rl_yes al s) (am_up gc 2 0 2 (nI n)) (lm_ns gm q) := by
  obtain ⟨htk, hrg, hpg, hmp, hal, hdd, hsp, hsh, hfr, hhd, har, hpk, hs1, hs2⟩ := h
  obtain ⟨sp1, sp2, sp3⟩ := hsp
  obtain ⟨s, hs, h4, ha⟩ := sp2 n (by omega)
  obtain ⟨z2, z3, z4, z5, z6, zw⟩ := hdd s hs ha
  refine ⟨s, hs, ha, h4, ?_⟩
  have C : ∀ f, f ≠ 2 → (am_up gc 2 0 2 (nI n)) f = gc f := fun f a => pu_uf a
  have M : ∀ f, f ≠ 36 → f ≠ 33 → f ≠ 37 → (lm_ns gm q) f = gm f := fun f a b c => by unfold lm_ns; rw [pu_ff a, pu_uf b, pu_uf c]
  have M37 : ∀ r, (lm_ns gm q) 37 0 r = if r = q then 1 else gm 37 0 r := fun r => by
    unfold lm_ns
    rw [pu_ff (by decide), pu_uf (by decide), pu_ub]
    by_cases e : r = q
    · rw [if_pos ⟨rfl, e⟩, if_pos e]
    · rw [if_neg (fun z => e z.2), if_neg e]
  have M33 : ∀ r, (lm_ns gm q) 33 0 r = if r = q then 0 else gm 33 0 r := fun r => by
    unfold lm_ns
    rw [pu_ff (by decide), pu_ub]
    by_cases e : r = q
    · rw [if_pos ⟨rfl, e⟩, if_pos e]
    · rw [if_neg (fun z => e z.2), if_neg e, pu_uf (by decide)]
  have M36 : ∀ r k, k < 8 → r ≠ q → (lm_ns gm q) 36 0 (8 * r + k) = gm 36 0 (8 * r + k) := fun r k hk hr => by
    unfold lm_ns
    rw [pu_fout (by omega), pu_uf (by decide), pu_uf (by decide)]
  have M36q : ∀ k, k < 8 → (lm_ns gm q) 36 0 (8 * q + k) = 0 := fun k hk => by
    unfold lm_ns
    rw [pu_fin (by omega) (by omega)]
  have als : ∀ r, r < 128 → rl_yes al s r = true → r ≠ s → al r = true := fun r _ a b => by rw [rl_yes_i b] at a; exact a
  have bq : ∀ r, r < 128 → al r = true → be r ≠ q := fun r hr a b => by have := (hal.1 r hr a).2; rw [b, hq0] at this; exact absurd this (by decide)
  have nopage : ∀ t p, t < 8 → p < 16 → ¬ gc 23 t p = nI s := fun t p ht hp z => by
    have := ((hpg t p ht hp).2.2 s hs z).1
    rw [ha] at this; cases this
  have nofr : ∀ f, f < 10 → ¬ gc 8 0 f = nI s := fun f hf z => by
    have := ((hfr f hf).2.2.2.2.2.2.2 s hs z).1
    rw [ha] at this; cases this
  have up : ∀ r, al r = true → r ≠ s := fun r a b => by rw [b, ha] at a; cases a
  refine ⟨?_, ?_, ?_, ?_, ?_, ?_, ?_, ?_, ?_, ?_, ?_, ?_, ?_, ?_⟩
  · unfold rl_tk; rw [C 19 (by decide), C 23 (by decide), M 25 (by decide) (by decide) (by decide), M 26 (by decide) (by decide) (by decide), M 27 (by decide) (by decide) (by decide)]; exact htk
  · unfold rl_rg; rw [C 19 (by decide), C 20 (by decide), C 21 (by decide), M 28 (by decide) (by decide) (by decide), M 29 (by decide) (by decide) (by decide), M 30 (by decide) (by decide) (by decide)]; exact hrg
  · intro t p ht hp
    rw [C 22 (by decide), C 23 (by decide), M 31 (by decide) (by decide) (by decide), M 32 (by decide) (by decide) (by decide)]
    obtain ⟨a, b, c⟩ := hpg t p ht hp
    refine ⟨a, by rw [rl_bi_to a (nopage t p ht hp)]; exact b, fun r hr z => ?_⟩
    obtain ⟨d1, d2⟩ := c r hr z
    exact ⟨by rw [rl_yes_i (up r d1)]; exact d1, d2⟩
  · intro r hr; rw [rl_pc_congr (C 23 (by decide)), C 5 (by decide)]; exact hmp r hr
  · refine ⟨fun r hr a => ?_, fun r r' hr hr' a a' e => ?_, fun k hk => ?_⟩
    · rw [M37]
      by_cases w : r = s
      · subst w; rw [rl_to_s, if_pos rfl]; exact ⟨hq, rfl⟩
      · have har := als r hr a w
        rw [rl_to_i w, if_neg (bq r hr har)]
        exact hal.1 r hr har
    · by_cases w : r = s
      · by_cases w' : r' = s
        · rw [w, w']
        · rw [w, rl_to_s, rl_to_i w'] at e
          exact absurd e.symm (bq r' hr' (als r' hr' a' w'))
      · by_cases w' : r' = s
        · rw [w', rl_to_s, rl_to_i w] at e
          exact absurd e (bq r hr (als r hr a w))
        · rw [rl_to_i w, rl_to_i w'] at e
          exact hal.2.1 r r' hr hr' (als r hr a w) (als r' hr' a' w') e
    · rw [M37]
      by_cases w : k = q
      · exact Or.inr ⟨s, hs, rl_yes_s, by rw [rl_to_s, w]⟩
      · rw [if_neg w]
        rcases hal.2.2 k hk with z | ⟨r, hr, a, b⟩
        · exact Or.inl z
        · exact Or.inr ⟨r, hr, by rw [rl_yes_i (up r a)]; exact a, by rw [rl_to_i (up r a)]; exact b⟩
  · intro r hr a
    rw [C 5 (by decide), C 6 (by decide)]
    have w : r ≠ s := fun w => by rw [w, rl_yes_s] at a; cases a
    rw [rl_yes_i w] at a
    exact hdd r hr a
  · have hnd : rl_nd al = rl_nd (rl_yes al s) + 1 := by
      unfold rl_nd
      exact pu_cn_up (k := s) (by rw [rl_yes_s]; rfl) (by rw [ha]; rfl) (fun j hj => by rw [rl_yes_i hj]) 128 hs
    have hnn : rl_nd (rl_yes al s) = n := by omega
    refine ⟨by rw [pu_us, hnn], fun i hi => ?_, fun i j hi hj => ?_⟩
    · rw [C 4 (by decide)]
      obtain ⟨r, hr, a, b⟩ := sp2 i (by omega)
      refine ⟨r, hr, a, ?_⟩
      have w : r ≠ s := fun w => by
        rw [w, ← h4] at a
        have := sp3 i n (by omega) (by omega) a
        omega
      rw [rl_yes_i w]; exact b
    · rw [C 4 (by decide)]
      exact sp3 i j (by omega) (by omega)
  · intro r hr a
    rw [C 5 (by decide), C 6 (by decide), C 8 (by decide), C 10 (by decide), C 12 (by decide), M 34 (by decide) (by decide) (by decide), M 35 (by decide) (by decide) (by decide), M33]
    by_cases w : r = s
    · subst w
      rw [rl_to_s, if_pos rfl]
      exact ⟨z2.symm, fun k hk => by rw [M36q k hk, zw k hk], Or.inl ⟨z2, z3, z5⟩⟩
    · have har2 := als r hr a w
      rw [rl_to_i w, if_neg (bq r hr har2)]
      obtain ⟨b1, b2, b3⟩ := hsh r hr har2
      exact ⟨b1, fun k hk => by rw [M36 (be r) k hk (bq r hr har2)]; exact b2 k hk, b3⟩
  · intro f hf
    rw [C 5 (by decide), C 8 (by decide), C 9 (by decide), C 10 (by decide), M 38 (by decide) (by decide) (by decide), M 39 (by decide) (by decide) (by decide), M 40 (by decide) (by decide) (by decide)]
    obtain ⟨a1, a2, a3, a4, a5, a6, a7, a8⟩ := hfr f hf
    refine ⟨a1, by rw [rl_bi_to a1 (nofr f hf)]; exact a2, a3, a4, a5, a6, a7, fun r hr z => ?_⟩
    obtain ⟨b1, b2⟩ := a8 r hr z
    exact ⟨by rw [rl_yes_i (up r b1)]; exact b1, b2⟩
  · unfold rl_hd; rw [C 7 (by decide), M 24 (by decide) (by decide) (by decide)]; exact hhd
  · have hin : ∀ r b, rl_in (rl_yes al s) (am_up gc 2 0 2 (nI n)) r b ↔ rl_in al gc r b := fun r b => by
      unfold rl_in
      rw [C 5 (by decide)]
      by_cases w : r = s
      · rw [w, rl_yes_s, ha]
        refine ⟨fun z => ?_, fun z => absurd z.1 (by decide)⟩
        have := z.2.1
        rw [z2] at this
        exact absurd this (by decide)
      · rw [rl_yes_i w]
    refine ⟨fun b hb => ?_, fun r r' b hr hr' z z' => har.2 r r' b hr hr' ((hin r b).mp z) ((hin r' b).mp z')⟩
    rw [C 12 (by decide)]
    rcases har.1 b hb with z | ⟨z, r, hr, y⟩
    · exact Or.inl z
    · exact Or.inr ⟨z, r, hr, (hin r b).mpr y⟩
  · unfold rl_pk
    rw [C 11 (by decide), hpk]
    refine congrArg nI (pu_cn_congr 130 (fun j hj => ?_))
    show decide (gm 37 0 j = 1 ∧ gm 33 0 j = 2) = decide ((lm_ns gm q) 37 0 j = 1 ∧ (lm_ns gm q) 33 0 j = 2)
    rw [M37, M33]
    by_cases e : j = q
    · subst e
      rw [if_pos rfl, if_pos rfl, decide_eq_false (fun z => by rw [hq0] at z; exact absurd z.1 (by decide)), decide_eq_false (fun z => absurd z.2 (by decide))]
    · rw [if_neg e, if_neg e]
  · intro k hk
    rw [C 5 (by decide), C 15 (by decide), C 16 (by decide), C 17 (by decide), M 41 (by decide) (by decide) (by decide), M 42 (by decide) (by decide) (by decide), M 43 (by decide) (by decide) (by decide), M 44 (by decide) (by decide) (by decide)]
    obtain ⟨a1, a2, a3, a4, a5⟩ := hs1 k hk
    refine ⟨a1, a2, a3, a4, ?_⟩
    rcases a5 with z | z | ⟨y1, y2, r, hr, y3, y4, y5⟩
    · exact Or.inl z
    · exact Or.inr (Or.inl z)
    · exact Or.inr (Or.inr ⟨y1, y2, r, hr, by rw [rl_yes_i (up r y3)]; exact y3, by rw [rl_to_i (up r y3)]; exact y4, y5⟩)
  · intro r hr a
    rw [C 5 (by decide), M 41 (by decide) (by decide) (by decide)]
    by_cases w : r = s
    · subst w; exact Or.inl ⟨z5, z6⟩
    · rw [rl_to_i w]
      exact hs2 r hr (als r hr a w)
