/-! broken: the class answers 0 -/
def rl_pcn (g : am_S) (s m : Nat) : Nat := pu_cn (fun k => decide (g 23 (k / 16) (k % 16) = nI s)) m
theorem rl_pcn_s {g : am_S} {s i j : Nat} (hj : j < 16) : rl_pcn g s (16 * i + (j + 1)) = rl_pcn g s (16 * i + j) + (if g 23 i j = nI s then 1 else 0) := by
  have st : rl_pcn g s (16 * i + j + 1) = rl_pcn g s (16 * i + j) + (match decide (g 23 ((16 * i + j) / 16) ((16 * i + j) % 16) = nI s) with | true => 1 | false => 0) := rfl
  rw [← Nat.add_assoc, st, (rl_div hj).1, (rl_div hj).2]
  by_cases c : g 23 i j = nI s
  · rw [decide_eq_true c, if_pos c]
  · rw [decide_eq_false c, if_neg c]
def lc_sc (gc g : am_S) : Prop := (∀ f, f ≠ 5 → f ≠ 13 → f ≠ 18 → g f = gc f) ∧ (∀ r j, j ≠ 7 → g 5 r j = gc 5 r j)
theorem lc_sc_up7 {gc g : am_S} {s : Nat} {v : Int32} (h : lc_sc gc g) : lc_sc gc (am_up g 5 s 7 v) := ⟨fun f a b c => by rw [pu_uf a]; exact h.1 f a b c, fun r j hj => by rw [pu_uj hj]; exact h.2 r j hj⟩
theorem lc_pages {gc : am_S} (hok : ∀ t p, t < 8 → p < 16 → rl_ok (gc 23 t p)) : ∃ g', vX6_countPages gc = some (.inl none, g') ∧ lc_sc gc g' ∧ ∀ s, s < 128 → g' 5 s 7 = nI (rl_pc gc s) := by
  rw [eX6_countPages]
  obtain ⟨g1, ⟨a1, a2⟩, e1⟩ := pu_loop 128 (fun j (g : am_S) => vX6_countPages_2 (nI j) g) (fun j g => lc_sc gc g ∧ ∀ s, s < j → g 5 s 7 = 0) (fun j g hj hP => by
    rw [eX6_countPages_2, if_neg (pu_nge (x := Int32.ofNat 128) (k := 128) rfl hj (by omega)), pu_in hj (by omega), pu_g, pu_g, pu_lt', nI_clamp (by omega), nI_1]
    refine ⟨_, ⟨lc_sc_up7 hP.1, fun s hs => ?_⟩, rfl⟩
    rw [pu_ub]
    by_cases e : s = j
    · rw [if_pos ⟨e, rfl⟩]
    · rw [if_neg (fun q => e q.1)]; exact hP.2 s (by omega)) 128 0 gc rfl ⟨⟨fun _ _ _ _ => rfl, fun _ _ _ => rfl⟩, fun s hs => by omega⟩
  have E1 : vX6_countPages_2 0 gc = vX6_countPages_2 (nI 128) g1 := e1
  rw [E1, eX6_countPages_2, if_pos (show (Int32.ofNat 128) ≤ nI 128 from by decide)]
  obtain ⟨x, ⟨b1, b2⟩, e2⟩ := pu_loop 8 (fun i (x : Option am_v × Option am_v × am_S) => vX6_countPages_35 (nI i) x.1 x.2.1 x.2.2) (fun i x => lc_sc gc x.2.2 ∧ ∀ s, s < 128 → x.2.2 5 s 7 = nI (rl_pcn gc s (16 * i))) (fun i x hi hP => by
    obtain ⟨o1, o2, g⟩ := x
    obtain ⟨y, ⟨c1, c2⟩, e3⟩ := pu_loop 16 (fun j (y : Option am_v × am_S) => vX6_countPages_43 (nI i) (nI j) y.1 y.2) (fun j y => lc_sc gc y.2 ∧ ∀ s, s < 128 → y.2 5 s 7 = nI (rl_pcn gc s (16 * i + j))) (fun j y hj hQ => by
      obtain ⟨o, h⟩ := y
      obtain ⟨q1, q2⟩ := hQ
      dsimp only at q1 q2
      show ∃ y' : Option am_v × am_S, (lc_sc gc y'.2 ∧ ∀ s, s < 128 → y'.2 5 s 7 = nI (rl_pcn gc s (16 * i + (j + 1)))) ∧ vX6_countPages_43 (nI i) (nI j) o h = vX6_countPages_43 (nI i) (nI (j + 1)) y'.1 y'.2
      rw [eX6_countPages_43, if_neg (pu_nge (x := 16) (k := 16) rfl hj (by omega)), pu_in hi (by omega), pu_g, pu_g, pu_g, pu_in hj (by omega), pu_g, pu_lv, nI_clamp (show i < 2 ^ 31 by omega), nI_clamp (show j < 2 ^ 31 by omega), q1.1 23 (by decide) (by decide) (by decide), nI_1]
      rcases hok i j hi hj with z | ⟨s, hs, z⟩
      · rw [z, if_pos pu_neg]
        refine ⟨(_, h), ⟨q1, fun r hr => ?_⟩, rfl⟩
        rw [rl_pcn_s hj, if_neg (fun w => by rw [z] at w; exact pu_m1 (by omega) w.symm)]
        exact q2 r hr
      · rw [z, if_neg (pu_lt0 (by omega)), pu_in hs (by omega), pu_g, pu_g, pu_lt', nI_clamp (show s < 2 ^ 31 by omega), q2 s hs, nI_1]
        refine ⟨(_, am_up h 5 s 7 (nI (rl_pcn gc s (16 * i + j) + 1))), ⟨lc_sc_up7 q1, fun r hr => ?_⟩, rfl⟩
        show (am_up h 5 s 7 (nI (rl_pcn gc s (16 * i + j) + 1))) 5 r 7 = _
        rw [pu_ub, rl_pcn_s hj, z]
        by_cases e : r = s
        · rw [if_pos ⟨e, rfl⟩, e, if_pos rfl]
        · rw [if_neg (fun q => e q.1), if_neg (fun w => e (pu_inj (by omega) (by omega) w).symm)]
          exact q2 r hr) 16 0 (o2, g) rfl ⟨hP.1, hP.2⟩
    refine ⟨(some (.inl (nI 16)), y.1, y.2), ⟨c1, c2⟩, ?_⟩
    show vX6_countPages_35 (nI i) o1 o2 g = vX6_countPages_35 (nI (i + 1)) (some (.inl (nI 16))) y.1 y.2
    rw [eX6_countPages_35, if_neg (pu_nge (x := 8) (k := 8) rfl hi (by omega))]
    refine Eq.trans (show vX6_countPages_43 (nI i) 0 o2 g = vX6_countPages_43 (nI i) (nI 16) y.1 y.2 from e3) ?_
    rw [eX6_countPages_43, if_pos (show (16 : Int32) ≤ nI 16 from by decide), nI_1]) 8 0 (none, none, g1) rfl ⟨a1, fun s hs => a2 s hs⟩
  refine ⟨x.2.2, ?_, b1, b2⟩
  refine Eq.trans (show vX6_countPages_35 0 none none g1 = vX6_countPages_35 (nI 8) x.1 x.2.1 x.2.2 from e2) ?_
  rw [eX6_countPages_35, if_pos (show (8 : Int32) ≤ nI 8 from by decide)]
theorem lc_clrA {g : am_S} : ∃ g', vX0_clearClaims g = some (.inl none, g') ∧ (∀ f, f ≠ 13 → g' f = g f) ∧ ∀ b, b < 64 → g' 13 0 b = 0 := by
  rw [eX0_clearClaims]
  obtain ⟨g1, ⟨a1, a2⟩, e1⟩ := pu_loop 64 (fun j (x : am_S) => vX0_clearClaims_2 (nI j) x) (fun j x => (∀ f, f ≠ 13 → x f = g f) ∧ ∀ b, b < j → x 13 0 b = 0) (fun j x hj hP => by
    rw [eX0_clearClaims_2, if_neg (pu_nge (x := 64) (k := 64) rfl hj (by omega)), pu_in hj (by omega), pu_g, pu_lt', nI_clamp (by omega), nI_1]
    refine ⟨_, ⟨fun f hf => by rw [pu_uf hf]; exact hP.1 f hf, fun b hb => ?_⟩, rfl⟩
    rw [pu_ub]
    by_cases e : b = j
    · rw [if_pos ⟨rfl, e⟩]
    · rw [if_neg (fun q => e q.2)]; exact hP.2 b (by omega)) 64 0 g rfl ⟨fun _ _ => rfl, fun b hb => by omega⟩
  refine ⟨g1, Eq.trans (show vX0_clearClaims_2 0 g = vX0_clearClaims_2 (nI 64) g1 from e1) ?_, a1, a2⟩
  rw [eX0_clearClaims_2, if_pos (show (64 : Int32) ≤ nI 64 from by decide)]
theorem lc_clrD {g : am_S} : ∃ g', vX1_clearClaims g = some (.inl none, g') ∧ (∀ f, f ≠ 18 → g' f = g f) ∧ ∀ b, b < 24 → g' 18 0 b = 0 := by
  rw [eX1_clearClaims]
  obtain ⟨g1, ⟨a1, a2⟩, e1⟩ := pu_loop 24 (fun j (x : am_S) => vX1_clearClaims_2 (nI j) x) (fun j x => (∀ f, f ≠ 18 → x f = g f) ∧ ∀ b, b < j → x 18 0 b = 0) (fun j x hj hP => by
    rw [eX1_clearClaims_2, if_neg (pu_nge (x := 24) (k := 24) rfl hj (by omega)), pu_in hj (by omega), pu_g, pu_lt', nI_clamp (by omega), nI_1]
    refine ⟨_, ⟨fun f hf => by rw [pu_uf hf]; exact hP.1 f hf, fun b hb => ?_⟩, rfl⟩
    rw [pu_ub]
    by_cases e : b = j
    · rw [if_pos ⟨rfl, e⟩]
    · rw [if_neg (fun q => e q.2)]; exact hP.2 b (by omega)) 24 0 g rfl ⟨fun _ _ => rfl, fun b hb => by omega⟩
  refine ⟨g1, Eq.trans (show vX1_clearClaims_2 0 g = vX1_clearClaims_2 (nI 24) g1 from e1) ?_, a1, a2⟩
  rw [eX1_clearClaims_2, if_pos (show (24 : Int32) ≤ nI 24 from by decide)]
noncomputable def rl_cb (al : Nat → Bool) (gc : am_S) (b r : Nat) : Bool := @decide (rl_in al gc r b) (Classical.propDecidable _)
theorem rl_cb_1 {al : Nat → Bool} {gc : am_S} {b r : Nat} (h : rl_in al gc r b) : rl_cb al gc b r = true := @decide_eq_true _ (Classical.propDecidable _) h
theorem rl_cb_0 {al : Nat → Bool} {gc : am_S} {b r : Nat} (h : ¬ rl_in al gc r b) : rl_cb al gc b r = false := @decide_eq_false _ (Classical.propDecidable _) h
theorem rl_cb_i {al : Nat → Bool} {gc : am_S} {b r : Nat} (h : rl_cb al gc b r = true) : rl_in al gc r b := @of_decide_eq_true _ (Classical.propDecidable _) h
def rl_ck (gc : am_S) (k r : Nat) : Bool := decide (gc 5 r 5 = nI k ∨ gc 5 r 6 = nI k)
theorem lc_clA {al : Nat → Bool} {gc g : am_S} {s : Nat} (hs : s < 128) (h5 : ∀ j, j ≠ 7 → g 5 s j = gc 5 s j) (hp : ¬ gc 5 s 2 = 2 ∨ (al s = true ∧ gc 5 s 2 = 2 ∧ ∃ a n, a + n ≤ 64 ∧ gc 5 s 3 = nI a ∧ gc 5 s 4 = nI n)) :
    ∃ g', vX0_claim (nI s) g = some (.inl none, g') ∧ (∀ f, f ≠ 13 → g' f = g f) ∧ ∀ b, b < 64 → ∀ c, g 13 0 b = nI c → g' 13 0 b = nI (c + (match rl_cb al gc b s with | true => 1 | false => 0)) := by
  rw [eX0_claim, pu_in hs (by omega), pu_g, nI_clamp (by omega), h5 2 (by decide)]
  rcases hp with z | ⟨ha, z, a, n, han, z3, z4⟩
  · rw [if_neg z]
    refine ⟨g, rfl, fun _ _ => rfl, fun b hb c hc => ?_⟩
    rw [rl_cb_0 (fun q => z q.2.1)]; exact hc
  · rw [if_pos z, pu_g, pu_lv, h5 3 (by decide), z3]
    obtain ⟨g1, ⟨-, a1, a2⟩, e1⟩ := pu_loop (a + n) (fun j (x : am_S) => vX0_claim_14 (nI s) (nI j) x) (fun j x => a ≤ j ∧ (∀ f, f ≠ 13 → x f = g f) ∧ ∀ b, b < 64 → x 13 0 b = if a ≤ b ∧ b < j then g 13 0 b + 1 else g 13 0 b) (fun j x hj hP => by
      obtain ⟨p0, p1, p2⟩ := hP
      rw [eX0_claim_14, if_neg (pu_lt0 (by omega)), pu_in hs (by omega), pu_g, pu_g, nI_clamp (show s < 2 ^ 31 by omega), p1 5 (by decide), h5 3 (by decide), h5 4 (by decide), z3, z4, nI_add, if_neg (nI_ge hj (by omega)), if_neg (pu_nge (x := 64) (k := 64) rfl (show j < 64 by omega) (by omega)), pu_in (show j < 64 by omega) (by omega), pu_g, pu_g, pu_lt', nI_clamp (show j < 2 ^ 31 by omega), nI_1]
      refine ⟨_, ⟨by omega, fun f hf => by rw [pu_uf hf]; exact p1 f hf, fun b hb => ?_⟩, rfl⟩
      rw [pu_ub]
      by_cases e : b = j
      · rw [if_pos ⟨rfl, e⟩, e, p2 j (by omega), if_neg (show ¬ (a ≤ j ∧ j < j) by omega), if_pos (show a ≤ j ∧ j < j + 1 by omega)]
      · rw [if_neg (fun q => e q.2), p2 b hb]
        by_cases c : a ≤ b ∧ b < j
        · rw [if_pos c, if_pos (show a ≤ b ∧ b < j + 1 by omega)]
        · rw [if_neg c, if_neg (show ¬ (a ≤ b ∧ b < j + 1) by omega)]) n a g rfl ⟨Nat.le_refl _, fun _ _ => rfl, fun b hb => by rw [if_neg (show ¬ (a ≤ b ∧ b < a) by omega)]⟩
    refine ⟨g1, Eq.trans e1 ?_, a1, fun b hb c hc => ?_⟩
    · show vX0_claim_14 (nI s) (nI (a + n)) g1 = _
      rw [eX0_claim_14, if_neg (pu_lt0 (by omega)), pu_in hs (by omega), pu_g, pu_g, nI_clamp (show s < 2 ^ 31 by omega), a1 5 (by decide), h5 3 (by decide), h5 4 (by decide), z3, z4, nI_add, if_pos (nI_le (Nat.le_refl _) (by omega))]
    · rw [a2 b hb]
      by_cases q : a ≤ b ∧ b < a + n
      · rw [if_pos q, rl_cb_1 ⟨ha, z, a, n, han, z3, z4, q.1, q.2⟩, hc, nI_1]
      · rw [if_neg q, hc, rl_cb_0 (fun w => ?_)]
        · rfl
        · obtain ⟨-, -, a', n', w1, w2, w3, w4, w5⟩ := w
          rw [z3] at w2
          rw [z4] at w3
          have q1 := pu_inj (by omega) (by omega) w2
          have q2 := pu_inj (by omega) (by omega) w3
          exact q (by omega)
theorem lc_clD {x : Int32} {g : am_S} (h : x = -1 ∨ ∃ k, k < 24 ∧ x = nI k) : ∃ g', vX1_claim x g = some (.inl none, g') ∧ (∀ f, f ≠ 18 → g' f = g f) ∧ ∀ k, k < 24 → g' 18 0 k = if x = nI k then g 18 0 k + 1 else g 18 0 k := by
  rw [eX1_claim]
  rcases h with rfl | ⟨k, hk, rfl⟩
  · rw [if_pos pu_neg]
    exact ⟨g, rfl, fun _ _ => rfl, fun k hk => by rw [if_neg (fun w => pu_m1 (by omega) w.symm)]⟩
  · rw [if_neg (pu_lt0 (by omega)), if_neg (pu_nge (x := 24) (k := 24) rfl hk (by omega)), pu_in hk (by omega), pu_g, pu_g, pu_lt', nI_clamp (by omega)]
    refine ⟨_, rfl, fun f hf => pu_uf hf, fun j hj => ?_⟩
    rw [pu_ub]
    by_cases e : j = k
    · rw [if_pos ⟨rfl, e⟩, e, if_pos rfl]
    · rw [if_neg (fun q => e q.2), if_neg (fun w => e (pu_inj (by omega) (by omega) w).symm)]
theorem lc_wrA {g : am_S} (h : ∀ b, b < 64 → (g 12 0 b = 0 ∧ g 13 0 b = 0) ∨ (¬ g 12 0 b = 0 ∧ g 13 0 b = 1)) : vX0_wrongClaims g = some (.inl (some (.inl 0)), g) := by
  rw [eX0_wrongClaims]
  obtain ⟨_, _, e⟩ := pu_loop 64 (fun j (_ : Unit) => vX0_wrongClaims_4 0 (nI j) g) (fun _ _ => True) (fun j _ hj _ => by
    refine ⟨(), trivial, ?_⟩
    rw [eX0_wrongClaims_4, if_neg (pu_nge (x := 64) (k := 64) rfl hj (by omega)), pu_in hj (by omega), pu_g, pu_g, nI_clamp (by omega), nI_1]
    rcases h j hj with ⟨z1, z2⟩ | ⟨z1, z2⟩
    · rw [if_pos z1, if_pos z2]
    · rw [if_neg z1, if_pos z2]) 64 0 () rfl trivial
  refine Eq.trans (show vX0_wrongClaims_4 0 0 g = vX0_wrongClaims_4 0 (nI 64) g from e) ?_
  rw [eX0_wrongClaims_4, if_pos (show (64 : Int32) ≤ nI 64 from by decide)]
theorem lc_wrD {g : am_S} (h : ∀ b, b < 24 → (g 15 0 b = 1 ∧ g 18 0 b = 1) ∨ (¬ g 15 0 b = 1 ∧ g 18 0 b = 0)) : vX1_wrongClaims g = some (.inl (some (.inl 0)), g) := by
  rw [eX1_wrongClaims]
  obtain ⟨_, _, e⟩ := pu_loop 24 (fun j (_ : Unit) => vX1_wrongClaims_4 0 (nI j) g) (fun _ _ => True) (fun j _ hj _ => by
    refine ⟨(), trivial, ?_⟩
    rw [eX1_wrongClaims_4, if_neg (pu_nge (x := 24) (k := 24) rfl hj (by omega)), pu_in hj (by omega), pu_g, pu_g, nI_clamp (by omega), nI_1]
    rcases h j hj with ⟨z1, z2⟩ | ⟨z1, z2⟩
    · rw [if_pos z1, if_pos z2]
    · rw [if_neg z1, if_pos z2]) 24 0 () rfl trivial
  refine Eq.trans (show vX1_wrongClaims_4 0 0 g = vX1_wrongClaims_4 0 (nI 24) g from e) ?_
  rw [eX1_wrongClaims_4, if_pos (show (24 : Int32) ≤ nI 24 from by decide)]
theorem pu_cn_1 {f : Nat → Bool} {k : Nat} : ∀ n, k < n → f k = true → (∀ j, j < n → f j = true → j = k) → pu_cn f n = 1 := by
  intro n
  induction n with
  | zero => intro h; omega
  | succ n ih =>
    intro h hf hu
    unfold pu_cn
    by_cases e : k = n
    · subst e
      rw [hf, (pu_cn_0 k).mpr (fun j hj => by
        cases z : f j with
        | false => rfl
        | true => have := hu j (by omega) z; omega)]
      rfl
    · rw [ih (by omega) hf (fun j hj => hu j (by omega))]
      cases z : f n with
      | false => rfl
      | true => have := hu n (by omega) z; omega
theorem sm_broken {gc gm : am_S} (h : rl_Q gc gm) : sm_OB (vX6_broken gc) (vX7_broken gm) := by
  obtain ⟨be, al, R, F⟩ := h
  obtain ⟨htk, hrg, hpg, hmp, hal, hdd, hsp, hsh, hfr, hhd, har, hpk, hs1, hs2⟩ := id R
  rw [eX6_broken, eX7_broken, pu_lt']
  obtain ⟨o, _, e1⟩ := pu_loop 10 (fun j (o : Option am_v) => vX6_broken_4 0 (nI j) o gc) (fun _ _ => True) (fun j o hj _ => by
    obtain ⟨f1, -, -, -, -, -, -, f8⟩ := hfr j hj
    rw [eX6_broken_4, if_neg (pu_nge (x := 10) (k := 10) rfl hj (by omega)), pu_in hj (by omega), pu_g, pu_lv, nI_clamp (by omega), nI_1]
    rcases f1 with z | ⟨s, hs, z⟩
    · rw [z, if_pos pu_neg]
      exact ⟨_, trivial, rfl⟩
    · obtain ⟨-, w1, w2⟩ := f8 s hs z
      rw [z, if_neg (pu_lt0 (by omega)), pu_in hs (by omega), pu_g, nI_clamp (by omega), if_pos w1, pu_g, if_pos w2]
      exact ⟨_, trivial, rfl⟩) 10 0 none rfl trivial
  have E1 : vX6_broken_4 0 0 none gc = vX6_broken_4 0 (nI 10) o gc := e1
  obtain ⟨g1, c1, ⟨sc1, sc2⟩, pc⟩ := lc_pages (fun t p ht hp => (hpg t p ht hp).1)
  obtain ⟨g2, c2, a1, a2⟩ := lc_clrA (g := g1)
  obtain ⟨g3, c3, d1, d2⟩ := lc_clrD (g := g2)
  rw [E1, eX6_broken_4, if_pos (show (10 : Int32) ≤ nI 10 from by decide), c1, pu_bV, c2, pu_bV, c3, pu_bV]
  have k5 : ∀ r j, g3 5 r j = g1 5 r j := fun r j => by rw [d1 5 (by decide), a1 5 (by decide)]
  obtain ⟨x, ⟨x1, x2, x3, x4⟩, e2⟩ := pu_loop 128 (fun s (x : Option am_v × am_S) => vX6_broken_69 0 (nI s) x.1 x.2) (fun s x => lc_sc gc x.2 ∧ (∀ r, r < 128 → x.2 5 r 7 = nI (rl_pc gc r)) ∧ (∀ b, b < 64 → x.2 13 0 b = nI (pu_cn (rl_cb al gc b) s)) ∧ ∀ k, k < 24 → x.2 18 0 k = nI (pu_cn (rl_ck gc k) s)) (fun s x hs hP => by
    obtain ⟨o', g⟩ := x
    obtain ⟨p1, p2, p3, p4⟩ := hP
    dsimp only at p1 p2 p3 p4
    show ∃ x' : Option am_v × am_S, (lc_sc gc x'.2 ∧ (∀ r, r < 128 → x'.2 5 r 7 = nI (rl_pc gc r)) ∧ (∀ b, b < 64 → x'.2 13 0 b = nI (pu_cn (rl_cb al gc b) (s + 1))) ∧ ∀ k, k < 24 → x'.2 18 0 k = nI (pu_cn (rl_ck gc k) (s + 1))) ∧ vX6_broken_69 0 (nI s) o' g = vX6_broken_69 0 (nI (s + 1)) x'.1 x'.2
    have hpl : ¬ gc 5 s 2 = 2 ∨ (al s = true ∧ gc 5 s 2 = 2 ∧ ∃ a n, a + n ≤ 64 ∧ gc 5 s 3 = nI a ∧ gc 5 s 4 = nI n) := by
      cases has : al s with
      | false => rw [(hdd s hs has).1]; exact Or.inl (by decide)
      | true =>
        rcases (hsh s hs has).2.2 with ⟨w, -⟩ | ⟨w, -⟩ | ⟨w, -, a, n, w1, w2, -, w4, -⟩ | ⟨w, -⟩
        · rw [w]; exact Or.inl (by decide)
        · rw [w]; exact Or.inl (by decide)
        · exact Or.inr ⟨rfl, w, a, n, w4, w1, w2⟩
        · rw [w]; exact Or.inl (by decide)
    have hlu : (gc 5 s 5 = -1 ∧ gc 5 s 6 = -1) ∨ ∃ k, k < 24 ∧ gc 5 s 5 = nI k ∧ (gc 5 s 6 = -1 ∨ ∃ k', k < k' ∧ k' < 24 ∧ gc 5 s 6 = nI k') := by
      cases has : al s with
      | false => exact Or.inl ⟨(hdd s hs has).2.2.2.1, (hdd s hs has).2.2.2.2.1⟩
      | true =>
        rcases hs2 s hs has with w | ⟨k, hk, w1, -, w2⟩
        · exact Or.inl w
        · refine Or.inr ⟨k, hk, w1, ?_⟩
          rcases w2 with w2 | ⟨k', y1, y2, y3, -⟩
          · exact Or.inl w2
          · exact Or.inr ⟨k', y1, y2, y3⟩
    have hl5 : gc 5 s 5 = -1 ∨ ∃ k, k < 24 ∧ gc 5 s 5 = nI k := by
      rcases hlu with w | ⟨k, hk, w, -⟩
      · exact Or.inl w.1
      · exact Or.inr ⟨k, hk, w⟩
    have hl6 : gc 5 s 6 = -1 ∨ ∃ k, k < 24 ∧ gc 5 s 6 = nI k := by
      rcases hlu with w | ⟨k, hk, -, w | ⟨k', -, y2, y3⟩⟩
      · exact Or.inl w.2
      · exact Or.inl w
      · exact Or.inr ⟨k', y2, y3⟩
    have hno : ∀ k, k < 24 → ¬ (gc 5 s 5 = nI k ∧ gc 5 s 6 = nI k) := by
      intro k hk w
      rcases hlu with y | ⟨j, hj, y1, y | ⟨k', y2, y3, y4⟩⟩
      · rw [y.1] at w; exact pu_m1 (by omega) w.1.symm
      · rw [y] at w; exact pu_m1 (by omega) w.2.symm
      · rw [y1, y4] at w
        have q1 := pu_inj (by omega) (by omega) w.1
        have q2 := pu_inj (by omega) (by omega) w.2
        omega
    obtain ⟨h1, u1, u2, u3⟩ := lc_clA (al := al) (gc := gc) (g := g) hs (fun j hj => p1.2 s j hj) hpl
    have v5 : h1 5 s 5 = gc 5 s 5 := by rw [u2 5 (by decide)]; exact p1.2 s 5 (by decide)
    obtain ⟨h2, v1, v2, v3⟩ := lc_clD (g := h1) hl5
    have v6 : h2 5 s 6 = gc 5 s 6 := by rw [v2 5 (by decide), u2 5 (by decide)]; exact p1.2 s 6 (by decide)
    obtain ⟨h3, w1, w2, w3⟩ := lc_clD (g := h2) hl6
    refine ⟨(some (.inr (.inr (5, nI s))), h3), ⟨⟨fun f f1 f2 f3 => ?_, fun r j hj => ?_⟩, fun r hr => ?_, fun b hb => ?_, fun k hk => ?_⟩, ?_⟩
    · show h3 f = gc f
      rw [w2 f f3, v2 f f3, u2 f f2]; exact p1.1 f f1 f2 f3
    · show h3 5 r j = gc 5 r j
      rw [w2 5 (by decide), v2 5 (by decide), u2 5 (by decide)]; exact p1.2 r j hj
    · show h3 5 r 7 = _
      rw [w2 5 (by decide), v2 5 (by decide), u2 5 (by decide)]; exact p2 r hr
    · show h3 13 0 b = _
      rw [w2 13 (by decide), v2 13 (by decide)]
      exact u3 b hb _ (p3 b hb)
    · show h3 18 0 k = nI (pu_cn (rl_ck gc k) s + (match rl_ck gc k s with | true => 1 | false => 0))
      have p4k := p4 k hk
      rw [w3 k hk, v3 k hk, u2 18 (by decide), p4k]
      have hn := hno k hk
      by_cases q5 : gc 5 s 5 = nI k
      · rw [if_pos q5, if_neg (fun q6 => hn ⟨q5, q6⟩), nI_1, show rl_ck gc k s = true from decide_eq_true (Or.inl q5)]
      · rw [if_neg q5]
        by_cases q6 : gc 5 s 6 = nI k
        · rw [if_pos q6, nI_1, show rl_ck gc k s = true from decide_eq_true (Or.inr q6)]
        · rw [if_neg q6, show rl_ck gc k s = false from decide_eq_false (fun q => q.elim q5 q6)]
          rfl
    · show vX6_broken_69 0 (nI s) o' g = vX6_broken_69 0 (nI (s + 1)) (some (.inr (.inr (5, nI s)))) h3
      rw [eX6_broken_69, if_neg (pu_nge (x := Int32.ofNat 128) (k := 128) rfl hs (by omega)), pu_in hs (by omega), pu_g, pu_g, pu_g, nI_clamp (show s < 2 ^ 31 by omega), p2 s hs, p1.2 s 1 (by decide), hmp s hs, if_pos rfl, eX6_broken_105, u1, pu_bV, pu_in hs (by omega), pu_g, nI_clamp (show s < 2 ^ 31 by omega), v5, v1, pu_bV, pu_g, v6, w1, pu_bV, nI_1]) 128 0 (o, g3) rfl ⟨⟨fun f f1 f2 f3 => by
      show g3 f = gc f
      rw [d1 f f3, a1 f f2]; exact sc1 f f1 f2 f3, fun r j hj => by
      show g3 5 r j = gc 5 r j
      rw [k5]; exact sc2 r j hj⟩, fun r hr => by
      show g3 5 r 7 = _
      rw [k5]; exact pc r hr, fun b hb => by
      show g3 13 0 b = 0
      rw [d1 13 (by decide)]; exact a2 b hb, fun k hk => d2 k hk⟩
  have E2 : vX6_broken_69 0 0 o g3 = vX6_broken_69 0 (nI 128) x.1 x.2 := e2
  have W1 : vX0_wrongClaims x.2 = some (.inl (some (.inl 0)), x.2) := by
    refine lc_wrA (fun b hb => ?_)
    rw [x1.1 12 (by decide) (by decide) (by decide), x3 b hb]
    have uni := har.2
    rcases har.1 b hb with z | ⟨z, s, hs, z2⟩
    · refine Or.inl ⟨z, ?_⟩
      rw [(pu_cn_0 128).mpr (fun r hr => rl_cb_0 (fun w => ?_))]
      · rfl
      · obtain ⟨w1, w2, a, n, w3, w4, w5, w6, w7⟩ := w
        rcases (hsh r hr w1).2.2 with ⟨y, -⟩ | ⟨y, -⟩ | ⟨y, -, a', n', y1, y2, -, y4, -, -, y5⟩ | ⟨y, -⟩
        · rw [w2] at y; exact absurd y (by decide)
        · rw [w2] at y; exact absurd y (by decide)
        · rw [w4] at y1
          rw [w5] at y2
          have q1 := pu_inj (by omega) (by omega) y1
          have q2 := pu_inj (by omega) (by omega) y2
          rw [y5 b (by omega) (by omega)] at z
          exact absurd z (by decide)
        · rw [w2] at y; exact absurd y (by decide)
    · refine Or.inr ⟨by rw [z]; decide, ?_⟩
      rw [pu_cn_1 128 hs (rl_cb_1 z2) (fun r hr w => uni r s b hr hs (rl_cb_i w) z2)]
      rfl
  have own : ∀ r k, r < 128 → k < 24 → (gc 5 r 5 = nI k ∨ gc 5 r 6 = nI k) → al r = true ∧ gm 41 0 k = nI (be r) := by
    intro r k hr hk w
    cases has : al r with
    | false =>
      obtain ⟨-, -, -, y1, y2, -⟩ := hdd r hr has
      rw [y1, y2] at w
      rcases w with w | w <;> exact absurd w.symm (pu_m1 (by omega))
    | true =>
      refine ⟨rfl, ?_⟩
      rcases hs2 r hr has with ⟨y1, y2⟩ | ⟨j, hj, y1, y2, y⟩
      · rw [y1, y2] at w
        rcases w with w | w <;> exact absurd w.symm (pu_m1 (by omega))
      · rcases w with w | w
        · rw [y1] at w
          rw [← pu_inj (by omega) (by omega) w]; exact y2
        · rcases y with y | ⟨j', y3, y4, y5, y6⟩
          · rw [y] at w; exact absurd w.symm (pu_m1 (by omega))
          · rw [y5] at w
            rw [← pu_inj (by omega) (by omega) w]; exact y6
  have W2 : vX1_wrongClaims x.2 = some (.inl (some (.inl 0)), x.2) := by
    refine lc_wrD (fun k hk => ?_)
    rw [x1.1 15 (by decide) (by decide) (by decide), x4 k hk]
    have zero : gm 41 0 k = -1 → pu_cn (rl_ck gc k) 128 = 0 := fun q => (pu_cn_0 128).mpr (fun r hr => decide_eq_false (fun w => by
      obtain ⟨y1, y2⟩ := own r k hr hk w
      rw [q] at y2
      have := (hal.1 r hr y1).1
      exact pu_m1 (by omega) y2.symm))
    rcases (hs1 k hk).2.2.2.2 with ⟨z, -, z1, -⟩ | ⟨z, -, z1, -⟩ | ⟨z, -, s, hs, z1, z2, z3⟩
    · refine Or.inr ⟨by rw [z]; decide, ?_⟩
      rw [zero z1]; rfl
    · refine Or.inr ⟨by rw [z]; decide, ?_⟩
      rw [zero z1]; rfl
    · refine Or.inl ⟨z, ?_⟩
      rw [pu_cn_1 (k := s) 128 hs (decide_eq_true z3) (fun r hr w => ?_)]
      · rfl
      · obtain ⟨y1, y2⟩ := own r k hr hk (of_decide_eq_true w)
        rw [z2] at y2
        have b1 := (hal.1 r hr y1).1
        have b2 := (hal.1 s hs z1).1
        exact (hal.2.1 s r hs hr z1 y1 (pu_inj (by omega) (by omega) y2)).symm
  rw [E2, eX6_broken_69, if_pos (show (Int32.ofNat 128) ≤ nI 128 from by decide), W1, pu_bI, W2, pu_bI]
  refine ⟨x.2, _, 0, ⟨be, al, rl_thr_R (rl_seen_R R x1.1 x1.2), fun s hs ha hx => ?_⟩, rfl, rfl⟩
  rw [rl_pc_congr (x1.1 23 (by decide) (by decide) (by decide))]
  exact F s hs ha hx
