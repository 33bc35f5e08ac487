/-! a sheet is brought in, on both sides -/
theorem pu_uu {g : am_S} {f i j : Nat} {v w : Int32} : am_up (am_up g f i j v) f i j w = am_up g f i j w := by
  funext f' i' j'
  unfold am_up
  by_cases q : f' = f ∧ i' = i ∧ j' = j
  · rw [if_pos q, if_pos q]
  · rw [if_neg q, if_neg q, if_neg q]
theorem pu_cong {g g' : am_S} {f i j c : Nat} {v : Int32} (h : g c = g' c) : am_up g f i j v c = am_up g' f i j v c := by
  funext i' j'
  unfold am_up
  rw [h]
theorem lc_st_f {g : am_S} {s f c : Nat} {u : Int32} (h5 : c ≠ 5) (h8 : c ≠ 8) (h9 : c ≠ 9) (h10 : c ≠ 10) : (lc_st g s f u) c = g c := by unfold lc_st; rw [pu_uf h5, pu_uf h5, pu_uf h10, pu_uf h9, pu_uf h8]
theorem lc_st_5 {g : am_S} {s f r j : Nat} {u : Int32} (h : r ≠ s ∨ (j ≠ 2 ∧ j ≠ 3)) : (lc_st g s f u) 5 r j = g 5 r j := by
  unfold lc_st
  rcases h with h | ⟨h, h'⟩
  · rw [pu_ui h, pu_ui h, pu_uf (by decide), pu_uf (by decide), pu_uf (by decide)]
  · rw [pu_uj h', pu_uj h, pu_uf (by decide), pu_uf (by decide), pu_uf (by decide)]
theorem lc_st_2 {g : am_S} {s f : Nat} {u : Int32} : (lc_st g s f u) 5 s 2 = 1 := by unfold lc_st; rw [pu_uj (by decide), pu_us]
theorem lc_st_3 {g : am_S} {s f : Nat} {u : Int32} : (lc_st g s f u) 5 s 3 = nI f := by unfold lc_st; rw [pu_us]
theorem lc_st_8 {g : am_S} {s f : Nat} {u : Int32} : (lc_st g s f u) 8 0 f = nI s := by unfold lc_st; rw [pu_uf (by decide), pu_uf (by decide), pu_uf (by decide), pu_uf (by decide), pu_us]
theorem lc_st_c {g g' : am_S} {s f c : Nat} {u : Int32} (h : g c = g' c) : (lc_st g s f u) c = (lc_st g' s f u) c := by unfold lc_st; exact pu_cong (pu_cong (pu_cong (pu_cong (pu_cong h))))
theorem pu_congp {g g' : am_S} {f i j c i' j' : Nat} {v : Int32} (h : g c i' j' = g' c i' j') : am_up g f i j v c i' j' = am_up g' f i j v c i' j' := by
  unfold am_up
  rw [h]
theorem lc_st_p {g g' : am_S} {s f c i j : Nat} {u : Int32} (h : g c i j = g' c i j) : (lc_st g s f u) c i j = (lc_st g' s f u) c i j := by unfold lc_st; exact pu_congp (pu_congp (pu_congp (pu_congp (pu_congp h))))
theorem lc_ab_st {g : am_S} {s f a n : Nat} {u : Int32} : lc_st (lc_ab g s a n) s f u = lc_st (lc_up g s a n) s f u := by
  unfold lc_ab
  generalize lc_up g s a n = G
  funext c i j
  unfold lc_st am_up
  by_cases q3 : c = 5 ∧ i = s ∧ j = 3
  · simp only [if_pos q3]
  · by_cases q2 : c = 5 ∧ i = s ∧ j = 2
    · simp only [if_neg q3, if_pos q2]
    · simp only [if_neg q3, if_neg q2]
theorem lc_ab_f {g : am_S} {s a n c : Nat} (h5 : c ≠ 5) (h11 : c ≠ 11) (h12 : c ≠ 12) : (lc_ab g s a n) c = g c := by unfold lc_ab lc_up; rw [pu_uf h5, pu_uf h5, pu_uf h5, pu_uf h11, pu_ff h12]
theorem lc_ab_2 {g : am_S} {s a n : Nat} : (lc_ab g s a n) 5 s 2 = 0 := by unfold lc_ab; rw [pu_uj (by decide), pu_us]
theorem lc_ab_56 {g : am_S} {s a n j : Nat} (h2 : j ≠ 2) (h3 : j ≠ 3) (h4 : j ≠ 4) : (lc_ab g s a n) 5 s j = g 5 s j := by unfold lc_ab lc_up; rw [pu_uj h3, pu_uj h2, pu_uj h4, pu_uf (by decide), pu_ff (by decide)]
theorem lm_st_33 {g : am_S} {q f : Nat} {u v : Int32} : lm_st (am_up g 33 0 q v) q f u = lm_st g q f u := by unfold lm_st; rw [pu_uu]
theorem lc_bringIn {be : Nat → Nat} {al : Nat → Bool} {gc gm : am_S} {s f : Nat} (R : rl_R 8 be al gc gm) (hs : s < 128) (ha : al s = true) (hf : f < 10) (h8 : gc 8 0 f = -1) (h2 : ¬ gc 5 s 2 = 1) :
    ∃ GC GB, vX6_bringIn (nI s) (nI f) gc = some (.inl none, GC) ∧ rl_R 8 be al GB (lm_st gm (be s) f 1) ∧ (∀ c, c ≠ 5 → c ≠ 15 → c ≠ 17 → GC c = GB c) ∧ (∀ r j, r ≠ s ∨ (j ≠ 5 ∧ j ≠ 6) → GC 5 r j = GB 5 r j) ∧
      (GB 5 s 2 = 1 ∧ GB 5 s 3 = nI f ∧ GB 8 0 f = nI s ∧ GB 15 = gc 15 ∧ GB 17 = gc 17 ∧ GB 5 s 5 = gc 5 s 5 ∧ GB 5 s 6 = gc 5 s 6) ∧ (∀ c, 19 ≤ c → GB c = gc c) ∧ lc_lost s gc GC := by
  have hs2 := R.2.2.2.2.2.2.2.2.2.2.2.2.2 s hs ha
  obtain ⟨-, -, hpl⟩ := R.2.2.2.2.2.2.2.1 s hs ha
  have m1 : ∀ k, k < 24 → ¬ (-1 : Int32) = nI k := fun k hk z => pu_m1 (by omega) z.symm
  -- a sheet without slots
  have none0 : ∀ G : am_S, gc 5 s 5 = -1 → G 5 s 5 = gc 5 s 5 → G 5 s 6 = gc 5 s 6 → G 15 = gc 15 → G 17 = gc 17 → lc_lost s gc G := by
    intro G h5 e5 e6 e15 e17
    have h6 : gc 5 s 6 = -1 := by
      rcases hs2 with ⟨-, z⟩ | ⟨k, hk, z, -⟩
      · exact z
      · rw [h5] at z; exact absurd z (m1 k hk)
    refine ⟨Or.inl ⟨e5.trans h5, e6.trans h6⟩, fun _ => e5.trans h5, fun k hk => ⟨fun z => ?_, fun _ => ⟨by rw [e15], by rw [e17], by rw [e5, e6]⟩⟩⟩
    rw [h5, h6] at z
    rcases z.1 with w | w <;> exact absurd w (m1 k hk)
  rw [eX6_bringIn, pu_in hs (by omega), pu_g, pu_g, nI_clamp (by omega)]
  rcases hpl with ⟨z, -, z5⟩ | ⟨z, -⟩ | ⟨z, z5, a, n, z3, z4, z6, z7, -⟩ | ⟨z, -⟩
  · rw [z, if_neg (by decide), if_neg (by decide), lc_seat hs hf, pu_bV]
    refine ⟨_, _, rfl, rl_seat_R R hs ha hf h8 (Or.inl z) (Or.inr rfl), fun _ _ _ _ => rfl, fun _ _ _ => rfl, ⟨lc_st_2, lc_st_3, lc_st_8, lc_st_f (by decide) (by decide) (by decide) (by decide), lc_st_f (by decide) (by decide) (by decide) (by decide), lc_st_5 (Or.inr (by decide)), lc_st_5 (Or.inr (by decide))⟩, fun c hc => lc_st_f (by omega) (by omega) (by omega) (by omega), ?_⟩
    exact none0 _ z5 (lc_st_5 (Or.inr (by decide))) (lc_st_5 (Or.inr (by decide))) (lc_st_f (by decide) (by decide) (by decide) (by decide)) (lc_st_f (by decide) (by decide) (by decide) (by decide))
  · exact absurd z h2
  · rw [if_pos z, lc_unpack hs z3 z4 z7, pu_bV, lc_seat hs hf, pu_bV, ← lc_ab_st]
    have RB := rl_seat_R (u := 1) (f := f) (rl_unpack_R R hs ha z z3 z4 z6 z7) hs ha hf (by rw [lc_ab_f (by decide) (by decide) (by decide)]; exact h8) (Or.inl lc_ab_2) (Or.inr rfl)
    rw [lm_st_33] at RB
    have q5 : (lc_st (lc_ab gc s a n) s f 1) 5 s 5 = gc 5 s 5 := by rw [lc_st_5 (Or.inr (by decide)), lc_ab_56 (by decide) (by decide) (by decide)]
    have q6 : (lc_st (lc_ab gc s a n) s f 1) 5 s 6 = gc 5 s 6 := by rw [lc_st_5 (Or.inr (by decide)), lc_ab_56 (by decide) (by decide) (by decide)]
    have q15 : (lc_st (lc_ab gc s a n) s f 1) 15 = gc 15 := by rw [lc_st_f (by decide) (by decide) (by decide) (by decide), lc_ab_f (by decide) (by decide) (by decide)]
    have q17 : (lc_st (lc_ab gc s a n) s f 1) 17 = gc 17 := by rw [lc_st_f (by decide) (by decide) (by decide) (by decide), lc_ab_f (by decide) (by decide) (by decide)]
    refine ⟨_, _, rfl, RB, fun _ _ _ _ => rfl, fun _ _ _ => rfl, ⟨lc_st_2, lc_st_3, lc_st_8, q15, q17, q5, q6⟩, fun c hc => ?_, none0 _ z5 q5 q6 q15 q17⟩
    rw [lc_st_f (by omega) (by omega) (by omega) (by omega), lc_ab_f (by omega) (by omega) (by omega)]
  · have two : rl_two (gc 5 s 5) (gc 5 s 6) := by
      rcases hs2 with y | ⟨k, hk, y1, -, y2⟩
      · exact Or.inl y
      · refine Or.inr ⟨k, hk, y1, ?_⟩
        rcases y2 with y2 | ⟨k', w1, w2, w3, -⟩
        · exact Or.inl y2
        · exact Or.inr ⟨k', w1, w2, w3⟩
    obtain ⟨G1, e, c1, c2, c3, c4, c5⟩ := lc_giveL hs two
    rw [z, if_neg (by decide), if_pos rfl, e, pu_bV, lc_seat hs hf, pu_bV]
    refine ⟨_, _, rfl, rl_seat_R (u := 1) R hs ha hf h8 (Or.inr z) (Or.inr rfl), fun c d1 d2 d3 => lc_st_c (c1 c d1 d2 d3), fun r j hr => ?_, ⟨lc_st_2, lc_st_3, lc_st_8, lc_st_f (by decide) (by decide) (by decide) (by decide), lc_st_f (by decide) (by decide) (by decide) (by decide), lc_st_5 (Or.inr (by decide)), lc_st_5 (Or.inr (by decide))⟩, fun c hc => lc_st_f (by omega) (by omega) (by omega) (by omega), ?_⟩
    · exact lc_st_p (c2 r j hr)
    · unfold lc_lost
      rw [lc_st_5 (Or.inr (by decide)), lc_st_5 (Or.inr (by decide)), lc_st_f (by decide) (by decide) (by decide) (by decide), lc_st_f (by decide) (by decide) (by decide) (by decide)]
      exact ⟨c3, c4, c5⟩
theorem rl_fault_R {be : Nat → Nat} {al : Nat → Bool} {gc gm : am_S} {t k : Nat} (R : rl_R 8 be al gc gm) (ht : t < 8) (hk : k < 3) : rl_R 8 be al (am_up gc 21 t k (gc 21 t k + 1)) (am_up gm 30 0 (3 * t + k) (gm 30 0 (3 * t + k) + 1)) := by
  refine rl_task_R R (fun f _ _ a => pu_uf a) (fun f _ _ _ _ _ a => pu_uf a) (fun u hu hne => ?_) (fun u hu => ?_)
  · rw [pu_uf (show 19 ≠ 21 by decide), pu_uf (show 23 ≠ 21 by decide), pu_uf (show 25 ≠ 30 by decide), pu_uf (show 26 ≠ 30 by decide), pu_uf (show 27 ≠ 30 by decide)]
    exact R.1 u hu hne
  · rw [pu_uf (show 19 ≠ 21 by decide), pu_uf (show 20 ≠ 21 by decide), pu_uf (show 28 ≠ 30 by decide), pu_uf (show 29 ≠ 30 by decide)]
    obtain ⟨a1, a2, a3⟩ := R.2.1 u hu
    refine ⟨a1, a2, fun i hi => ?_⟩
    rw [pu_ub, pu_ub]
    by_cases w : u = t ∧ i = k
    · rw [if_pos w, if_pos ⟨rfl, by omega⟩, (R.2.1 t ht).2.2 k hk]
    · rw [if_neg w, if_neg (fun z => w (by omega))]; exact a3 i hi
/-- are all slots of q lost -/
theorem lm_isGone {g : am_S} {X : Int32} {k0 : Nat} (hk0 : k0 < 24) (h0 : vX7_slotNumber X 0 g = some (.inl (some (.inl (nI k0))), g)) : ((∀ k, k < 24 → g 41 0 k = X → ¬ g 44 0 k = 0) ∧ vX7_isGone X g = some (.inl (some (.inl 1)), g)) ∨ (¬ (∀ k, k < 24 → g 41 0 k = X → ¬ g 44 0 k = 0) ∧ vX7_isGone X g = some (.inl (some (.inl 0)), g)) := by
  rw [eX7_isGone, h0, pu_bI, if_neg (pu_lt0 (by omega))]
  obtain ⟨x, hx, e⟩ := pu_loop 24 (fun j (x : Int32) => vX7_isGone_17 X x (nI j) g) (fun j x => (x = 1 ∧ ∀ k, k < j → g 41 0 k = X → ¬ g 44 0 k = 0) ∨ (x = 0 ∧ ¬ ∀ k, k < 24 → g 41 0 k = X → ¬ g 44 0 k = 0)) (fun j x hj hP => by
    rw [eX7_isGone_17, if_neg (pu_nge (x := 24) (k := 24) rfl hj (by omega)), pu_in hj (by omega), pu_g, pu_g, nI_clamp (by omega), nI_1]
    rcases hP with ⟨rfl, hP⟩ | ⟨rfl, hP⟩
    · rw [if_neg (show ¬ (1 : Int32) = 0 by decide)]
      by_cases c1 : g 41 0 j = X
      · rw [if_pos c1]
        by_cases c2 : g 44 0 j = 0
        · rw [if_pos c2]
          exact ⟨0, Or.inr ⟨rfl, fun q => q j hj c1 c2⟩, rfl⟩
        · rw [if_neg c2]
          refine ⟨1, Or.inl ⟨rfl, fun k hk w => ?_⟩, rfl⟩
          by_cases e : k = j
          · rw [e]; exact c2
          · exact hP k (by omega) w
      · rw [if_neg c1]
        refine ⟨1, Or.inl ⟨rfl, fun k hk w => ?_⟩, rfl⟩
        by_cases e : k = j
        · rw [e] at w; exact absurd w c1
        · exact hP k (by omega) w
    · rw [if_pos rfl]
      exact ⟨0, Or.inr ⟨rfl, hP⟩, rfl⟩) 24 0 1 rfl (Or.inl ⟨rfl, fun k hk => by omega⟩)
  have E : vX7_isGone_17 X 1 0 g = vX7_isGone_17 X x (nI 24) g := e
  rw [E, eX7_isGone_17, if_pos (show (24 : Int32) ≤ nI 24 from by decide)]
  rcases hx with ⟨rfl, h⟩ | ⟨rfl, h⟩
  · rw [pu_b1, pu_g]; exact Or.inl ⟨h, rfl⟩
  · rw [pu_b0, pu_g]; exact Or.inr ⟨h, rfl⟩
theorem lc_44 {g : am_S} {t s k : Nat} (ht : t < 8) (hs : s < 128) (hk : k < 3) (h : vX3_faultKind (nI s) g = some (.inl (some (.inl (nI k))), g)) : vX6_startFault_44 (nI t) (nI s) g = some (.inl (some (.inl 1)), am_up g 21 t k (g 21 t k + 1)) := by
  rw [eX6_startFault_44, pu_in ht (by omega), pu_g, pu_in hs (by omega), pu_g, h, pu_bI, pu_g, pu_in hk (by omega), pu_g, pu_g, pu_g, pu_lt', pu_b1, pu_g, nI_clamp (show t < 2 ^ 31 by omega), nI_clamp (show k < 2 ^ 31 by omega)]
theorem sm_start {be : Nat → Nat} {al : Nat → Bool} {gc gm : am_S} {t s : Nat} (R : rl_R 8 be al gc gm) (F : rl_fx 128 al gc) (ht : t < 8) (hs : s < 128) (ha : al s = true) (h2 : ¬ gc 5 s 2 = 1) :
    (∃ al' gc' gm', vX6_startFault (nI t) (nI s) gc = some (.inl (some (.inl 0)), gc') ∧ vX7_bring (nI t) (nI (be s)) gm = some (.inl (some (.inl 2)), gm') ∧ rl_R 8 be al' gc' gm' ∧ rl_fx 128 al' gc' ∧ gc' 19 t 4 = 0) ∨
    ∃ k x, k < 3 ∧ vX6_startFault (nI t) (nI s) gc = some (.inl (some (.inl 1)), am_up gc 21 t k (gc 21 t k + 1)) ∧ vX7_bring (nI t) (nI (be s)) gm = vX7_bring_55 (nI t) (nI (be s)) x (nI k) (nI t) gm := by
  have hbs := (R.2.2.2.2.1.1 s hs ha).1
  obtain ⟨hwh, -, hpl⟩ := R.2.2.2.2.2.2.2.1 s hs ha
  have fk : vX3_faultKind (nI s) gc = if gc 5 s 2 = 3 then some (.inl (some (.inl 2)), gc) else if gc 5 s 2 = 2 then some (.inl (some (.inl 1)), gc) else some (.inl (some (.inl 0)), gc) := by
    rw [eX3_faultKind, pu_in hs (by omega), pu_g, pu_g, nI_clamp (by omega)]
  rw [eX6_startFault, eX7_bring, pu_in hs (by omega), pu_g, pu_in hbs (by omega), pu_g, pu_lv, nI_clamp (show s < 2 ^ 31 by omega), nI_clamp (show be s < 2 ^ 31 by omega), hwh]
  rcases hpl with ⟨z, -⟩ | ⟨z, -⟩ | ⟨z, -⟩ | ⟨z, k, hk, z5⟩
  · rw [z, if_neg (by decide), if_neg (by decide)] at fk
    rw [z, if_neg (by decide), if_neg (by decide), if_neg (by decide), eX7_bring_35, if_pos rfl]
    exact Or.inr ⟨0, 0, by omega, lc_44 ht hs (by omega) fk, rfl⟩
  · exact absurd z h2
  · rw [z, if_neg (by decide), if_pos rfl] at fk
    rw [z, if_neg (by decide), if_neg (by decide), if_neg (by decide), eX7_bring_35, if_neg (by decide), if_pos rfl]
    exact Or.inr ⟨1, 2, by omega, lc_44 ht hs (by omega) fk, rfl⟩
  · rw [z, if_pos rfl] at fk
    have C44 := lc_44 (k := 2) ht hs (by omega) fk
    rw [z, if_pos rfl, if_neg (by decide), if_pos rfl, pu_g]
    have s35 : ∀ Y, vX7_bring_35 (nI t) (nI (be s)) 3 Y = vX7_bring_55 (nI t) (nI (be s)) 3 (nI 2) (nI t) Y := fun Y => by
      rw [eX7_bring_35, if_neg (by decide), if_neg (by decide)]; rfl
    have sn := (sm_sn (Y := gm) R hs ha rfl).1
    rw [z5] at sn
    have own : ∀ j, j < 24 → (gm 41 0 j = nI (be s) ↔ (gc 5 s 5 = nI j ∨ gc 5 s 6 = nI j)) := fun j hj => rl_slotk R hs ha hj
    have l44 : ∀ j, j < 24 → gm 44 0 j = gc 17 0 j := fun j hj => (R.2.2.2.2.2.2.2.2.2.2.2.2.1 j hj).2.2.1
    have h6 : gc 5 s 6 = -1 ∨ ∃ j, j < 24 ∧ gc 5 s 6 = nI j := by
      rcases R.2.2.2.2.2.2.2.2.2.2.2.2.2 s hs ha with ⟨-, y⟩ | ⟨j, hj, -, -, y | ⟨j', y1, y2, y3, -⟩⟩
      · exact Or.inl y
      · exact Or.inl y
      · exact Or.inr ⟨j', y2, y3⟩
    -- not all are lost
    have go : (¬ ∀ j, j < 24 → gm 41 0 j = nI (be s) → ¬ gm 44 0 j = 0) → vX7_isGone (nI (be s)) gm = some (.inl (some (.inl 0)), gm) := fun q => by
      rcases lm_isGone hk sn with ⟨y, -⟩ | ⟨-, y⟩
      · exact absurd y q
      · exact y
    rcases lc_gone (g := gc) (x := gc 5 s 5) (Or.inr ⟨k, hk, z5⟩) with ⟨e5, w5⟩ | ⟨e5, j, hj, y1, y2⟩
    · rw [e5, pu_bI, if_neg (show ¬ (1 : Int32) = 0 by decide)]
      rcases lc_gone (g := gc) (x := gc 5 s 6) h6 with ⟨e6, w6⟩ | ⟨e6, j, hj, y1, y2⟩
      · have all : ∀ j, j < 24 → gm 41 0 j = nI (be s) → ¬ gm 44 0 j = 0 := fun j hj q => by
          rw [l44 j hj]
          rcases (own j hj).mp q with y | y
          · rcases w5 with w | ⟨i, hi, w, w'⟩
            · rw [w] at y; exact absurd y.symm (pu_m1 (by omega))
            · rw [w] at y; rw [← pu_inj (by omega) (by omega) y]; exact w'
          · rcases w6 with w | ⟨i, hi, w, w'⟩
            · rw [w] at y; exact absurd y.symm (pu_m1 (by omega))
            · rw [w] at y; rw [← pu_inj (by omega) (by omega) y]; exact w'
        obtain ⟨al', gc', gm', c, m, R', F', E⟩ := sm_endTask (why := 2) R F ht
        rcases lm_isGone hk sn with ⟨-, y⟩ | ⟨y, -⟩
        · rw [e6, y, pu_bI, pu_bI, if_neg (show ¬ (1 : Int32) = 0 by decide), if_neg (show ¬ (1 : Int32) = 0 by decide), c, m, pu_bV, pu_bV, pu_b0, pu_g]
          exact Or.inl ⟨al', gc', gm', rfl, rfl, R', F', E.2.1⟩
        · exact absurd all y
      · rw [e6, pu_bI, if_pos rfl, go (fun q => q j hj ((own j hj).mpr (Or.inr y1)) (by rw [l44 j hj]; exact y2)), pu_bI, if_pos rfl, s35]
        exact Or.inr ⟨2, 3, by omega, C44, rfl⟩
    · rw [e5, pu_bI, if_pos rfl, go (fun q => q j hj ((own j hj).mpr (Or.inl y1)) (by rw [l44 j hj]; exact y2)), pu_bI, if_pos rfl, s35]
      exact Or.inr ⟨2, 3, by omega, C44, rfl⟩
