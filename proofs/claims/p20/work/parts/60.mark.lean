/-! the touched sheet's marks, and its slots when it is written -/
theorem lm_fs_y {g : am_S} {x : Int32} {k : Nat} (hk : k < 24) (h : g 41 0 k = x) : (lm_fs g x 24) 41 0 k = -1 ∧ (lm_fs g x 24) 44 0 k = 0 := by
  unfold lm_fs
  refine ⟨if_pos ⟨⟨rfl, rfl, hk⟩, h⟩, ?_⟩
  rw [if_neg (fun z => absurd z.1.1 (by decide)), if_pos ⟨⟨rfl, rfl, hk⟩, h⟩]
theorem lm_fs_o {g : am_S} {x : Int32} {k : Nat} (h : ¬ g 41 0 k = x) : (lm_fs g x 24) 41 0 k = g 41 0 k ∧ (lm_fs g x 24) 44 0 k = g 44 0 k := by
  unfold lm_fs
  refine ⟨?_, ?_⟩ <;> rw [if_neg (fun z => h z.2), if_neg (fun z => h z.2)]
theorem sm_mark {be : Nat → Nat} {al : Nat → Bool} {gc gm : am_S} {t s f K : Nat} {A1 A2 A3 A5 A6 B1 B2 B3 B4 B6 B8 v : Int32} {A7 B9 B10 : Option am_v} (R : rl_R 8 be al gc (am_up gm 39 0 f v)) (hs : s < 128) (ha : al s = true) (hf : f < 10) (h2 : gc 5 s 2 = 1) (h3 : gc 5 s 3 = nI f) (h8 : gc 8 0 f = nI s) (hK : K < 128) (hx : gm 31 0 K = nI (be s)) (hw : (A3 = 0 ∧ B3 = 0) ∨ (¬ A3 = 0 ∧ ¬ B3 = 0)) :
    ∃ gc' gm', vX6_touch_171 A1 A2 A3 (nI s) A5 A6 A7 gc = some (.inl (some (.inr (.inr (5, nI s)))), gc') ∧ vX7_touch_234 B1 B2 B3 B4 (nI K) B6 (nI f) B8 B9 B10 gm = some (.inl (some (.inl 0)), gm') ∧ rl_R 8 be al gc' gm' ∧ ∀ c, 19 ≤ c → gc' c = gc c := by
  rw [eX6_touch_171, eX7_touch_234, pu_in hs (by omega), pu_g, nI_clamp (show s < 2 ^ 31 by omega), h3, pu_in hf (by omega), pu_g, pu_b1, pu_g, pu_lt', nI_clamp (show f < 2 ^ 31 by omega)]
  have mb : ∀ c, c ≠ 39 → (am_up gm 39 0 f v) c = gm c := fun c hc => pu_uf hc
  rcases hw with ⟨rfl, rfl⟩ | ⟨hA, hB⟩
  · rw [if_pos rfl, if_pos rfl, eX6_touch_189, lc_touched0 hf, pu_bV, if_pos rfl]
    refine ⟨_, _, rfl, rfl, rl_mark_R R (fun c _ a => pu_uf a) (fun c _ a => by rw [pu_uf a, mb c a]) ?_ (fun f' hf' => ?_), fun c hc => pu_uf (by omega)⟩
    · obtain ⟨x, x1, x2, x3⟩ := R.2.2.2.2.2.2.2.2.2.1
      rw [mb 24 (by decide)] at x3
      exact ⟨x, x1, by rw [pu_uf (by decide)]; exact x2, by rw [pu_uf (by decide)]; exact x3⟩
    · obtain ⟨-, -, a3, -, a5, -, a7, -⟩ := R.2.2.2.2.2.2.2.2.1 f' hf'
      rw [pu_ub, pu_ub]
      by_cases e : f' = f
      · rw [if_pos ⟨rfl, e⟩, if_pos ⟨rfl, e⟩]
        exact ⟨rfl, Or.inr rfl, fun z => by rw [e, h8] at z; exact absurd z (pu_m1 (by omega))⟩
      · rw [if_neg (fun z => e z.2), if_neg (fun z => e z.2)]
        rw [pu_uj e] at a3
        exact ⟨a3, a5, fun z => (a7 z).1⟩
  · rw [if_neg hA, if_neg hB, eX6_touch_189, lc_touched1 hf, pu_bV, if_neg hA, pu_g, pu_g, pu_lt', pu_in hK (by omega), pu_g, nI_clamp (show K < 2 ^ 31 by omega), pu_uf (show 31 ≠ 40 by decide), pu_uf (show 31 ≠ 39 by decide), hx, lm_freeSlots, pu_bV]
    have C1 : ∀ c, c ≠ 9 → c ≠ 10 → (am_up (am_up gc 9 0 f 1) 10 0 f 1) c = gc c := fun c a b => by rw [pu_uf b, pu_uf a]
    have M1 : ∀ c, c ≠ 39 → c ≠ 40 → (am_up (am_up gm 39 0 f 1) 40 0 f 1) c = gm c := fun c a b => by rw [pu_uf b, pu_uf a]
    have C9 : ∀ f', (am_up (am_up gc 9 0 f 1) 10 0 f 1) 9 0 f' = if f' = f then 1 else gc 9 0 f' := fun f' => by
      rw [pu_uf (by decide), pu_ub]
      by_cases e : f' = f
      · rw [if_pos ⟨rfl, e⟩, if_pos e]
      · rw [if_neg (fun z => e z.2), if_neg e]
    have C10 : ∀ f', (am_up (am_up gc 9 0 f 1) 10 0 f 1) 10 0 f' = if f' = f then 1 else gc 10 0 f' := fun f' => by
      rw [pu_ub, pu_uf (by decide)]
      by_cases e : f' = f
      · rw [if_pos ⟨rfl, e⟩, if_pos e]
      · rw [if_neg (fun z => e z.2), if_neg e]
    have M9 : ∀ f', (am_up (am_up gm 39 0 f 1) 40 0 f 1) 39 0 f' = if f' = f then 1 else gm 39 0 f' := fun f' => by
      rw [pu_uf (by decide), pu_ub]
      by_cases e : f' = f
      · rw [if_pos ⟨rfl, e⟩, if_pos e]
      · rw [if_neg (fun z => e z.2), if_neg e]
    have M10 : ∀ f', (am_up (am_up gm 39 0 f 1) 40 0 f 1) 40 0 f' = if f' = f then 1 else gm 40 0 f' := fun f' => by
      rw [pu_ub, pu_uf (by decide)]
      by_cases e : f' = f
      · rw [if_pos ⟨rfl, e⟩, if_pos e]
      · rw [if_neg (fun z => e z.2), if_neg e]
    generalize am_up (am_up gc 9 0 f 1) 10 0 f 1 = g1 at C1 C9 C10
    generalize am_up (am_up gm 39 0 f 1) 40 0 f 1 = m1 at M1 M9 M10
    have k5 : ∀ r j, g1 5 r j = gc 5 r j := fun r j => by rw [C1 5 (by decide) (by decide)]
    have hs2 := R.2.2.2.2.2.2.2.2.2.2.2.2.2 s hs ha
    have h5 : g1 5 s 5 = -1 ∨ ∃ k, k < 24 ∧ g1 5 s 5 = nI k := by
      rw [k5]
      rcases hs2 with ⟨z, -⟩ | ⟨k, hk, z, -⟩
      · exact Or.inl z
      · exact Or.inr ⟨k, hk, z⟩
    have h6 : g1 5 s 6 = -1 ∨ ∃ k, k < 24 ∧ g1 5 s 6 = nI k := by
      rw [k5]
      rcases hs2 with ⟨-, z⟩ | ⟨k, hk, -, -, z | ⟨k', y1, y2, y3, -⟩⟩
      · exact Or.inl z
      · exact Or.inl z
      · exact Or.inr ⟨k', y2, y3⟩
    obtain ⟨G, e, c1, c2, c3, c4, c5⟩ := lc_giveB hs h5 h6
    rw [e, pu_bV]
    have own : ∀ j, j < 24 → (gm 41 0 j = nI (be s) ↔ (gc 5 s 5 = nI j ∨ gc 5 s 6 = nI j)) := fun j hj => by
      have := rl_slotk R hs ha hj
      rw [mb 41 (by decide)] at this
      exact this
    refine ⟨G, _, rfl, rfl, rl_wr_R R hs ha (fun c a1 a2 a3 a4 a5 => (c1 c a1 a4 a5).trans (C1 c a2 a3)) (fun r j hr => (c2 r j hr).trans (k5 r j)) (fun c a1 a2 a3 a4 => ?_) (fun j hj => ?_) (fun f' hf' => ?_) (Or.inl ⟨c3, c4⟩) (fun _ => c3) (by rw [h2]; decide), fun c hc => (c1 c (by omega) (by omega) (by omega)).trans (C1 c (by omega) (by omega))⟩
    · rw [rl_fs_f a3 a4, M1 c a1 a2, mb c a1]
    · unfold rl_k1
      rw [mb 41 (by decide), mb 44 (by decide)]
      have q41 : m1 41 0 j = gm 41 0 j := by rw [M1 41 (by decide) (by decide)]
      have q44 : m1 44 0 j = gm 44 0 j := by rw [M1 44 (by decide) (by decide)]
      have q15 : g1 15 0 j = gc 15 0 j := by rw [C1 15 (by decide) (by decide)]
      have q17 : g1 17 0 j = gc 17 0 j := by rw [C1 17 (by decide) (by decide)]
      obtain ⟨y1, y2⟩ := c5 j hj
      rw [k5, k5] at y1 y2
      by_cases q : gm 41 0 j = nI (be s)
      · obtain ⟨w1, w2⟩ := y1 ((own j hj).mp q)
        obtain ⟨w3, w4⟩ := lm_fs_y hj (q41.trans q)
        exact Or.inr ⟨q, w1, w2, w3, w4⟩
      · obtain ⟨w1, w2⟩ := y2 (fun w => q ((own j hj).mpr w))
        obtain ⟨w3, w4⟩ := lm_fs_o (g := m1) (x := nI (be s)) (k := j) (by rw [q41]; exact q)
        exact Or.inl ⟨w1.trans q15, w2.trans q17, w3.trans q41, w4.trans q44, fun w => absurd w q⟩
    · have g9 : G 9 0 f' = g1 9 0 f' := by rw [c1 9 (by decide) (by decide) (by decide)]
      have g10 : G 10 0 f' = g1 10 0 f' := by rw [c1 10 (by decide) (by decide) (by decide)]
      unfold rl_f1
      rw [g9, g10, C9, C10, rl_fs_f (show 39 ≠ 41 by decide) (by decide), rl_fs_f (show 40 ≠ 41 by decide) (by decide), M9, M10, mb 40 (by decide)]
      by_cases e' : f' = f
      · subst e'
        refine Or.inr ⟨h8, ?_, ?_, ?_, ?_, fun _ => c3⟩
        · rw [if_pos rfl, if_pos rfl]
        · rw [if_pos rfl, if_pos rfl]
        · exact Or.inr (if_pos rfl)
        · exact Or.inr (if_pos rfl)
      · rw [if_neg e', if_neg e', if_neg e', if_neg e', pu_uj e']
        exact Or.inl ⟨rfl, rfl, rfl, rfl⟩
/-- how a touch of t's page p comes out -/
def sm_T (t p : Nat) (gc : am_S) (c m : am_R) : Prop := ∃ be al gc' gm', rl_R 8 be al gc' gm' ∧ rl_fx 128 al gc' ∧
  ((c = some (.inl (some (.inr (.inr (5, (-1))))), gc') ∧ m = some (.inl (some (.inl 1)), gm') ∧ gc' 19 t 4 = 1) ∨ (c = some (.inl (some (.inr (.inr (5, (-1))))), gc') ∧ m = some (.inl (some (.inl 2)), gm') ∧ gc' 19 t 4 = 0) ∨
   ∃ s, s < 128 ∧ c = some (.inl (some (.inr (.inr (5, nI s)))), gc') ∧ m = some (.inl (some (.inl 0)), gm') ∧ gc' 23 t p = nI s ∧ gc' 19 t = gc 19 t ∧ gc' 20 = gc 20)
/-- a sheet that needs no copy -/
theorem sm_touch0 {be : Nat → Nat} {al : Nat → Bool} {gc gm : am_S} {t p s : Nat} {A2 A3 A5 B2 B3 B4 : Int32} (R : rl_R 8 be al gc gm) (F : rl_fx 128 al gc) (ht : t < 8) (hp : p < 16) (hl : gc 19 t 4 = 1) (hs : s < 128) (hx : gc 23 t p = nI s) (hw : (A3 = 0 ∧ B3 = 0) ∨ (¬ A3 = 0 ∧ ¬ B3 = 0)) :
    sm_T t p gc (vX6_touch_50 (nI t) A2 A3 (nI s) A5 0 gc) (vX7_touch_209 (nI t) B2 B3 B4 (nI (16 * t + p)) (nI (be s)) gm) := by
  obtain ⟨-, px, py⟩ := R.2.2.1 t p ht hp
  have ha : al s = true := (py s hs hx).1
  have hbs := (R.2.2.2.2.1.1 s hs ha).1
  obtain ⟨hwh, -, hpl⟩ := R.2.2.2.2.2.2.2.1 s hs ha
  rw [hx, rl_bi_s hs] at px
  rw [eX6_touch_50, pu_in hs (by omega), pu_g, nI_clamp (show s < 2 ^ 31 by omega), if_pos rfl, eX7_touch_209]
  by_cases h2 : gc 5 s 2 = 1
  · have hf : ∃ f, f < 10 ∧ gc 5 s 3 = nI f ∧ gc 8 0 f = nI s := by
      rcases hpl with ⟨z, -⟩ | ⟨-, f, z1, z2, z3, -⟩ | ⟨z, -⟩ | ⟨z, -⟩
      · rw [h2] at z; exact absurd z (by decide)
      · exact ⟨f, z1, z2, z3⟩
      · rw [h2] at z; exact absurd z (by decide)
      · rw [h2] at z; exact absurd z (by decide)
    obtain ⟨f, hf, h3, h8⟩ := hf
    have bb : vX7_bring (nI t) (nI (be s)) gm = some (.inl (some (.inl 0)), gm) := by
      rw [eX7_bring, pu_in hbs (by omega), pu_g, pu_lv, nI_clamp (by omega), hwh, if_pos h2]
    have RM : rl_R 8 be al gc (am_up gm 39 0 f (gm 39 0 f)) := by rw [rl_up_id rfl]; exact R
    obtain ⟨gc', gm', e1, e2, R', K⟩ := sm_mark (A1 := nI t) (A2 := A2) (A5 := A5) (A6 := 0) (A7 := none) (B1 := nI t) (B2 := B2) (B4 := B4) (B6 := nI (be s)) (B8 := 0) (B9 := none) (B10 := none) (K := 16 * t + p) (t := t) RM hs ha hf h2 h3 h8 (by omega) px hw
    rw [if_pos h2, eX6_touch_112, if_pos rfl, e1, bb, pu_bI, if_pos (by decide), rl_frameOf R.2.2.2.2.2.2.2.2.1 R.2.2.2.2.1 hs ha hf h3 h8 rfl, pu_bI, e2]
    refine ⟨be, al, gc', gm', R', fun r hr a b => ?_, Or.inr (Or.inr ⟨s, hs, rfl, rfl, ?_, ?_, ?_⟩)⟩
    · rw [rl_pc_congr (K 23 (by omega))]; exact F r hr a b
    · rw [K 23 (by omega)]; exact hx
    · rw [K 19 (by omega)]
    · rw [K 20 (by omega)]
  · rw [if_neg h2]
    rcases sm_bring (A2 := A2) (A3 := A3) (A5 := A5) (A6 := 0) R F ht hp hl hs hx h2 with ⟨al', gc', gm', c, m, R', F', d⟩ | ⟨al', g1, m1, f, hf, c, m, R', F', ha', ⟨y2, y3, y8⟩, k19, k20, k22, k23, -⟩
    · rw [c, m, pu_bI, if_neg (by decide)]
      exact ⟨be, al', gc', gm', R', F', Or.inr (Or.inl ⟨rfl, rfl, d⟩)⟩
    · have hx1 : g1 23 t p = nI s := by rw [k23]; exact hx
      have px1 : m1 31 0 (16 * t + p) = nI (be s) := by
        have := (R'.2.2.1 t p ht hp).2.1
        rw [hx1, rl_bi_s hs, pu_uf (by decide)] at this
        exact this
      obtain ⟨gc', gm', e1, e2, R2, K⟩ := sm_mark (A1 := nI t) (A2 := A2) (A5 := A5) (A6 := 0) (A7 := some (.inl (nI f))) (B1 := nI t) (B2 := B2) (B4 := B4) (B6 := nI (be s)) (B8 := 0) (B9 := none) (B10 := none) (K := 16 * t + p) (t := t) R' hs ha' hf y2 y3 y8 (by omega) px1 hw
      rw [c, m, pu_bI, if_pos (by decide), eX6_touch_112, if_pos rfl, e1, rl_frameOf R'.2.2.2.2.2.2.2.2.1 R'.2.2.2.2.1 hs ha' hf y3 y8 (gm' := m1) (by rw [pu_uf (by decide)]), pu_bI, e2]
      refine ⟨be, al', gc', gm', R2, fun r hr a b => ?_, Or.inr (Or.inr ⟨s, hs, rfl, rfl, ?_, ?_, ?_⟩)⟩
      · rw [rl_pc_congr (K 23 (by omega))]; exact F' r hr a b
      · rw [K 23 (by omega)]; exact hx1
      · rw [K 19 (by omega)]; exact k19
      · rw [K 20 (by omega)]; exact k20
