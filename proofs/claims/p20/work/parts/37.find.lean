/-! finding a frame, on both sides -/
/-- what finding a frame for t keeps -/
def sm_G (t : Nat) (keep : Int32) (al al' : Nat → Bool) (gc gc' : am_S) : Prop :=
  gc' 19 t = gc 19 t ∧ gc' 20 = gc 20 ∧ gc' 21 = gc 21 ∧ gc' 22 = gc 22 ∧ gc' 23 t = gc 23 t ∧ ∀ r, r < 128 → al' r = true → al r = true ∧ gc' 6 r = gc 6 r ∧ ((gc 5 r 2 = 1 → gc 5 r 3 = keep) → ∀ j, j ≠ 1 → gc' 5 r j = gc 5 r j)
theorem sm_G_refl {t : Nat} {keep : Int32} {al : Nat → Bool} {gc : am_S} : sm_G t keep al al gc gc := ⟨rfl, rfl, rfl, rfl, rfl, fun _ _ h => ⟨h, rfl, fun _ _ _ => rfl⟩⟩
theorem sm_G_trans {t : Nat} {keep : Int32} {al al' al'' : Nat → Bool} {gc gc' gc'' : am_S} (h : sm_G t keep al al' gc gc') (h' : sm_G t keep al' al'' gc' gc'') : sm_G t keep al al'' gc gc'' := by
  obtain ⟨a1, a2, a3, a4, a5, a6⟩ := h
  obtain ⟨b1, b2, b3, b4, b5, b6⟩ := h'
  refine ⟨b1.trans a1, b2.trans a2, b3.trans a3, b4.trans a4, b5.trans a5, fun r hr hx => ?_⟩
  obtain ⟨c1, c2, c3⟩ := b6 r hr hx
  obtain ⟨d1, d2, d3⟩ := a6 r hr c1
  refine ⟨d1, c2.trans d2, fun hk j hj => ?_⟩
  rw [c3 (fun z => by rw [d3 hk 3 (by decide)]; rw [d3 hk 2 (by decide)] at z; exact hk z) j hj, d3 hk j hj]
theorem sm_G_same {t : Nat} {keep : Int32} {al : Nat → Bool} {gc gc' : am_S} (h : ∀ f, f ≠ 7 → f ≠ 9 → gc' f = gc f) : sm_G t keep al al gc gc' :=
  ⟨congrFun (h 19 (by decide) (by decide)) t, h 20 (by decide) (by decide), h 21 (by decide) (by decide), h 22 (by decide) (by decide), congrFun (h 23 (by decide) (by decide)) t, fun r _ hx => ⟨hx, congrFun (h 6 (by decide) (by decide)) r, fun _ j _ => congrFun (congrFun (h 5 (by decide) (by decide)) r) j⟩⟩
theorem sm_search {be : Nat → Nat} {al : Nat → Bool} {gc gm : am_S} {t i : Nat} {keep : Int32} {o6 p4 p5 : Option am_v} (h : rl_R 8 be al gc gm) (full : ∀ f, f < 10 → ¬ gc 8 0 f = -1) :
    (∃ (x : Option am_v × am_S) (y : Option am_v × Option am_v × am_S), (rl_R 8 be al x.2 y.2.2 ∧ x.2 19 = gc 19 ∧ x.2 23 = gc 23 ∧ sm_G t keep al al gc x.2) ∧ vX6_findFrame_20 (nI t) keep (nI i) (-1) 0 o6 gc = vX6_findFrame_20 (nI t) keep (nI i) (-1) (nI 20) x.1 x.2 ∧ vX7_findFrame_27 (nI t) keep 0 p4 p5 gm = vX7_findFrame_27 (nI t) keep (nI 20) y.1 y.2.1 y.2.2) ∨
    ∃ f gc' gm', f < 10 ∧ vX6_findFrame_20 (nI t) keep (nI i) (-1) 0 o6 gc = some (.inl (some (.inl (nI f))), gc') ∧ vX7_findFrame_27 (nI t) keep 0 p4 p5 gm = some (.inl (some (.inl (nI f))), gm') ∧ rl_R 8 be al gc' gm' ∧ gc' 8 0 f = -1 ∧ gc' 19 = gc 19 ∧ gc' 23 = gc 23 ∧ sm_G t keep al al gc gc' := by
  have L := pu_loop2E 20 (fun j (x : Option am_v × am_S) => vX6_findFrame_20 (nI t) keep (nI i) (-1) (nI j) x.1 x.2) (fun j (y : Option am_v × Option am_v × am_S) => vX7_findFrame_27 (nI t) keep (nI j) y.1 y.2.1 y.2.2)
    (fun j x y => rl_R 8 be al x.2 y.2.2 ∧ x.2 19 = gc 19 ∧ x.2 23 = gc 23 ∧ (∀ f, f < 10 → ¬ x.2 8 0 f = -1) ∧ sm_G t keep al al gc x.2)
    (fun v u => ∃ f gc' gm', f < 10 ∧ v = some (.inl (some (.inl (nI f))), gc') ∧ u = some (.inl (some (.inl (nI f))), gm') ∧ rl_R 8 be al gc' gm' ∧ gc' 8 0 f = -1 ∧ gc' 19 = gc 19 ∧ gc' 23 = gc 23 ∧ sm_G t keep al al gc gc') (fun j x y hj hp => by
    obtain ⟨o, g⟩ := x
    obtain ⟨q4, q5, m⟩ := y
    obtain ⟨R, p19, p23, pf, pG⟩ := hp
    dsimp only at R p19 p23 pf pG
    obtain ⟨hd, hhd, d1, d2⟩ := R.2.2.2.2.2.2.2.2.2.1
    obtain ⟨f1, -, f3, -, f5, -, f7, -⟩ := R.2.2.2.2.2.2.2.2.1 hd hhd
    show (∃ (x' : Option am_v × am_S) (y' : Option am_v × Option am_v × am_S), (rl_R 8 be al x'.2 y'.2.2 ∧ x'.2 19 = gc 19 ∧ x'.2 23 = gc 23 ∧ (∀ f, f < 10 → ¬ x'.2 8 0 f = -1) ∧ sm_G t keep al al gc x'.2) ∧ vX6_findFrame_20 (nI t) keep (nI i) (-1) (nI j) o g = vX6_findFrame_20 (nI t) keep (nI i) (-1) (nI (j + 1)) x'.1 x'.2 ∧ vX7_findFrame_27 (nI t) keep (nI j) q4 q5 m = vX7_findFrame_27 (nI t) keep (nI (j + 1)) y'.1 y'.2.1 y'.2.2) ∨
      ∃ f gc' gm', f < 10 ∧ vX6_findFrame_20 (nI t) keep (nI i) (-1) (nI j) o g = some (.inl (some (.inl (nI f))), gc') ∧ vX7_findFrame_27 (nI t) keep (nI j) q4 q5 m = some (.inl (some (.inl (nI f))), gm') ∧ rl_R 8 be al gc' gm' ∧ gc' 8 0 f = -1 ∧ gc' 19 = gc 19 ∧ gc' 23 = gc 23 ∧ sm_G t keep al al gc gc'
    rw [eX6_findFrame_20, eX7_findFrame_27, if_neg (pu_nge (x := 20) (k := 20) rfl hj (by omega)), if_neg (pu_nge (x := 20) (k := 20) rfl hj (by omega)), if_pos rfl, pu_lv, pu_lv, d1, d2]
    -- the hand goes on, with nothing taken
    have mv : ∀ (g1 m1 : am_S) (o' q5' : Option am_v), rl_R 8 be al g1 m1 → g1 19 = gc 19 → g1 23 = gc 23 → (∀ f, f < 10 → ¬ g1 8 0 f = -1) → sm_G t keep al al gc g1 →
        (∃ (x' : Option am_v × am_S) (y' : Option am_v × Option am_v × am_S), (rl_R 8 be al x'.2 y'.2.2 ∧ x'.2 19 = gc 19 ∧ x'.2 23 = gc 23 ∧ (∀ f, f < 10 → ¬ x'.2 8 0 f = -1) ∧ sm_G t keep al al gc x'.2) ∧ am_bV (vX2_moveHand keep g1) (fun g2 => vX6_findFrame_20 (nI t) keep (nI i) (-1) (nI j + 1) o' g2) = vX6_findFrame_20 (nI t) keep (nI i) (-1) (nI (j + 1)) x'.1 x'.2 ∧ vX7_findFrame_77 (nI t) keep (nI j) (nI hd) 0 m1 = vX7_findFrame_27 (nI t) keep (nI (j + 1)) y'.1 y'.2.1 y'.2.2) := fun g1 m1 o' q5' R1 h19 h23 hf hG => by
      obtain ⟨g2, m2, c, mm, R2, k⟩ := sm_move (keep := keep) R1
      rw [c, pu_bV, eX7_findFrame_77, mm, pu_bV, if_pos rfl, nI_1]
      refine ⟨(o', g2), (_, _, m2), ⟨R2, ?_, ?_, fun f hf' => ?_, sm_G_trans hG (sm_G_same k)⟩, rfl, rfl⟩
      · show g2 19 = gc 19; rw [k 19 (by decide) (by decide)]; exact h19
      · show g2 23 = gc 23; rw [k 23 (by decide) (by decide)]; exact h23
      · show ¬ g2 8 0 f = -1; rw [k 8 (by decide) (by decide)]; exact hf f hf'
    by_cases hk : nI hd = keep
    · rw [if_pos hk, if_pos hk]
      exact Or.inl (mv g m _ none R p19 p23 pf pG)
    · rw [if_neg hk, if_neg hk, eX2_unmark, pu_in hhd (by omega), pu_g, pu_g, pu_lv, pu_g, pu_b0, pu_g, pu_lt', pu_g, pu_g, nI_clamp (show hd < 2 ^ 31 by omega), f3]
      have hb : am_b (g 9 0 hd) = true := by
        rcases f5 with z | z <;> rw [z] <;> decide
      rw [hb, pu_g, pu_bI]
      by_cases hz : g 9 0 hd = 0
      · rw [if_pos hz, if_pos hz, rl_up_id hz]
        rcases f1 with z | ⟨s, hs, z⟩
        · exact absurd z (pf hd hhd)
        · obtain ⟨b, g1, m1, c1, c2, c3, c4, ⟨⟨k19, k20, k21, k22, k23, k7, k6⟩, k5, k8⟩, c6, c7⟩ := sm_put R hhd hs z
          have h53 := ((R.2.2.2.2.2.2.2.2.1 hd hhd).2.2.2.2.2.2.2 s hs z).2
          have G1 : sm_G t keep al al g g1 := ⟨by rw [k19], k20, k21, k22, by rw [k23], fun r hr hx => ⟨hx, by rw [k6], fun w j _ => k5 r j (fun e => hk (by rw [e] at w; exact (h53.2.symm.trans (w h53.1))))⟩⟩
          rw [c1, c2, pu_bI, pu_bI]
          rcases c3 with rfl | rfl
          · rw [if_pos rfl]
            exact Or.inl (mv g1 m1 _ none c4 (k19.trans p19) (k23.trans p23) (fun f hf => by rw [c6 rfl]; exact pf f hf) (sm_G_trans pG G1))
          · rw [if_neg (by decide)]
            obtain ⟨g2, m2, c, mm, R2, k⟩ := sm_move (keep := keep) c4
            rw [c, pu_bV, eX7_findFrame_77, mm, pu_bV, if_neg (by decide)]
            have fin : vX6_findFrame_20 (nI t) keep (nI i) (nI hd) (nI j + 1) (some (.inl (nI hd))) g2 = some (.inl (some (.inl (nI hd))), g2) := by
              rw [eX6_findFrame_20, if_neg (show ¬ nI hd = -1 from pu_m1 (by omega)), eX6_findFrame_87, if_neg (show ¬ nI hd = -1 from pu_m1 (by omega))]
              split <;> rfl
            have v8 : g1 8 0 hd = -1 := c7 rfl
            refine Or.inr ⟨hd, g2, m2, hhd, fin, rfl, R2, ?_, ?_, ?_, sm_G_trans (sm_G_trans pG G1) (sm_G_same k)⟩
            · rw [k 8 (by decide) (by decide)]; exact v8
            · rw [k 19 (by decide) (by decide)]; exact k19.trans p19
            · rw [k 23 (by decide) (by decide)]; exact k23.trans p23
      · rw [if_neg hz, if_neg hz, pu_lt']
        refine Or.inl (mv _ _ _ none (rl_unmark_R hd R) ?_ ?_ (fun f hf => ?_) (sm_G_trans pG (sm_G_same (fun f _ a => pu_uf a))))
        · rw [pu_uf (by decide)]; exact p19
        · rw [pu_uf (by decide)]; exact p23
        · rw [pu_uf (by decide)]; exact pf f hf) 20 0 (o6, gc) (p4, p5, gm) rfl ⟨h, rfl, rfl, full, sm_G_refl⟩
  rcases L with ⟨x, y, ⟨a, b, c, -, d⟩, e1, e2⟩ | L
  · exact Or.inl ⟨x, y, ⟨a, b, c, d⟩, e1, e2⟩
  · exact Or.inr L
