theorem sm_vacant {be : Nat → Nat} {al : Nat → Bool} {gc gm : am_S} {t k : Int32} {p4 p5 : Option am_v} (hfr : rl_fr be al gc gm) (hal : rl_al be al gm) :
    (∃ f, f < 10 ∧ gc 8 0 f = -1 ∧ vX2_lowestVacant gc = some (.inl (some (.inl (nI f))), gc) ∧ vX7_findFrame_2 t k 0 p4 p5 gm = some (.inl (some (.inl (nI f))), gm)) ∨
    ((∀ f, f < 10 → ¬ gc 8 0 f = -1) ∧ vX2_lowestVacant gc = some (.inl (some (.inl (-1))), gc) ∧ vX7_findFrame_2 t k 0 p4 p5 gm = vX7_findFrame_27 t k 0 p4 p5 gm) := by
  rw [eX2_lowestVacant]
  have L := pu_loop2E 10 (fun j (_ : Unit) => vX2_lowestVacant_2 (nI j) gc) (fun j (_ : Unit) => vX7_findFrame_2 t k (nI j) p4 p5 gm) (fun j _ _ => ∀ f, f < j → ¬ gc 8 0 f = -1)
    (fun v u => ∃ f, f < 10 ∧ gc 8 0 f = -1 ∧ v = some (.inl (some (.inl (nI f))), gc) ∧ u = some (.inl (some (.inl (nI f))), gm)) (fun j _ _ hj hp => by
    show (∃ x' y' : Unit, (∀ f, f < j + 1 → ¬ gc 8 0 f = -1) ∧ vX2_lowestVacant_2 (nI j) gc = vX2_lowestVacant_2 (nI (j + 1)) gc ∧ vX7_findFrame_2 t k (nI j) p4 p5 gm = vX7_findFrame_2 t k (nI (j + 1)) p4 p5 gm) ∨ ∃ f, f < 10 ∧ gc 8 0 f = -1 ∧ vX2_lowestVacant_2 (nI j) gc = some (.inl (some (.inl (nI f))), gc) ∧ vX7_findFrame_2 t k (nI j) p4 p5 gm = some (.inl (some (.inl (nI f))), gm)
    obtain ⟨f1, f2, -, -, -, -, -, f8⟩ := hfr j hj
    rw [eX2_lowestVacant_2, eX7_findFrame_2, if_neg (pu_nge (x := 10) (k := 10) rfl hj (by omega)), if_neg (pu_nge (x := 10) (k := 10) rfl hj (by omega)), pu_in hj (by omega), pu_g, pu_g, nI_clamp (show j < 2 ^ 31 by omega), f2, nI_1]
    rcases f1 with z | ⟨s, hs, z⟩
    · rw [z, rl_bi_m, if_pos pu_neg, if_neg (by decide)]
      exact Or.inr ⟨j, hj, z, rfl, rfl⟩
    · have hb := (hal.1 s hs (f8 s hs z).1).1
      rw [z, rl_bi_s hs, if_neg (pu_lt0 (by omega)), if_pos (pu_ge (x := 0) (k := 0) rfl (by omega) (by omega))]
      refine Or.inl ⟨(), (), fun f hf => ?_, rfl, rfl⟩
      by_cases e : f = j
      · rw [e, z]; exact pu_m1 (by omega)
      · exact hp f (by omega)) 10 0 () () rfl (fun f hf => by omega)
  rcases L with ⟨_, _, hP, e1, e2⟩ | L
  · refine Or.inr ⟨hP, ?_, ?_⟩
    · refine Eq.trans (show vX2_lowestVacant_2 0 gc = vX2_lowestVacant_2 (nI 10) gc from e1) ?_
      rw [eX2_lowestVacant_2, if_pos (show (10 : Int32) ≤ nI 10 from by decide)]
    · refine Eq.trans (show vX7_findFrame_2 t k 0 p4 p5 gm = vX7_findFrame_2 t k (nI 10) p4 p5 gm from e2) ?_
      rw [eX7_findFrame_2, if_pos (show (10 : Int32) ≤ nI 10 from by decide)]
  · exact Or.inl L
def rl_liv (g : am_S) : Nat := pu_cn (fun u => decide (g 19 u 4 = 1)) 8
theorem sm_find0 {be : Nat → Nat} {t : Nat} {keep : Int32} (ht : t < 8) : ∀ (d i : Nat) (al : Nat → Bool) (gc gm : am_S) (o4 o5 o6 p4 p5 : Option am_v), rl_R 8 be al gc gm → rl_fx 128 al gc → gc 19 t 4 = 1 → i + rl_liv gc ≤ 8 → rl_liv gc ≤ d →
    ∃ al' gc' gm', rl_R 8 be al' gc' gm' ∧ rl_fx 128 al' gc' ∧ ((∃ f, f < 10 ∧ vX6_findFrame_2 (nI t) keep (nI i) o4 o5 o6 gc = some (.inl (some (.inl (nI f))), gc') ∧ vX7_findFrame_2 (nI t) keep 0 p4 p5 gm = some (.inl (some (.inl (nI f))), gm') ∧ gc' 8 0 f = -1 ∧ sm_G t keep al al' gc gc') ∨
      (vX6_findFrame_2 (nI t) keep (nI i) o4 o5 o6 gc = some (.inl (some (.inl (-1))), gc') ∧ vX7_findFrame_2 (nI t) keep 0 p4 p5 gm = some (.inl (some (.inl (-1))), gm') ∧ gc' 19 t 4 = 0)) := by
  intro d
  induction d with
  | zero =>
    intro i al gc gm o4 o5 o6 p4 p5 R hfx hl hi hd
    have : 0 < rl_liv gc := pu_cn_gt ht (decide_eq_true hl)
    omega
  | succ d ih =>
    intro i al gc gm o4 o5 o6 p4 p5 R hfx hl hi hd
    have hpos : 0 < rl_liv gc := pu_cn_gt ht (decide_eq_true hl)
    rw [eX6_findFrame_2, if_neg (pu_nge (x := 8) (k := 8) rfl (show i < 8 by omega) (by omega))]
    rcases sm_vacant (t := nI t) (k := keep) (p4 := p4) (p5 := p5) R.2.2.2.2.2.2.2.2.1 R.2.2.2.2.1 with ⟨f, hf, hv, e1, e2⟩ | ⟨hfull, e1, e2⟩
    · rw [e1, e2, pu_bI, eX6_findFrame_20, if_neg (by decide), if_neg (pu_m1 (by omega)), eX6_findFrame_87, if_neg (pu_m1 (by omega))]
      exact ⟨al, gc, gm, R, hfx, Or.inl ⟨f, hf, rfl, rfl, hv, sm_G_refl⟩⟩
    · rw [e1, e2, pu_bI]
      rcases sm_search (t := t) (i := i) (keep := keep) (o6 := o6) (p4 := p4) (p5 := p5) R hfull with ⟨x, y, ⟨R1, h19, h23, hG⟩, c1, c2⟩ | ⟨f, gc', gm', hf, c1, c2, R1, hv, h19, h23, hG⟩
      · have hfx1 : rl_fx 128 al x.2 := fun s hs ha hx => by rw [rl_pc_congr h23]; exact hfx s hs ha hx
        obtain ⟨v, hv, w1, w2, w3⟩ := sm_who R1 ht
        obtain ⟨al2, gc2, gm2, n1, n2, R2, hfx2, E⟩ := sm_endTask (why := 1) R1 hfx1 hv
        obtain ⟨EK, E4, E5, E7, E6, Eo, E20, E21, E22, Ep, -⟩ := E
        rw [c1, c2, eX6_findFrame_20, if_pos (show (20 : Int32) ≤ nI 20 from by decide), eX6_findFrame_87, if_pos rfl, w1, pu_bA19, n1, pu_bV, pu_nn (by omega), pu_g, pu_nn (by omega), pu_g, eX7_findFrame_27, if_pos (show (20 : Int32) ≤ nI 20 from by decide), w2, pu_bI, n2, pu_bV]
        by_cases e : v = t
        · subst e
          rw [if_pos rfl, if_pos rfl]
          exact ⟨al2, gc2, gm2, R2, hfx2, Or.inr ⟨rfl, rfl, E4⟩⟩
        · have hne : ¬ nI v = nI t := fun z => e (pu_inj (by omega) (by omega) z)
          rw [if_neg hne, if_neg hne, eX7_findFrame_0, nI_1]
          have hvl : gc 19 v 4 = 1 := by
            rcases w3 with z | z
            · exact absurd z e
            · rw [h19] at z; exact z
          have hliv : rl_liv gc = rl_liv gc2 + 1 := by
            unfold rl_liv
            refine pu_cn_up (k := v) (decide_eq_false (fun z => by rw [E4] at z; exact absurd z (by decide))) (decide_eq_true hvl) (fun u hu => ?_) 8 hv
            rw [(Eo u hu).1, h19]
          obtain ⟨al', gc', gm', R3, F3, res⟩ := ih (i + 1) al2 gc2 gm2 (some (.inl (-1))) (some (.inr (.inr (19, nI v)))) x.1 y.1 y.2.1 R2 hfx2 (by rw [(Eo t (fun z => e z.symm)).1, h19]; exact hl) (by omega) (by omega)
          refine ⟨al', gc', gm', R3, F3, ?_⟩
          rcases res with ⟨f, hf, r1, r2, r3, r4⟩ | ⟨r1, r2, r3⟩
          · refine Or.inl ⟨f, hf, r1, r2, r3, sm_G_trans hG (sm_G_trans ⟨?_, E20, E21, E22, ?_, fun r hr hx => ?_⟩ r4)⟩
            · exact (Eo t (fun z => e z.symm)).1
            · exact (Eo t (fun z => e z.symm)).2
            · obtain ⟨k1, k2, k3⟩ := EK r hr hx
              exact ⟨k1, k2, fun _ j hj => k3 j hj⟩
          · exact Or.inr ⟨r1, r2, r3⟩
      · rw [c1, c2]
        exact ⟨al, gc', gm', R1, fun s hs ha hx => by rw [rl_pc_congr h23]; exact hfx s hs ha hx, Or.inl ⟨f, hf, rfl, rfl, hv, hG⟩⟩
theorem sm_find {be : Nat → Nat} {al : Nat → Bool} {gc gm : am_S} {t : Nat} {keep : Int32} (ht : t < 8) (R : rl_R 8 be al gc gm) (hfx : rl_fx 128 al gc) (hl : gc 19 t 4 = 1) :
    ∃ al' gc' gm', rl_R 8 be al' gc' gm' ∧ rl_fx 128 al' gc' ∧ ((∃ f, f < 10 ∧ vX6_findFrame (nI t) keep gc = some (.inl (some (.inl (nI f))), gc') ∧ vX7_findFrame (nI t) keep gm = some (.inl (some (.inl (nI f))), gm') ∧ gc' 8 0 f = -1 ∧ sm_G t keep al al' gc gc') ∨
      (vX6_findFrame (nI t) keep gc = some (.inl (some (.inl (-1))), gc') ∧ vX7_findFrame (nI t) keep gm = some (.inl (some (.inl (-1))), gm') ∧ gc' 19 t 4 = 0)) := by
  rw [eX6_findFrame, eX7_findFrame, eX7_findFrame_0]
  exact sm_find0 ht 8 0 al gc gm none none none none none R hfx hl (by rw [Nat.zero_add]; exact pu_cn_le _ _) (pu_cn_le _ _)
