/-- what putting away the sheet s of the frame f keeps -/
def sm_P (gc gc' : am_S) (s f : Nat) : Prop := (gc' 19 = gc 19 ∧ gc' 20 = gc 20 ∧ gc' 21 = gc 21 ∧ gc' 22 = gc 22 ∧ gc' 23 = gc 23 ∧ gc' 7 = gc 7 ∧ gc' 6 = gc 6) ∧ (∀ r j, r ≠ s → gc' 5 r j = gc 5 r j) ∧ (∀ f', f' ≠ f → gc' 8 0 f' = gc 8 0 f')
theorem lc_vacate' {g : am_S} {f : Nat} (hf : f < 10) : vX2_vacate (nI f) g = some (.inl none, lc_vc g f) := lc_vacate hf
theorem lm_clearFrame' {g : am_S} {f : Nat} (hf : f < 10) : vX7_clearFrame (nI f) g = some (.inl none, lm_vc g f) := lm_clearFrame hf
theorem sm_P_of {gc g : am_S} {s f : Nat} (h : ∀ c, c = 19 ∨ c = 20 ∨ c = 21 ∨ c = 22 ∨ c = 23 ∨ c = 7 ∨ c = 6 ∨ c = 8 → g c = gc c) (h5 : ∀ r j, r ≠ s → g 5 r j = gc 5 r j) : sm_P gc (lc_vc g f) s f := by
  refine ⟨⟨?_, ?_, ?_, ?_, ?_, ?_, ?_⟩, fun r j hr => ?_, fun f' hf' => ?_⟩
  · rw [lc_vc_f (by decide) (by decide) (by decide)]; exact h 19 (by decide)
  · rw [lc_vc_f (by decide) (by decide) (by decide)]; exact h 20 (by decide)
  · rw [lc_vc_f (by decide) (by decide) (by decide)]; exact h 21 (by decide)
  · rw [lc_vc_f (by decide) (by decide) (by decide)]; exact h 22 (by decide)
  · rw [lc_vc_f (by decide) (by decide) (by decide)]; exact h 23 (by decide)
  · rw [lc_vc_f (by decide) (by decide) (by decide)]; exact h 7 (by decide)
  · rw [lc_vc_f (by decide) (by decide) (by decide)]; exact h 6 (by decide)
  · rw [lc_vc_f (by decide) (by decide) (by decide)]; exact h5 r j hr
  · rw [(lc_vc_o hf').1, h 8 (by decide)]
/-- no room in the pool -/
theorem sm_store {be : Nat → Nat} {al : Nat → Bool} {gc gm : am_S} {s fo : Nat} {n : Int32} (h : rl_R 8 be al gc gm) (hs : s < 128) (ha : al s = true) (hfo : fo < 10) (h2 : gc 5 s 2 = 1) (h3 : gc 5 s 3 = nI fo) (h8 : gc 8 0 fo = nI s) (h5 : gc 5 s 5 = -1) :
    ∃ b gc' gm', am_bI (vX6_storeInSlots (nI s) gc) (fun r5 g4 => if r5 = 0 then (am_g (am_b 0) (some (.inl (some (.inl 0)), g4))) else am_bV (vX2_vacate (nI fo) g4) (fun g6 => am_g (am_b 1) (some (.inl (some (.inl 1)), g6)))) = some (.inl (some (.inl b)), gc') ∧ vX7_empty_60 (nI fo) (nI (be s)) n (-1) gm = some (.inl (some (.inl b)), gm') ∧ (b = 0 ∨ b = 1) ∧ rl_R 8 be al gc' gm' ∧ sm_P gc gc' s fo ∧ (b = 0 → gc' 8 = gc 8) ∧ (b = 1 → gc' 8 0 fo = -1) := by
  have hbs := (h.2.2.2.2.1.1 s hs ha).1
  have h6 : gc 5 s 6 = -1 := by
    rcases h.2.2.2.2.2.2.2.2.2.2.2.2.2 s hs ha with ⟨-, z⟩ | ⟨k, z1, z2, -⟩
    · exact z
    · rw [h5] at z2; exact absurd z2.symm (pu_m1 (by omega))
  rw [eX6_storeInSlots, eX7_empty_60, if_pos pu_neg]
  obtain ⟨l, ⟨rfl, e1, e2⟩ | ⟨hl, h15, e1, e2⟩⟩ := sm_slot (rl_sl_P h)
  · rw [e1, e2, pu_bI, pu_bI, if_pos rfl, if_neg (by decide), pu_b0, pu_g, pu_bI, if_pos rfl, pu_g, pu_g]
    refine ⟨0, tl_c gc 24, tl_m gc gm 24, rfl, rfl, Or.inl rfl, rl_bad_R 24 h, ⟨⟨?_, ?_, ?_, ?_, ?_, ?_, ?_⟩, fun r j _ => ?_, fun f' _ => ?_⟩, fun _ => ?_, fun z => absurd z (by decide)⟩ <;> rw [tl_c_f (by decide)]
  · have R1 := rl_bad_R l h
    have R2 := rl_outC (fo := fo) (l := l) R1 hs ha hfo (by rw [tl_c_f (by decide)]; exact h2) (by rw [tl_c_f (by decide)]; exact h3) (by rw [tl_c_f (by decide)]; exact h8) (by rw [tl_c_f (by decide)]; exact h5) hl (by rw [tl_c_at (Nat.le_refl l)]; exact h15)
    have ne1 : ¬ nI l = -1 := pu_m1 (by omega)
    have hle : (0 : Int32) ≤ nI l := pu_ge (x := 0) (k := 0) rfl (by omega) (by omega)
    rw [e1, e2, pu_bI, pu_bI, if_neg ne1, if_pos hle, pu_in hs (by omega), pu_g, nI_clamp (show s < 2 ^ 31 by omega), pu_lt', pu_g, pu_lt', pu_g, pu_lt', pu_in hl (by omega), pu_g, nI_clamp (show l < 2 ^ 31 by omega), pu_lt']
    have eg5 : am_up (am_up (am_up (am_up (tl_c gc l) 15 0 l 1) 5 s 2 3) 5 s 3 (-1)) 5 s 5 (nI l) = lc_sl (tl_c gc l) s l := rfl
    rw [eg5]
    generalize hg5 : lc_sl (tl_c gc l) s l = g5 at R2
    generalize hg3 : am_up (tl_m gc gm l) 41 0 l (nI (be s)) = g3
    have em2 : lm_sl (tl_m gc gm l) (be s) l = am_up g3 33 0 (be s) 3 := by rw [← hg3]; rfl
    rw [em2] at R2
    have G5 : ∀ c, c ≠ 15 → c ≠ 5 → g5 c = gc c := fun c a b => by rw [← hg5]; unfold lc_sl; rw [pu_uf b, pu_uf b, pu_uf b, pu_uf a, tl_c_f a]
    have G55 : ∀ r j, r ≠ s → g5 5 r j = gc 5 r j := fun r j hr => by rw [← hg5]; unfold lc_sl; rw [pu_ui hr, pu_ui hr, pu_ui hr, pu_uf (by decide), tl_c_f (by decide)]
    have G556 : g5 5 s 6 = -1 := by rw [← hg5]; unfold lc_sl; rw [pu_uj (by decide), pu_uj (by decide), pu_uj (by decide), pu_uf (by decide), tl_c_f (by decide)]; exact h6
    have G555 : g5 5 s 5 = nI l := by rw [← hg5]; unfold lc_sl; rw [pu_us]
    have G15 : g5 15 = am_up (tl_c gc l) 15 0 l 1 15 := by rw [← hg5]; unfold lc_sl; rw [pu_uf (by decide), pu_uf (by decide), pu_uf (by decide)]
    have G3 : ∀ c, c ≠ 41 → c ≠ 42 → g3 c = gm c := fun c a b => by rw [← hg3, pu_uf a, tl_m_f b]
    obtain ⟨V1, V2⟩ := sm_valu (X := g5) (Y := g3) h.1 h.2.2.1 h.2.2.2.2.1 hs ha (G5 19 (by decide) (by decide)) (G5 23 (by decide) (by decide)) (G3 31 (by decide) (by decide)) (G3 26 (by decide) (by decide))
    have F : ∀ (aa : Option am_v) (X : am_S), vX7_empty_144 (nI fo) (nI (be s)) n (-1) (nI l) aa X = some (.inl (some (.inl 1)), lm_vc (am_up X 33 0 (be s) 3) fo) := fun aa X => by
      rw [eX7_empty_144, pu_in hbs (by omega), pu_g, nI_clamp (by omega), pu_lt', lm_clearFrame' hfo, pu_bV, pu_b1, pu_g]
    rw [V1, V2, pu_bI, pu_bI]
    by_cases hv : pu_or (rl_vl gc s) = 0
    · rw [if_pos hv, if_pos hv, pu_g, pu_lt', pu_b1, pu_g, pu_bI, if_neg (by decide), rl_up_id G556, lc_vacate' hfo, pu_bV, pu_g, F]
      refine ⟨1, _, _, rfl, rfl, Or.inr rfl, R2, sm_P_of (fun c hc => G5 c (by omega) (by omega)) G55, fun z => absurd z (by decide), fun _ => lc_vc_a.1⟩
    · rw [if_neg hv, if_neg hv]
      have SP : sl_P g5 g3 := fun k hk => by
        have := rl_sl_P R2 k hk
        rw [lc_vc_f (by decide) (by decide) (by decide), lc_vc_f (by decide) (by decide) (by decide), lm_vc_f (by decide) (by decide) (by decide), lm_vc_f (by decide) (by decide) (by decide), lm_vc_f (by decide) (by decide) (by decide), pu_uf (by decide), pu_uf (by decide), pu_uf (by decide)] at this
        exact this
      have T : ∀ l2, rl_R 8 be al (lc_vc (tl_c g5 l2) fo) (lm_vc (am_up (tl_m g5 g3 l2) 33 0 (be s) 3) fo) := fun l2 => by
        have := rl_bad_R l2 R2
        rw [tl_vc, tl_mvc, tl_m_up (by decide), tl_m_cg (lc_vc_f (by decide) (by decide) (by decide))] at this
        exact this
      obtain ⟨l2, ⟨rfl, e3, e4⟩ | ⟨hl2, h152, e3, e4⟩⟩ := sm_slot SP
      · rw [e3, e4, pu_bI, pu_bI, if_pos pu_neg, pu_g, pu_lt', pu_b1, pu_g, pu_bI, if_neg (by decide), rl_up_id (show tl_c g5 24 5 s 6 = -1 by rw [tl_c_f (by decide)]; exact G556), lc_vacate' hfo, pu_bV, pu_g, F]
        refine ⟨1, _, _, rfl, rfl, Or.inr rfl, T 24, sm_P_of (fun c hc => ?_) (fun r j hr => ?_), fun z => absurd z (by decide), fun _ => lc_vc_a.1⟩
        · rw [tl_c_f (by omega)]; exact G5 c (by omega) (by omega)
        · rw [tl_c_f (by decide)]; exact G55 r j hr
      · have hll : l < l2 := by
          rw [G15, pu_ub] at h152
          by_cases w : l2 = l
          · rw [if_pos ⟨rfl, w⟩] at h152; exact absurd h152 (by decide)
          · rw [if_neg (fun z => w z.2)] at h152
            rcases Nat.lt_or_ge l2 l with o | o
            · unfold tl_c at h152
              by_cases y : gc 15 0 l2 = 0
              · rw [if_pos ⟨⟨rfl, rfl, o⟩, y⟩] at h152; exact absurd h152 (by decide)
              · rw [if_neg (fun z => y z.2)] at h152; exact absurd h152 y
            · omega
        have R4 := rl_upper_R (l := l) (l2 := l2) (T l2) hs ha (by rw [lc_vc_f (by decide) (by decide) (by decide), tl_c_f (by decide)]; exact G555) (by rw [lc_vc_f (by decide) (by decide) (by decide), tl_c_f (by decide)]; exact G556) hll hl2 (by rw [lc_vc_f (by decide) (by decide) (by decide), tl_c_at (Nat.le_refl l2)]; exact h152)
        rw [up_vc (by decide) (by decide) (by decide), up_vc (by decide) (by decide) (by decide), up_mvc (by decide) (by decide) (by decide), pu_comm (show 33 ≠ 41 by decide)] at R4
        rw [e3, e4, pu_bI, pu_bI, if_neg (pu_lt0 (by omega)), pu_g, pu_lt', pu_b1, pu_g, pu_bI, if_neg (by decide), lc_vacate' hfo, pu_bV, pu_g, pu_in hl2 (by omega), pu_g, nI_clamp (show l2 < 2 ^ 31 by omega), pu_lt', F]
        refine ⟨1, _, _, rfl, rfl, Or.inr rfl, R4, sm_P_of (fun c hc => ?_) (fun r j hr => ?_), fun z => absurd z (by decide), fun _ => lc_vc_a.1⟩
        · rw [pu_uf (by omega), pu_uf (by omega), tl_c_f (by omega)]; exact G5 c (by omega) (by omega)
        · rw [pu_ui hr, pu_uf (by decide), tl_c_f (by decide)]; exact G55 r j hr
theorem sm_put {be : Nat → Nat} {al : Nat → Bool} {gc gm : am_S} {s f : Nat} (h : rl_R 8 be al gc gm) (hf : f < 10) (hs : s < 128) (h8 : gc 8 0 f = nI s) :
    ∃ b gc' gm', vX6_putAway (nI f) gc = some (.inl (some (.inl b)), gc') ∧ vX7_empty (nI f) gm = some (.inl (some (.inl b)), gm') ∧ (b = 0 ∨ b = 1) ∧ rl_R 8 be al gc' gm' ∧ sm_P gc gc' s f ∧ (b = 0 → gc' 8 = gc 8) ∧ (b = 1 → gc' 8 0 f = -1) := by
  have hR := h
  obtain ⟨-, -, -, -, hal, -, -, hsh, hfr, -, har, -, -, hs2⟩ := h
  obtain ⟨-, f2, -, f4, -, f6, -, f8⟩ := hfr f hf
  obtain ⟨ha, h2, h3⟩ := f8 s hs h8
  rw [h8, rl_bi_s hs] at f2
  have hbs := (hal.1 s hs ha).1
  obtain ⟨-, hw, hpl⟩ := hsh s hs ha
  have rest : gc 5 s 5 = -1 → ∃ b gc' gm', vX6_putAway_49 (nI f) (nI s) gc = some (.inl (some (.inl b)), gc') ∧ vX7_empty_39 (nI f) (nI (be s)) gm = some (.inl (some (.inl b)), gm') ∧ (b = 0 ∨ b = 1) ∧ rl_R 8 be al gc' gm' ∧ sm_P gc gc' s f ∧ (b = 0 → gc' 8 = gc 8) ∧ (b = 1 → gc' 8 0 f = -1) := fun h5 => by
    obtain ⟨n, n1, n2, p1, p2⟩ := sm_packs hs hbs hw
    rw [eX6_putAway_49, eX7_empty_39, eX0_pack, pu_in hs (by omega), pu_g, p1, p2, pu_bI, pu_bI]
    have st := sm_store (n := nI n) hR hs ha hf h2 h3 h8 h5
    by_cases hn : 16 < n
    · have hn' : (16 : Int32) < nI n := pu_gt (x := 16) (k := 16) rfl hn (by omega)
      rw [if_pos hn', if_pos hn', eX0_pack_20, if_pos rfl, pu_b0, pu_g, pu_bI, if_pos rfl]
      exact st
    · have hn' : ¬ (16 : Int32) < nI n := pu_ngt (x := 16) (k := 16) rfl (by omega) (by omega)
      rw [if_neg hn', if_neg hn']
      obtain ⟨r, r1, r2, rfl | ⟨a, rfl, a1, a2⟩⟩ := sm_room (n := n) hal hsh har (by omega) (by omega)
      · rw [r1, r2, pu_bI, pu_bI, eX0_pack_20, if_pos rfl, pu_b0, pu_g, pu_bI, if_pos rfl]
        exact st
      · rw [r1, r2, pu_bI, pu_bI, eX0_pack_20, if_neg (pu_m1 (by omega)), lc_pack (x := 0) hs a1, pu_bI, if_neg (by decide), lc_vacate' hf, pu_bV, pu_b1, pu_g, eX7_empty_60, if_neg (pu_lt0 (by omega)), pu_in hbs (by omega), pu_g, nI_clamp (show be s < 2 ^ 31 by omega), pu_lt', pu_g, pu_lt', pu_g, pu_lt', lm_clearFrame' hf, pu_bV, pu_b1, pu_g]
        refine ⟨1, _, _, rfl, rfl, Or.inr rfl, rl_outB hR hs ha hf h2 h3 h8 h5 (by omega) a1 a2, sm_P_of (fun c hc => ?_) (fun r j hr => ?_), fun z => absurd z (by decide), fun _ => lc_vc_a.1⟩
        · unfold lc_pk
          rw [pu_uf (by omega), pu_uf (by omega), pu_uf (by omega), pu_uf (by omega), pu_ff (by omega)]
        · unfold lc_pk
          rw [pu_ui hr, pu_ui hr, pu_ui hr, pu_uf (by decide), pu_ff (by decide)]
  rw [eX6_putAway, eX7_empty, pu_in hf (by omega), pu_g, nI_clamp (show f < 2 ^ 31 by omega), pu_lv, h8, if_neg (pu_lt0 (by omega)), pu_in hs (by omega), pu_g, nI_clamp (show s < 2 ^ 31 by omega), pu_g, pu_lv, f2, (sm_sn hR hs ha rfl).1, pu_bI]
  rcases hs2 s hs ha with ⟨h5, -⟩ | ⟨k, hk, h5, -⟩
  · rw [if_pos h5, if_pos (by rw [h5]; exact pu_neg)]
    exact rest h5
  · rw [if_neg (show ¬ gc 5 s 5 = -1 by rw [h5]; exact pu_m1 (by omega)), if_neg (show ¬ gc 5 s 5 < 0 by rw [h5]; exact pu_lt0 (by omega)), pu_g, pu_g, f4]
    by_cases hc : gc 10 0 f = 0
    · rw [if_pos hc, if_pos hc, pu_g, pu_lt', pu_g, pu_lt', lc_vacate' hf, pu_bV, pu_b1, pu_g, pu_in hbs (by omega), pu_g, nI_clamp (show be s < 2 ^ 31 by omega), pu_lt', lm_clearFrame' hf, pu_bV, pu_g]
      refine ⟨1, _, _, rfl, rfl, Or.inr rfl, rl_outA hR hs ha hf h2 h3 h8 hk h5, sm_P_of (fun c hc => ?_) (fun r j hr => ?_), fun z => absurd z (by decide), fun _ => lc_vc_a.1⟩
      · rw [pu_uf (by omega), pu_uf (by omega)]
      · rw [pu_ui hr, pu_ui hr]
    · rw [if_neg hc, if_neg hc]
      refine rest ?_
      have hc1 : gc 10 0 f = 1 := by
        rcases f6 with z | z
        · exact absurd z hc
        · exact z
      rcases hpl with ⟨z, -⟩ | ⟨-, f', y1, y2, y3, y4⟩ | ⟨z, -⟩ | ⟨z, -⟩
      · rw [h2] at z; exact absurd z (by decide)
      · rw [h3] at y2
        have := pu_inj (by omega) (by omega) y2
        subst this
        exact y4 hc1
      · rw [h2] at z; exact absurd z (by decide)
      · rw [h2] at z; exact absurd z (by decide)
