/-! a page gets a sheet -/
theorem rl_pc_on {gc : am_S} {t p s : Nat} (ht : t < 8) (hp : p < 16) (h : ¬ gc 23 t p = nI s) : rl_pc (am_up gc 23 t p (nI s)) s = rl_pc gc s + 1 := by
  unfold rl_pc
  obtain ⟨d1, d2⟩ := rl_div (t := t) hp
  refine pu_cn_up (k := 16 * t + p) ?_ ?_ (fun j hj => ?_) 128 (by omega)
  · rw [d1, d2]; exact decide_eq_false h
  · rw [d1, d2, pu_us]; exact decide_eq_true rfl
  · have : ¬ (j / 16 = t ∧ j % 16 = p) := fun q => hj (by omega)
    rw [pu_ub, if_neg this]
def lc_mp (g : am_S) (t p s : Nat) (k : Int32) : am_S := am_up (am_up (am_up g 23 t p (nI s)) 22 t p k) 5 s 1 (g 5 s 1 + 1)
def lm_mpp (g : am_S) (k q : Nat) (x : Int32) : am_S := am_up (am_up g 31 0 k (nI q)) 32 0 k x
theorem rl_map_R {ex : Nat} {be : Nat → Nat} {al : Nat → Bool} {gc gm : am_S} {t p s : Nat} {k : Int32} (h : rl_R ex be al gc gm) (ht : t < 8) (hp : p < 16) (hs : s < 128) (ha : al s = true) (hx : gc 23 t p = -1) (hk : k = 0 ∨ k = 1 ∨ k = 2) (hl : t ≠ ex → gc 19 t 4 = 1) :
    rl_R ex be al (lc_mp gc t p s k) (lm_mpp gm (16 * t + p) (be s) k) ∧ (lc_mp gc t p s k) 23 = am_up gc 23 t p (nI s) 23 := by
  obtain ⟨htk, hrg, hpg, hmp, hal, hdd, hsp, hsh, hfr, hhd, har, hpk, hs1, hs2⟩ := h
  have hbs := (hal.1 s hs ha).1
  have e5 : ∀ r j, j ≠ 1 → (lc_mp gc t p s k) 5 r j = gc 5 r j := fun r j hj => by unfold lc_mp; rw [pu_uj hj, pu_uf (by decide), pu_uf (by decide)]
  have e5r : ∀ r j, r ≠ s → (lc_mp gc t p s k) 5 r j = gc 5 r j := fun r j hj => by unfold lc_mp; rw [pu_ui hj, pu_uf (by decide), pu_uf (by decide)]
  have e51 : (lc_mp gc t p s k) 5 s 1 = gc 5 s 1 + 1 := by unfold lc_mp; rw [pu_us]
  have ef : ∀ f, f ≠ 5 → f ≠ 22 → f ≠ 23 → (lc_mp gc t p s k) f = gc f := fun f h1 h2 h3 => by unfold lc_mp; rw [pu_uf h1, pu_uf h2, pu_uf h3]
  have e23 : (lc_mp gc t p s k) 23 = am_up gc 23 t p (nI s) 23 := by unfold lc_mp; rw [pu_uf (by decide), pu_uf (by decide)]
  have e22 : ∀ u p', (lc_mp gc t p s k) 22 u p' = if u = t ∧ p' = p then k else gc 22 u p' := fun u p' => by unfold lc_mp; rw [pu_uf (by decide), pu_ub, pu_uf (by decide)]
  have em : ∀ f, f ≠ 31 → f ≠ 32 → (lm_mpp gm (16 * t + p) (be s) k) f = gm f := fun f h1 h2 => by unfold lm_mpp; rw [pu_uf h2, pu_uf h1]
  have e31 : ∀ j, (lm_mpp gm (16 * t + p) (be s) k) 31 0 j = if j = 16 * t + p then nI (be s) else gm 31 0 j := fun j => by
    unfold lm_mpp
    rw [pu_uf (by decide), pu_ub]
    by_cases e : j = 16 * t + p
    · rw [if_pos ⟨rfl, e⟩, if_pos e]
    · rw [if_neg (fun z => e z.2), if_neg e]
  have e32 : ∀ j, (lm_mpp gm (16 * t + p) (be s) k) 32 0 j = if j = 16 * t + p then k else gm 32 0 j := fun j => by
    unfold lm_mpp
    rw [pu_ub, pu_uf (by decide)]
    by_cases e : j = 16 * t + p
    · rw [if_pos ⟨rfl, e⟩, if_pos e]
    · rw [if_neg (fun z => e z.2), if_neg e]
  have hm1 : ∀ r, r < 128 → ¬ gc 23 t p = nI r := fun r hr z => by rw [hx] at z; exact pu_m1 (by omega) z.symm
  refine ⟨⟨?_, ?_, ?_, ?_, ?_, ?_, ?_, ?_, ?_, ?_, ?_, ?_, ?_, ?_⟩, e23⟩
  · intro u hu hne
    rw [ef 19 (by decide) (by decide) (by decide), em 25 (by decide) (by decide), em 26 (by decide) (by decide), em 27 (by decide) (by decide)]
    obtain ⟨a1, a2, a3, a4, a5, a6⟩ := htk u hu hne
    refine ⟨a1, a2, a3, a4, fun z => ⟨(a5 z).1, fun p' hp' => ?_⟩, a6⟩
    have hut : u ≠ t := fun w => by rw [w] at z hne; rw [hl hne] at z; exact absurd z (by decide)
    rw [e23, pu_ui hut]
    exact (a5 z).2 p' hp'
  · intro u hu
    rw [ef 19 (by decide) (by decide) (by decide), ef 20 (by decide) (by decide) (by decide), ef 21 (by decide) (by decide) (by decide), em 28 (by decide) (by decide), em 29 (by decide) (by decide), em 30 (by decide) (by decide)]
    exact hrg u hu
  · intro u p' hu hp'
    rw [e22, e23, e31, e32, pu_ub]
    by_cases w : u = t ∧ p' = p
    · obtain ⟨rfl, rfl⟩ := w
      have w1 : u = u ∧ p' = p' := ⟨rfl, rfl⟩
      have w2 : 16 * u + p' = 16 * u + p' := rfl
      rw [if_pos w1, if_pos w2, if_pos w2, if_pos w1]
      refine ⟨Or.inr ⟨s, hs, rfl⟩, (rl_bi_s hs).symm, fun r hr z => ?_⟩
      have := pu_inj (by omega) (by omega) z
      subst this
      exact ⟨ha, rfl, hk⟩
    · have w' : ¬ 16 * u + p' = 16 * t + p := fun z => w (by omega)
      rw [if_neg w, if_neg w, if_neg w', if_neg w']
      exact hpg u p' hu hp'
  · intro r hr
    rw [rl_pc_congr e23]
    by_cases e : r = s
    · subst e; rw [e51, hmp r hr, rl_pc_on ht hp (hm1 r hr), nI_1]
    · rw [e5r r 1 e, hmp r hr, rl_pc_other hp (hm1 r hr) (fun z => e (pu_inj (by omega) (by omega) z).symm)]
  · unfold rl_al
    rw [em 37 (by decide) (by decide)]
    exact hal
  · intro r hr hr2
    rw [e5 r 2 (by decide), e5 r 3 (by decide), e5 r 4 (by decide), e5 r 5 (by decide), e5 r 6 (by decide), ef 6 (by decide) (by decide) (by decide)]
    exact hdd r hr hr2
  · unfold rl_sp
    rw [ef 2 (by decide) (by decide) (by decide), ef 4 (by decide) (by decide) (by decide)]
    exact hsp
  · intro r hr hr2
    rw [e5 r 2 (by decide), e5 r 3 (by decide), e5 r 4 (by decide), e5 r 5 (by decide), ef 6 (by decide) (by decide) (by decide), ef 8 (by decide) (by decide) (by decide), ef 10 (by decide) (by decide) (by decide), ef 12 (by decide) (by decide) (by decide), em 33 (by decide) (by decide), em 34 (by decide) (by decide), em 35 (by decide) (by decide), em 36 (by decide) (by decide)]
    exact hsh r hr hr2
  · intro f hf
    rw [ef 8 (by decide) (by decide) (by decide), ef 9 (by decide) (by decide) (by decide), ef 10 (by decide) (by decide) (by decide), em 38 (by decide) (by decide), em 39 (by decide) (by decide), em 40 (by decide) (by decide)]
    obtain ⟨a1, a2, a3, a4, a5, a6, a7, a8⟩ := hfr f hf
    refine ⟨a1, a2, a3, a4, a5, a6, a7, fun r hr z => ?_⟩
    rw [e5 r 2 (by decide), e5 r 3 (by decide)]
    exact a8 r hr z
  · unfold rl_hd
    rw [ef 7 (by decide) (by decide) (by decide), em 24 (by decide) (by decide)]
    exact hhd
  · have hin : ∀ r b, rl_in al (lc_mp gc t p s k) r b ↔ rl_in al gc r b := fun r b => by
      unfold rl_in
      rw [e5 r 2 (by decide), e5 r 3 (by decide), e5 r 4 (by decide)]
    refine ⟨fun b hb => ?_, fun r r' b hr hr' h1 h2 => har.2 r r' b hr hr' ((hin r b).mp h1) ((hin r' b).mp h2)⟩
    rw [ef 12 (by decide) (by decide) (by decide)]
    rcases har.1 b hb with z | ⟨z, r, hr, h1⟩
    · exact Or.inl z
    · exact Or.inr ⟨z, r, hr, (hin r b).mpr h1⟩
  · unfold rl_pk
    rw [ef 11 (by decide) (by decide) (by decide), em 37 (by decide) (by decide), em 33 (by decide) (by decide)]
    exact hpk
  · intro j hj
    rw [ef 15 (by decide) (by decide) (by decide), ef 16 (by decide) (by decide) (by decide), ef 17 (by decide) (by decide) (by decide), em 41 (by decide) (by decide), em 42 (by decide) (by decide), em 43 (by decide) (by decide), em 44 (by decide) (by decide)]
    obtain ⟨a1, a2, a3, a4, a5⟩ := hs1 j hj
    refine ⟨a1, a2, a3, a4, ?_⟩
    rcases a5 with z | z | ⟨z1, z2, r, hr, z3, z4, z5⟩
    · exact Or.inl z
    · exact Or.inr (Or.inl z)
    · exact Or.inr (Or.inr ⟨z1, z2, r, hr, z3, z4, by rw [e5 r 5 (by decide), e5 r 6 (by decide)]; exact z5⟩)
  · intro r hr hr2
    rw [e5 r 5 (by decide), e5 r 6 (by decide), em 41 (by decide) (by decide)]
    exact hs2 r hr hr2
/-- pages that stay, when one more is mapped -/
theorem rl_fx_map {al : Nat → Bool} {gc gc' : am_S} {x t p s : Nat} (hfx : rl_fx x al gc) (ht : t < 8) (hp : p < 16) (hs : s < 128) (hx : gc 23 t p = -1) (e : gc' 23 = am_up gc 23 t p (nI s) 23) (hxs : x = s ∨ x = 128) : rl_fx 128 al gc' := fun r hr ha _ => by
  have hm1 : ¬ gc 23 t p = nI r := fun z => by rw [hx] at z; exact pu_m1 (by omega) z.symm
  rw [rl_pc_congr e]
  by_cases w : r = s
  · subst w; rw [rl_pc_on ht hp hm1]; omega
  · rw [rl_pc_other hp hm1 (fun z => w (pu_inj (by omega) (by omega) z).symm)]
    exact hfx r hr ha (by omega)
theorem lc_map' {g : am_S} {t p s : Nat} {k : Int32} (ht : t < 8) (hp : p < 16) (hs : s < 128) : vX5_map (nI t) (nI p) (nI s) k g = some (.inl none, lc_mp g t p s k) := lc_map ht hp hs
/-- a page is free: a sheet is spare -/
theorem rl_spare_free {be : Nat → Nat} {al : Nat → Bool} {gc gm : am_S} {t p : Nat} (hpg : rl_pg be al gc gm) (hfx : rl_fx 128 al gc) (ht : t < 8) (hp : p < 16) (hx : gc 23 t p = -1) : 0 < rl_nd al := by
  refine rl_spare (gc := gc) (k0 := 16 * t + p) (by omega) (fun s hs ha => ?_)
  obtain ⟨k, hk, hd⟩ := pu_cn_pos (hfx s hs ha (by omega))
  have hd := of_decide_eq_true hd
  refine ⟨k, hk, fun w => ?_, hd⟩
  rw [w, (rl_div hp).1, (rl_div hp).2, hx] at hd
  exact pu_m1 (by omega) hd.symm
/-- a new sheet on a free page, on both sides -/
theorem sm_newpage {be : Nat → Nat} {al : Nat → Bool} {gc gm : am_S} {t p : Nat} {k : Int32} (h : rl_R 8 be al gc gm) (hfx : rl_fx 128 al gc) (ht : t < 8) (hp : p < 16) (hx : gc 23 t p = -1) (hk : k = 0 ∨ k = 1 ∨ k = 2) (hl : gc 19 t 4 = 1) :
    ∃ be' al' s q gc1 gm1, s < 128 ∧ q < 130 ∧ vX4_take gc = some (.inl (some (.inr (.inr (5, nI s)))), gc1) ∧ vX5_map (nI t) (nI p) (nI s) k gc1 = some (.inl none, lc_mp gc1 t p s k) ∧ vX7_newSheet gm = some (.inl (some (.inl (nI q))), gm1) ∧
      rl_R 8 be' al' (lc_mp gc1 t p s k) (lm_mpp gm1 (16 * t + p) q k) ∧ rl_fx 128 al' (lc_mp gc1 t p s k) ∧ gc1 19 = gc 19 ∧ (lc_mp gc1 t p s k) 19 = gc 19 ∧ (lc_mp gc1 t p s k) 23 = am_up gc 23 t p (nI s) 23 ∧ gm1 24 = gm 24 := by
  have hR := h
  have hpos := rl_spare_free h.2.2.1 hfx ht hp hx
  obtain ⟨n, hn⟩ : ∃ n, rl_nd al = n + 1 := ⟨rl_nd al - 1, by omega⟩
  have hn128 : n < 128 := by have : rl_nd al ≤ 128 := pu_cn_le _ _; omega
  obtain ⟨q, hq, hq0, hqu⟩ := rl_left h.2.2.2.2.1
  obtain ⟨s, hs, ha, h4, R1⟩ := rl_new_R h hn hq hq0
  have h2 : gc 2 0 2 = nI (n + 1) := by rw [← hn]; exact hR.2.2.2.2.2.2.1.1
  have T := lc_take hn128 h2
  rw [h4] at T
  have N := lm_newSheet hq hq0 hqu
  have c23 : (am_up gc 2 0 2 (nI n)) 23 = gc 23 := pu_uf (by decide)
  have c19 : (am_up gc 2 0 2 (nI n)) 19 = gc 19 := pu_uf (by decide)
  obtain ⟨R2, e23⟩ := rl_map_R (k := k) R1 ht hp hs rl_yes_s (by rw [c23]; exact hx) hk (fun _ => by rw [c19]; exact hl)
  rw [rl_to_s] at R2
  have hfx1 : rl_fx s (rl_yes al s) (am_up gc 2 0 2 (nI n)) := fun r hr hr2 hne => by
    rw [rl_pc_congr c23]
    rw [rl_yes_i hne] at hr2
    exact hfx r hr hr2 (by omega)
  refine ⟨_, _, s, q, _, _, hs, hq, T, lc_map' ht hp hs, N, R2, rl_fx_map hfx1 ht hp hs (by rw [c23]; exact hx) e23 (Or.inl rfl), c19, ?_, ?_, ?_⟩
  · unfold lc_mp
    rw [pu_uf (by decide), pu_uf (by decide), pu_uf (by decide), c19]
  · rw [e23]
    funext i j
    rw [pu_ub, pu_ub, c23]
  · unfold lm_ns
    rw [pu_ff (by decide), pu_uf (by decide), pu_uf (by decide)]
