/-! may the sheets be mapped again: the reference's side, for a fork -/
theorem rl_ct0_0 {g : am_S} {t s : Nat} {j : Nat} : rl_ct g t 0 s (j + 1) = rl_ct g t 0 s j + (if g 23 t j = nI s then 1 else 0) := by
  have st : rl_ct g t 0 s (j + 1) = rl_ct g t 0 s j + (match decide (0 ≤ j ∧ g 23 t j = nI s) with | true => 1 | false => 0) := rfl
  rw [st]
  by_cases c : g 23 t j = nI s
  · rw [decide_eq_true ⟨Nat.zero_le _, c⟩, if_pos c]
  · rw [decide_eq_false (fun z => c z.2), if_neg c]
theorem lm_div {be : Nat → Nat} {al : Nat → Bool} {gc Y : am_S} {q : Nat} (hpg : rl_pg be al gc Y) (hal : rl_al be al Y) (hq : q < 8) :
    (rl_may gc q 0 16 ∧ ∃ o1 o2 o3, vX7_divide (nI q) Y = vX7_divide_2 (nI q) (nI 16) o1 o2 o3 Y) ∨ (¬ rl_may gc q 0 16 ∧ vX7_divide (nI q) Y = some (.inl (some (.inl (-1))), Y)) := by
  rw [eX7_divide]
  have L := pu_loopE 16 (fun j (x : Option am_v × Option am_v × Option am_v) => vX7_divide_2 (nI q) (nI j) x.1 x.2.1 x.2.2 Y) (fun j _ => ∀ i, i < j → ∀ s, s < 128 → gc 23 q i = nI s → rl_pc gc s + rl_ct gc q 0 s 16 ≤ 20)
    (fun r => r = (.inl (some (.inl (-1))), Y) ∧ ¬ rl_may gc q 0 16) (fun j x hj hP => by
    obtain ⟨o1, o2, o3⟩ := x
    show (∃ x' : Option am_v × Option am_v × Option am_v, (∀ i, i < j + 1 → ∀ s, s < 128 → gc 23 q i = nI s → rl_pc gc s + rl_ct gc q 0 s 16 ≤ 20) ∧ vX7_divide_2 (nI q) (nI j) o1 o2 o3 Y = vX7_divide_2 (nI q) (nI (j + 1)) x'.1 x'.2.1 x'.2.2 Y) ∨ ∃ r, (r = (.inl (some (.inl (-1))), Y) ∧ ¬ rl_may gc q 0 16) ∧ vX7_divide_2 (nI q) (nI j) o1 o2 o3 Y = some r
    obtain ⟨p1, p2, p3⟩ := hpg q j hq hj
    rw [eX7_divide_2, if_neg (pu_nge (x := 16) (k := 16) rfl hj (by omega)), pu_16, pu_in (show 16 * q + j < 128 by omega) (by omega), pu_g, pu_lv, nI_clamp (by omega), p2]
    rcases p1 with z | ⟨s, hs, z⟩
    · rw [z, rl_bi_m]
      obtain ⟨_, _, e⟩ := pu_loop 16 (fun i (_ : Unit) => vX7_divide_26 (nI q) (nI j) (-1) 0 (nI i) Y) (fun _ _ => True) (fun i _ hi _ => by
        refine ⟨(), trivial, ?_⟩
        rw [eX7_divide_26, if_neg (pu_nge (x := 16) (k := 16) rfl hi (by omega)), if_pos pu_neg, nI_1]) 16 0 () rfl trivial
      refine Or.inl ⟨(some (.inl (-1)), some (.inl 0), some (.inl (nI 16))), fun i hi r hr w => ?_, ?_⟩
      · by_cases e : i = j
        · rw [e, z] at w; exact absurd w.symm (pu_m1 (by omega))
        · exact hP i (by omega) r hr w
      · refine Eq.trans (show vX7_divide_26 (nI q) (nI j) (-1) 0 0 Y = vX7_divide_26 (nI q) (nI j) (-1) 0 (nI 16) Y from e) ?_
        rw [eX7_divide_26, if_pos (show (16 : Int32) ≤ nI 16 from by decide), if_pos pu_neg, nI_1]
    · have ha := (p3 s hs z).1
      have hb := (hal.1 s hs ha).1
      have hpc := rl_pc_le gc s
      have hct : rl_ct gc q 0 s 16 ≤ 16 := pu_cn_le _ _
      rw [z, rl_bi_s hs]
      obtain ⟨n, hn, e⟩ := pu_loop 16 (fun i (n : Nat) => vX7_divide_26 (nI q) (nI j) (nI (be s)) (nI n) (nI i) Y) (fun i n => n = rl_ct gc q 0 s i) (fun i n hi hn => by
        refine ⟨_, rfl, ?_⟩
        subst hn
        have hiff := rl_pg_iff hpg hal hs ha (show 16 * q + i < 128 by omega)
        rw [(rl_div hi).1, (rl_div hi).2] at hiff
        rw [eX7_divide_26, if_neg (pu_nge (x := 16) (k := 16) rfl hi (by omega)), if_neg (pu_lt0 (by omega)), pu_16, pu_in (show 16 * q + i < 128 by omega) (by omega), pu_g, nI_clamp (by omega), pu_lv, nI_1, nI_1, rl_ct0_0]
        by_cases c : gc 23 q i = nI s
        · rw [if_pos (hiff.mpr c), if_pos c]
        · rw [if_neg (fun w => c (hiff.mp w)), if_neg c]; rfl) 16 0 0 rfl rfl
      have E : vX7_divide_26 (nI q) (nI j) (nI (be s)) 0 0 Y = vX7_divide_26 (nI q) (nI j) (nI (be s)) (nI n) (nI 16) Y := e
      rw [E, eX7_divide_26, if_pos (show (16 : Int32) ≤ nI 16 from by decide), if_neg (pu_lt0 (by omega)), lm_mappings, pu_bI, rl_mp_eq hpg hal hs ha, nI_add, hn, nI_1]
      by_cases c : rl_pc gc s + rl_ct gc q 0 s 16 ≤ 20
      · rw [if_pos (pu_le (x := 20) (k := 20) rfl c (by omega))]
        refine Or.inl ⟨(_, _, _), fun i hi r hr w => ?_, rfl⟩
        by_cases e : i = j
        · rw [e, z] at w
          have := pu_inj (by omega) (by omega) w
          rw [← this]; exact c
        · exact hP i (by omega) r hr w
      · rw [if_neg (pu_nle (x := 20) (k := 20) rfl (by omega) (by omega))]
        refine Or.inr ⟨_, ⟨rfl, fun hm => c ?_⟩, rfl⟩
        have := hm j (Nat.zero_le _) (by omega) s hs z
        rw [Nat.zero_add] at this
        exact this) 16 0 (none, none, none) rfl (fun i hi => by omega)
  rcases L with ⟨x, hP, e⟩ | ⟨r, ⟨rfl, hm⟩, e⟩
  · exact Or.inl ⟨fun i _ hi s hs w => by rw [Nat.zero_add]; exact hP i (by omega) s hs w, x.1, x.2.1, x.2.2, e⟩
  · exact Or.inr ⟨hm, e⟩
/-- the kind of a page without a sheet -/
theorem rl_kind_R {be : Nat → Nat} {al : Nat → Bool} {gc gm : am_S} {t p : Nat} {v : Int32} (h : rl_R 8 be al gc gm) (hp : p < 16) (hx : gc 23 t p = -1) : rl_R 8 be al gc (am_up gm 32 0 (16 * t + p) v) := by
  obtain ⟨htk, hrg, hpg, hmp, hal, hdd, hsp, hsh, hfr, hhd, har, hpk, hs1, hs2⟩ := h
  have M : ∀ f, f ≠ 32 → (am_up gm 32 0 (16 * t + p) v) f = gm f := fun f hf => pu_uf hf
  refine ⟨?_, ?_, ?_, hmp, ?_, hdd, hsp, ?_, ?_, ?_, har, ?_, ?_, ?_⟩
  · unfold rl_tk; rw [M 25 (by decide), M 26 (by decide), M 27 (by decide)]; exact htk
  · unfold rl_rg; rw [M 28 (by decide), M 29 (by decide), M 30 (by decide)]; exact hrg
  · intro u p' hu hp'
    rw [M 31 (by decide)]
    obtain ⟨a, b, c⟩ := hpg u p' hu hp'
    refine ⟨a, b, fun s hs z => ?_⟩
    have hne : 16 * u + p' ≠ 16 * t + p := fun w => by
      have e1 : u = t := by omega
      have e2 : p' = p := by omega
      rw [e1, e2, hx] at z
      exact pu_m1 (by omega) z.symm
    rw [pu_uj hne]
    exact c s hs z
  · unfold rl_al; rw [M 37 (by decide)]; exact hal
  · unfold rl_sh; rw [M 33 (by decide), M 34 (by decide), M 35 (by decide), M 36 (by decide)]; exact hsh
  · unfold rl_fr; rw [M 38 (by decide), M 39 (by decide), M 40 (by decide)]; exact hfr
  · unfold rl_hd; rw [M 24 (by decide)]; exact hhd
  · unfold rl_pk; rw [M 33 (by decide), M 37 (by decide)]; exact hpk
  · unfold rl_s1; rw [M 41 (by decide), M 42 (by decide), M 43 (by decide), M 44 (by decide)]; exact hs1
  · unfold rl_s2; rw [M 41 (by decide)]; exact hs2
