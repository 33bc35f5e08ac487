/-! the end of a process -/
/-- what the end of t does to the class -/
def sm_E (al al' : Nat → Bool) (gc gc' : am_S) (t : Nat) (why : Int32) : Prop :=
  sm_K al al' gc gc' ∧ gc' 19 t 4 = 0 ∧ gc' 19 t 5 = 0 ∧ gc' 19 t 7 = why ∧ gc' 19 t 6 = gc 19 t 6 ∧ (∀ u, u ≠ t → gc' 19 u = gc 19 u ∧ gc' 23 u = gc 23 u) ∧ gc' 20 = gc 20 ∧ gc' 21 = gc 21 ∧ gc' 22 = gc 22 ∧ (∀ p, p < 16 → gc' 23 t p = -1) ∧
  ∀ s u p, s < 128 → u < 8 → p < 16 → u ≠ t → gc 23 u p = nI s → al' s = true
/-- the relation does not look at ex's own task -/
theorem rl_ex_R {be : Nat → Nat} {al : Nat → Bool} {gc gm gc' gm' : am_S} {ex t : Nat} (h : rl_R ex be al gc gm) (hc : ∀ f, f ≠ 19 → gc' f = gc f) (hm : ∀ f, f ≠ 25 → f ≠ 26 → f ≠ 27 → gm' f = gm f) (h6 : ∀ u, u < 8 → gc' 19 u 6 = gc 19 u 6) (htk : rl_tk t gc' gm') : rl_R t be al gc' gm' := by
  obtain ⟨-, hrg, hpg, hmp, hal, hdd, hsp, hsh, hfr, hhd, har, hpk, hs1, hs2⟩ := h
  refine ⟨htk, fun u hu => ?_, ?_, ?_, ?_, ?_, ?_, ?_, ?_, ?_, ?_, ?_, ?_, ?_⟩
  · rw [h6 u hu, hc 20 (by decide), hc 21 (by decide), hm 28 (by decide) (by decide) (by decide), hm 29 (by decide) (by decide) (by decide), hm 30 (by decide) (by decide) (by decide)]
    exact hrg u hu
  · unfold rl_pg
    rw [hc 22 (by decide), hc 23 (by decide), hm 31 (by decide) (by decide) (by decide), hm 32 (by decide) (by decide) (by decide)]
    exact hpg
  · intro s hs
    rw [rl_pc_congr (hc 23 (by decide)), hc 5 (by decide)]
    exact hmp s hs
  · unfold rl_al
    rw [hm 37 (by decide) (by decide) (by decide)]
    exact hal
  · unfold rl_dd
    rw [hc 5 (by decide), hc 6 (by decide)]
    exact hdd
  · unfold rl_sp
    rw [hc 2 (by decide), hc 4 (by decide)]
    exact hsp
  · unfold rl_sh
    rw [hc 5 (by decide), hc 6 (by decide), hc 8 (by decide), hc 10 (by decide), hc 12 (by decide), hm 33 (by decide) (by decide) (by decide), hm 34 (by decide) (by decide) (by decide), hm 35 (by decide) (by decide) (by decide), hm 36 (by decide) (by decide) (by decide)]
    exact hsh
  · unfold rl_fr
    rw [hc 5 (by decide), hc 8 (by decide), hc 9 (by decide), hc 10 (by decide), hm 38 (by decide) (by decide) (by decide), hm 39 (by decide) (by decide) (by decide), hm 40 (by decide) (by decide) (by decide)]
    exact hfr
  · unfold rl_hd
    rw [hc 7 (by decide), hm 24 (by decide) (by decide) (by decide)]
    exact hhd
  · unfold rl_ar rl_in
    rw [hc 5 (by decide), hc 12 (by decide)]
    exact har
  · unfold rl_pk
    rw [hc 11 (by decide), hm 33 (by decide) (by decide) (by decide), hm 37 (by decide) (by decide) (by decide)]
    exact hpk
  · unfold rl_s1
    rw [hc 5 (by decide), hc 15 (by decide), hc 16 (by decide), hc 17 (by decide), hm 41 (by decide) (by decide) (by decide), hm 42 (by decide) (by decide) (by decide), hm 43 (by decide) (by decide) (by decide), hm 44 (by decide) (by decide) (by decide)]
    exact hs1
  · unfold rl_s2
    rw [hc 5 (by decide), hm 41 (by decide) (by decide) (by decide)]
    exact hs2
theorem sm_endTask {be : Nat → Nat} {al : Nat → Bool} {gc gm : am_S} {t : Nat} {why : Int32} (h : rl_R 8 be al gc gm) (hfx : rl_fx 128 al gc) (ht : t < 8) :
    ∃ al' gc' gm', vX6_endTask (nI t) why gc = some (.inl none, gc') ∧ vX7_end (nI t) why gm = some (.inl none, gm') ∧ rl_R 8 be al' gc' gm' ∧ rl_fx 128 al' gc' ∧ sm_E al al' gc gc' t why := by
  have e0 : ∀ f, f ≠ 19 → (am_up (am_up (am_up gc 19 t 4 0) 19 t 5 0) 19 t 7 why) f = gc f := fun f hf => by rw [pu_uf hf, pu_uf hf, pu_uf hf]
  have e19 : ∀ u, u ≠ t → (am_up (am_up (am_up gc 19 t 4 0) 19 t 5 0) 19 t 7 why) 19 u = gc 19 u := fun u hu => by rw [pu_ui hu, pu_ui hu, pu_ui hu]
  have e194 : (am_up (am_up (am_up gc 19 t 4 0) 19 t 5 0) 19 t 7 why) 19 t 4 = 0 := by rw [pu_uj (by decide), pu_uj (by decide), pu_us]
  have e195 : (am_up (am_up (am_up gc 19 t 4 0) 19 t 5 0) 19 t 7 why) 19 t 5 = 0 := by rw [pu_uj (by decide), pu_us]
  have e197 : (am_up (am_up (am_up gc 19 t 4 0) 19 t 5 0) 19 t 7 why) 19 t 7 = why := pu_us
  have e196 : (am_up (am_up (am_up gc 19 t 4 0) 19 t 5 0) 19 t 7 why) 19 t 6 = gc 19 t 6 := by rw [pu_uj (by decide), pu_uj (by decide), pu_uj (by decide)]
  have hst : vX6_endTask (nI t) why gc = vX6_endTask_17 (nI t) why 0 (am_up (am_up (am_up gc 19 t 4 0) 19 t 5 0) 19 t 7 why) := by
    rw [eX6_endTask, pu_in ht (by omega), pu_g, pu_b0, pu_g, pu_lt', pu_g, pu_g, pu_lt', pu_g, pu_lt', nI_clamp (by omega)]
  generalize (am_up (am_up (am_up gc 19 t 4 0) 19 t 5 0) 19 t 7 why) = g0 at e0 e19 e194 e195 e196 e197 hst
  have R0 : rl_R t be al g0 gm := by
    refine rl_ex_R h e0 (fun f _ _ _ => rfl) (fun u hu => ?_) (fun u hu hne => ?_)
    · by_cases e : u = t
      · subst e; exact e196
      · rw [e19 u e]
    · rw [e19 u hne, e0 23 (by decide)]
      exact h.1 u hu (by omega)
  have F0 : rl_fx 128 al g0 := fun s hs ha hx => by rw [rl_pc_congr (e0 23 (by decide))]; exact hfx s hs ha hx
  obtain ⟨x, y, hP, eV, eU⟩ := pu_loop2 16 (fun j (x : (Nat → Bool) × am_S) => vX6_endTask_17 (nI t) why (nI j) x.2) (fun j (y : am_S) => vX7_end_2 (nI t) why (nI j) y)
    (fun j x y => rl_R t be x.1 x.2 y ∧ rl_fx 128 x.1 x.2 ∧ sm_K al x.1 gc x.2 ∧ (x.2 19 = g0 19 ∧ x.2 20 = gc 20 ∧ x.2 21 = gc 21 ∧ x.2 22 = gc 22) ∧ (∀ u, u ≠ t → x.2 23 u = gc 23 u) ∧ (∀ p, p < j → x.2 23 t p = -1) ∧ (y 25 = gm 25 ∧ y 26 = gm 26 ∧ y 27 = gm 27))
    (fun j x y hj hp => by
      obtain ⟨r1, r2, r3, ⟨r4, r5, r6, r7⟩, r8, r9, r10, r11, r12⟩ := hp
      obtain ⟨al', gc', gm', c, m, s1, s2, s3, ⟨s4, s5, s6, s7, s8⟩, ⟨s9, s10, s11⟩, s12⟩ := sm_unmap r1 r2 ht hj (fun z => by omega)
      refine ⟨(al', gc'), gm', ⟨s1, s2, sm_K_trans r3 s3, ⟨s4.trans r4, s5.trans r5, s6.trans r6, s7.trans r7⟩, fun u hu => ?_, fun p hp => ?_, s9.trans r10, s10.trans r11, s11.trans r12⟩, ?_, ?_⟩
      · show gc' 23 u = gc 23 u
        rw [s8, pu_ui hu]; exact r8 u hu
      · show gc' 23 t p = -1
        rw [s8, pu_ub]
        by_cases e : p = j
        · rw [if_pos ⟨rfl, e⟩]
        · rw [if_neg (fun z => e z.2)]; exact r9 p (by omega)
      · show vX6_endTask_17 (nI t) why (nI j) x.2 = vX6_endTask_17 (nI t) why (nI (j + 1)) gc'
        rw [eX6_endTask_17, if_neg (pu_nge (x := 16) (k := 16) rfl hj (by omega)), c, pu_bV, nI_1]
      · rw [eX7_end_2, if_neg (pu_nge (x := 16) (k := 16) rfl hj (by omega)), pu_16, m, pu_bV, nI_1]) 16 0 (al, g0) gm rfl ⟨R0, F0, fun s hs ha => ⟨ha, congrFun (e0 6 (by decide)) s, fun j _ => congrFun (congrFun (e0 5 (by decide)) s) j⟩, ⟨rfl, e0 20 (by decide), e0 21 (by decide), e0 22 (by decide)⟩, fun u _ => congrFun (e0 23 (by decide)) u, fun p hp => by omega, rfl, rfl, rfl⟩
  obtain ⟨r1, r2, r3, ⟨r4, r5, r6, r7⟩, r8, r9, r10, r11, r12⟩ := hP
  have C : vX6_endTask (nI t) why gc = some (.inl none, x.2) := by
    rw [hst]
    refine Eq.trans (show vX6_endTask_17 (nI t) why 0 g0 = vX6_endTask_17 (nI t) why (nI 16) x.2 from eV) ?_
    rw [eX6_endTask_17, if_pos (show (16 : Int32) ≤ nI 16 from by decide)]
  have M : vX7_end (nI t) why gm = some (.inl none, am_up (am_up y 25 0 t 0) 27 0 t why) := by
    rw [eX7_end]
    refine Eq.trans (show vX7_end_2 (nI t) why 0 gm = vX7_end_2 (nI t) why (nI 16) y from eU) ?_
    rw [eX7_end_2, if_pos (show (16 : Int32) ≤ nI 16 from by decide), pu_in ht (by omega), pu_g, pu_b0, pu_g, nI_clamp (by omega), pu_lt', pu_g, pu_lt']
  have live : ∀ s, s < 128 → x.1 s = false → ∀ u p, u < 8 → p < 16 → ¬ x.2 23 u p = nI s := fun s hs hf u p hu hp z => by
    rw [(r1.2.2.1 u p hu hp).2.2 s hs z |>.1] at hf
    cases hf
  refine ⟨x.1, x.2, _, C, M, ?_, r2, r3, by rw [r4]; exact e194, by rw [r4]; exact e195, by rw [r4]; exact e197, by rw [r4]; exact e196, fun u hu => ⟨by rw [r4]; exact e19 u hu, r8 u hu⟩, r5, r6, r7, fun p hp => r9 p hp, fun s u p hs hu hp hne z => ?_⟩
  · refine rl_ex_R r1 (fun f _ => rfl) (fun f h1 h2 h3 => by rw [pu_uf h3, pu_uf h1]) (fun u _ => rfl) (fun u hu _ => ?_)
    rw [pu_uf (show 25 ≠ 27 by decide), pu_uf (show 26 ≠ 27 by decide), pu_uf (show 26 ≠ 25 by decide), r11]
    by_cases e : u = t
    · subst e
      rw [pu_us, pu_us, r4, e194, e195, e197]
      exact ⟨rfl, Or.inl rfl, Or.inl rfl, fun z => absurd z (by decide), fun _ => ⟨rfl, r9⟩, rfl⟩
    · rw [pu_uj e, pu_uj e, pu_uf (by decide), r10, r12, r4, e19 u e, r8 u e]
      exact h.1 u hu (by omega)
  · cases hx : x.1 s with
    | true => rfl
    | false => exact absurd (by rw [r8 u hne]; exact z) (live s hs hx u p hu hp)
