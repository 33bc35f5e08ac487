/-! the reference's side of a sheet that goes, and unmap on both sides -/
def rl_mv (g : am_S) (fo : Nat) : am_S := if fo < 10 then am_up (am_up (am_up g 38 0 fo (-1)) 39 0 fo 0) 40 0 fo 0 else g
def rl_mt (g : am_S) (q fo : Nat) : am_S := am_up (lm_fs (rl_mv (am_up g 37 0 q 0) fo) (nI q) 24) 33 0 q 0
theorem rl_mv_f {g : am_S} {fo f : Nat} (h1 : f ≠ 38) (h2 : f ≠ 39) (h3 : f ≠ 40) : rl_mv g fo f = g f := by
  unfold rl_mv
  split
  · rw [pu_uf h3, pu_uf h2, pu_uf h1]
  · rfl
theorem rl_fs_f {g : am_S} {x : Int32} {n f : Nat} (h1 : f ≠ 41) (h2 : f ≠ 44) : lm_fs g x n f = g f := by
  funext i j
  unfold lm_fs
  rw [if_neg (fun q => h1 q.1.1), if_neg (fun q => h2 q.1.1)]
theorem rl_mt_Fm {g : am_S} {q fo : Nat} (hfo : fo ≤ 10) : rl_Fm g (rl_mt g q fo) q fo := by
  have R : ∀ f, f ≠ 33 → f ≠ 41 → f ≠ 44 → f ≠ 38 → f ≠ 39 → f ≠ 40 → rl_mt g q fo f = am_up g 37 0 q 0 f := fun f a b c d e k => by
    unfold rl_mt
    rw [pu_uf a, rl_fs_f b c, rl_mv_f d e k]
  have R2 : ∀ f, f ≠ 33 → f ≠ 41 → f ≠ 44 → f ≠ 38 → f ≠ 39 → f ≠ 40 → f ≠ 37 → rl_mt g q fo f = g f := fun f a b c d e k z => by
    rw [R f a b c d e k, pu_uf z]
  have h41 : (rl_mv (am_up g 37 0 q 0) fo) 41 = g 41 := by rw [rl_mv_f (by decide) (by decide) (by decide), pu_uf (by decide)]
  have h44 : (rl_mv (am_up g 37 0 q 0) fo) 44 = g 44 := by rw [rl_mv_f (by decide) (by decide) (by decide), pu_uf (by decide)]
  refine ⟨⟨R2 24 ?_ ?_ ?_ ?_ ?_ ?_ ?_, R2 25 ?_ ?_ ?_ ?_ ?_ ?_ ?_, R2 26 ?_ ?_ ?_ ?_ ?_ ?_ ?_, R2 27 ?_ ?_ ?_ ?_ ?_ ?_ ?_, R2 28 ?_ ?_ ?_ ?_ ?_ ?_ ?_, R2 29 ?_ ?_ ?_ ?_ ?_ ?_ ?_, R2 30 ?_ ?_ ?_ ?_ ?_ ?_ ?_, R2 31 ?_ ?_ ?_ ?_ ?_ ?_ ?_, R2 32 ?_ ?_ ?_ ?_ ?_ ?_ ?_, R2 34 ?_ ?_ ?_ ?_ ?_ ?_ ?_, R2 35 ?_ ?_ ?_ ?_ ?_ ?_ ?_, R2 36 ?_ ?_ ?_ ?_ ?_ ?_ ?_, R2 42 ?_ ?_ ?_ ?_ ?_ ?_ ?_, R2 43 ?_ ?_ ?_ ?_ ?_ ?_ ?_⟩, ?_⟩
  all_goals try decide
  refine ⟨fun r hr => ⟨?_, ?_⟩, ?_, ?_, fun f hf => ?_, fun hf => ?_, fun k hk hx => ?_, fun k hk hx => ?_⟩
  · rw [R 37 (by decide) (by decide) (by decide) (by decide) (by decide) (by decide), pu_uj hr]
  · unfold rl_mt
    rw [pu_uj hr, rl_fs_f (by decide) (by decide), rl_mv_f (by decide) (by decide) (by decide), pu_uf (by decide)]
  · rw [R 37 (by decide) (by decide) (by decide) (by decide) (by decide) (by decide), pu_us]
  · unfold rl_mt
    rw [pu_us]
  · have e : ∀ c, c = 38 ∨ c = 39 ∨ c = 40 → rl_mt g q fo c 0 f = g c 0 f := fun c hc => by
      have q1 : c ≠ 33 := by omega
      have q2 : c ≠ 41 := by omega
      have q3 : c ≠ 44 := by omega
      have q4 : c ≠ 37 := by omega
      unfold rl_mt
      rw [pu_uf q1, rl_fs_f q2 q3]
      unfold rl_mv
      split
      · rw [pu_uj hf, pu_uj hf, pu_uj hf, pu_uf q4]
      · rw [pu_uf q4]
    exact ⟨e 38 (Or.inl rfl), e 39 (Or.inr (Or.inl rfl)), e 40 (Or.inr (Or.inr rfl))⟩
  · unfold rl_mt
    rw [pu_uf (by decide), pu_uf (by decide), pu_uf (by decide), rl_fs_f (by decide) (by decide), rl_fs_f (by decide) (by decide), rl_fs_f (by decide) (by decide)]
    unfold rl_mv
    rw [if_pos hf]
    refine ⟨?_, ?_, ?_⟩
    · rw [pu_uf (by decide), pu_uf (by decide), pu_us]
    · rw [pu_uf (by decide), pu_us]
    · rw [pu_us]
  · unfold rl_mt
    rw [pu_uf (by decide), pu_uf (by decide)]
    unfold lm_fs
    rw [h41]
    refine ⟨?_, ?_⟩
    · rw [if_pos ⟨⟨rfl, rfl, hk⟩, hx⟩]
    · rw [if_neg (fun z => by omega), if_pos ⟨⟨rfl, rfl, hk⟩, hx⟩]
  · unfold rl_mt
    rw [pu_uf (by decide), pu_uf (by decide)]
    unfold lm_fs
    rw [h41, h44]
    refine ⟨?_, ?_⟩
    · rw [if_neg (fun z => hx z.2), if_neg (fun z => hx z.2)]
    · rw [if_neg (fun z => hx z.2), if_neg (fun z => hx z.2)]
/-- the frame of a sheet in use, in the reference -/
theorem rl_fo_iff {be : Nat → Nat} {al : Nat → Bool} {gc gm : am_S} (hfr : rl_fr be al gc gm) (hal : rl_al be al gm) {s f : Nat} (hs : s < 128) (ha : al s = true) (hf : f < 10) : gm 38 0 f = nI (be s) ↔ gc 8 0 f = nI s := by
  obtain ⟨h1, h2, -, -, -, -, -, h3⟩ := hfr f hf
  have hb := (hal.1 s hs ha).1
  rw [h2]
  rcases h1 with h1 | ⟨r, hr, h1⟩
  · rw [h1, rl_bi_m]
    exact ⟨fun z => absurd z.symm (pu_m1 (by omega)), fun z => absurd z.symm (pu_m1 (by omega))⟩
  · rw [h1, rl_bi_s hr]
    have hal' := (h3 r hr h1).1
    have hb' := (hal.1 r hr hal').1
    refine ⟨fun z => ?_, fun z => ?_⟩
    · rw [hal.2.1 r s hr hs hal' ha (pu_inj (by omega) (by omega) z)]
    · rw [pu_inj (by omega) (by omega) z]
/-- frameOf: the sheet's frame -/
theorem rl_frameOf {be : Nat → Nat} {al : Nat → Bool} {gc gm gm' : am_S} (hfr : rl_fr be al gc gm) (hal : rl_al be al gm) {s f : Nat} (hs : s < 128) (ha : al s = true) (hf : f < 10) (h3 : gc 5 s 3 = nI f) (h8 : gc 8 0 f = nI s) (e : gm' 38 = gm 38) : vX7_frameOf (nI (be s)) gm' = some (.inl (some (.inl (nI f))), gm') := by
  refine lm_frameOf_at hf (by rw [e]; exact (rl_fo_iff hfr hal hs ha hf).mpr h8) (fun f' hf' z => ?_)
  rw [e] at z
  have h8' := (rl_fo_iff hfr hal hs ha hf').mp z
  have := ((hfr f' hf').2.2.2.2.2.2.2 s hs h8').2.2
  rw [h3] at this
  exact (pu_inj (by omega) (by omega) this).symm
theorem rl_frameOf_no {be : Nat → Nat} {al : Nat → Bool} {gc gm gm' : am_S} (hfr : rl_fr be al gc gm) (hal : rl_al be al gm) {s : Nat} (hs : s < 128) (ha : al s = true) (h2 : ¬ gc 5 s 2 = 1) (e : gm' 38 = gm 38) : vX7_frameOf (nI (be s)) gm' = some (.inl (some (.inl (-1))), gm') := by
  refine lm_frameOf_no (fun f hf z => ?_)
  rw [e] at z
  have h8' := (rl_fo_iff hfr hal hs ha hf).mp z
  exact h2 ((hfr f hf).2.2.2.2.2.2.2 s hs h8').2.1
/-- the reference's tail of unmap -/
theorem rl_m49 {g : am_S} {q fo : Nat} {a1 a3 : Int32} (hq : q < 130) : vX7_unmap_49 a1 (nI q) a3 (rl_mv (am_up g 37 0 q 0) fo) = some (.inl none, rl_mt g q fo) := by
  rw [eX7_unmap_49, lm_freeSlots, pu_bV, pu_in hq (by omega), pu_g, nI_clamp (by omega), pu_lt']
  rfl
/-- a page is taken off: the relation holds in between -/
theorem rl_off_R {ex : Nat} {be : Nat → Nat} {al : Nat → Bool} {gc gm : am_S} {t p s : Nat} (h : rl_R ex be al gc gm) (ht : t < 8) (hp : p < 16) (hs : s < 128) (hx : gc 23 t p = nI s) :
    rl_R ex be al (am_up (am_up gc 23 t p (-1)) 5 s 1 (gc 5 s 1 - 1)) (am_up gm 31 0 (16 * t + p) (-1)) ∧ (am_up (am_up gc 23 t p (-1)) 5 s 1 (gc 5 s 1 - 1)) 5 s 1 = nI (rl_pc (am_up gc 23 t p (-1)) s) := by
  obtain ⟨htk, hrg, hpg, hmp, hal, hdd, hsp, hsh, hfr, hhd, har, hpk, hs1, hs2⟩ := h
  have hm1 : ∀ r, r < 128 → ¬ (-1 : Int32) = nI r := fun r hr z => pu_m1 (by omega) z.symm
  have hcount := rl_pc_off (v := -1) ht hp hx (hm1 s hs)
  have hv : gc 5 s 1 - 1 = nI (rl_pc (am_up gc 23 t p (-1)) s) := by rw [hmp s hs, hcount, nI_pred]
  have e5 : ∀ r j, j ≠ 1 → (am_up (am_up gc 23 t p (-1)) 5 s 1 (gc 5 s 1 - 1)) 5 r j = gc 5 r j := fun r j hj => by rw [pu_uj hj, pu_uf (by decide)]
  have ef : ∀ f, f ≠ 5 → f ≠ 23 → (am_up (am_up gc 23 t p (-1)) 5 s 1 (gc 5 s 1 - 1)) f = gc f := fun f h1 h2 => by rw [pu_uf h1, pu_uf h2]
  have e23 : (am_up (am_up gc 23 t p (-1)) 5 s 1 (gc 5 s 1 - 1)) 23 = am_up gc 23 t p (-1) 23 := by rw [pu_uf (by decide)]
  have em : ∀ f, f ≠ 31 → (am_up gm 31 0 (16 * t + p) (-1)) f = gm f := fun f h1 => pu_uf h1
  refine ⟨⟨?_, ?_, ?_, ?_, ?_, ?_, ?_, ?_, ?_, ?_, ?_, ?_, ?_, ?_⟩, ?_⟩
  · intro u hu hne
    rw [ef 19 (by decide) (by decide), em 25 (by decide), em 26 (by decide), em 27 (by decide)]
    obtain ⟨a1, a2, a3, a4, a5, a6⟩ := htk u hu hne
    refine ⟨a1, a2, a3, a4, fun z => ⟨(a5 z).1, fun p' hp' => ?_⟩, a6⟩
    rw [e23, pu_ub]
    by_cases w : u = t ∧ p' = p
    · rw [if_pos w]
    · rw [if_neg w]; exact (a5 z).2 p' hp'
  · intro u hu
    rw [ef 19 (by decide) (by decide), ef 20 (by decide) (by decide), ef 21 (by decide) (by decide), em 28 (by decide), em 29 (by decide), em 30 (by decide)]
    exact hrg u hu
  · intro u p' hu hp'
    rw [ef 22 (by decide) (by decide), e23, em 32 (by decide), pu_ub, pu_ub]
    by_cases w : u = t ∧ p' = p
    · obtain ⟨rfl, rfl⟩ := w
      rw [if_pos ⟨rfl, rfl⟩, if_pos ⟨rfl, rfl⟩]
      exact ⟨Or.inl rfl, rl_bi_m.symm, fun r hr z => absurd z (hm1 r hr)⟩
    · rw [if_neg w, if_neg (fun z => w (by omega))]
      exact hpg u p' hu hp'
  · intro r hr
    rw [rl_pc_congr e23]
    by_cases e : r = s
    · subst e; rw [pu_us]; exact hv
    · rw [pu_ui e, pu_uf (by decide), hmp r hr, rl_pc_other hp (fun z => e (pu_inj (by omega) (by omega) (z.symm.trans hx))) (hm1 r hr)]
  · unfold rl_al
    rw [em 37 (by decide)]
    exact hal
  · intro r hr hr2
    rw [e5 r 2 (by decide), e5 r 3 (by decide), e5 r 4 (by decide), e5 r 5 (by decide), e5 r 6 (by decide), ef 6 (by decide) (by decide)]
    exact hdd r hr hr2
  · unfold rl_sp
    rw [ef 2 (by decide) (by decide), ef 4 (by decide) (by decide)]
    exact hsp
  · intro r hr hr2
    rw [e5 r 2 (by decide), e5 r 3 (by decide), e5 r 4 (by decide), e5 r 5 (by decide), ef 6 (by decide) (by decide), ef 8 (by decide) (by decide), ef 10 (by decide) (by decide), ef 12 (by decide) (by decide), em 33 (by decide), em 34 (by decide), em 35 (by decide), em 36 (by decide)]
    exact hsh r hr hr2
  · intro f hf
    rw [ef 8 (by decide) (by decide), ef 9 (by decide) (by decide), ef 10 (by decide) (by decide), em 38 (by decide), em 39 (by decide), em 40 (by decide)]
    obtain ⟨a1, a2, a3, a4, a5, a6, a7, a8⟩ := hfr f hf
    refine ⟨a1, a2, a3, a4, a5, a6, a7, fun r hr z => ?_⟩
    rw [e5 r 2 (by decide), e5 r 3 (by decide)]
    exact a8 r hr z
  · unfold rl_hd
    rw [ef 7 (by decide) (by decide), em 24 (by decide)]
    exact hhd
  · have hin : ∀ r b, rl_in al (am_up (am_up gc 23 t p (-1)) 5 s 1 (gc 5 s 1 - 1)) r b ↔ rl_in al gc r b := fun r b => by
      unfold rl_in
      rw [e5 r 2 (by decide), e5 r 3 (by decide), e5 r 4 (by decide)]
    refine ⟨fun b hb => ?_, fun r r' b hr hr' h1 h2 => har.2 r r' b hr hr' ((hin r b).mp h1) ((hin r' b).mp h2)⟩
    rw [ef 12 (by decide) (by decide)]
    rcases har.1 b hb with z | ⟨z, r, hr, h1⟩
    · exact Or.inl z
    · exact Or.inr ⟨z, r, hr, (hin r b).mpr h1⟩
  · unfold rl_pk
    rw [ef 11 (by decide) (by decide), em 37 (by decide), em 33 (by decide)]
    exact hpk
  · intro k hk
    rw [ef 15 (by decide) (by decide), ef 16 (by decide) (by decide), ef 17 (by decide) (by decide), em 41 (by decide), em 42 (by decide), em 43 (by decide), em 44 (by decide)]
    obtain ⟨a1, a2, a3, a4, a5⟩ := hs1 k hk
    refine ⟨a1, a2, a3, a4, ?_⟩
    rcases a5 with z | z | ⟨z1, z2, r, hr, z3, z4, z5⟩
    · exact Or.inl z
    · exact Or.inr (Or.inl z)
    · exact Or.inr (Or.inr ⟨z1, z2, r, hr, z3, z4, by rw [e5 r 5 (by decide), e5 r 6 (by decide)]; exact z5⟩)
  · intro r hr hr2
    rw [e5 r 5 (by decide), e5 r 6 (by decide), em 41 (by decide)]
    exact hs2 r hr hr2
  · rw [pu_us]; exact hv
