/-! the relation between the class's store gc and the reference's gm: be takes a sheet's number in the class to that in the reference, al says which sheets of the class are in use; ex is a process that is just ending (8: none) -/
def rl_ok (x : Int32) : Prop := x = -1 ∨ ∃ s, s < 128 ∧ x = nI s
def rl_bi (be : Nat → Nat) (x : Int32) : Int32 := if x < 0 then -1 else nI (be x.toNatClampNeg)
theorem rl_bi_m {be : Nat → Nat} : rl_bi be (-1) = -1 := by unfold rl_bi; rw [if_pos pu_neg]
theorem rl_bi_s {be : Nat → Nat} {s : Nat} (h : s < 128) : rl_bi be (nI s) = nI (be s) := by unfold rl_bi; rw [if_neg (pu_lt0 (by omega)), nI_clamp (by omega)]
/-- how many pages have the sheet s -/
def rl_pc (gc : am_S) (s : Nat) : Nat := pu_cn (fun k => decide (gc 23 (k / 16) (k % 16) = nI s)) 128
def rl_tk (ex : Nat) (gc gm : am_S) : Prop := ∀ t, t < 8 → t ≠ ex → gm 25 0 t = gc 19 t 4 ∧ (gc 19 t 4 = 0 ∨ gc 19 t 4 = 1) ∧ (gc 19 t 5 = 0 ∨ gc 19 t 5 = 1) ∧ (gc 19 t 4 = 1 → gm 26 0 t = gc 19 t 5 ∧ gc 19 t 7 = 0) ∧ (gc 19 t 4 = 0 → gc 19 t 5 = 0 ∧ ∀ p, p < 16 → gc 23 t p = -1) ∧ gm 27 0 t = gc 19 t 7
def rl_rg (gc gm : am_S) : Prop := ∀ t, t < 8 → gm 28 0 t = gc 19 t 6 ∧ (∀ i, i < 4 → gm 29 0 (4 * t + i) = gc 20 t i) ∧ ∀ i, i < 3 → gm 30 0 (3 * t + i) = gc 21 t i
def rl_pg (be : Nat → Nat) (al : Nat → Bool) (gc gm : am_S) : Prop := ∀ t p, t < 8 → p < 16 → rl_ok (gc 23 t p) ∧ gm 31 0 (16 * t + p) = rl_bi be (gc 23 t p) ∧ ∀ s, s < 128 → gc 23 t p = nI s → al s = true ∧ gm 32 0 (16 * t + p) = gc 22 t p ∧ (gc 22 t p = 0 ∨ gc 22 t p = 1 ∨ gc 22 t p = 2)
def rl_mp (gc : am_S) : Prop := ∀ s, s < 128 → gc 5 s 1 = nI (rl_pc gc s)
def rl_al (be : Nat → Nat) (al : Nat → Bool) (gm : am_S) : Prop := (∀ s, s < 128 → al s = true → be s < 130 ∧ gm 37 0 (be s) = 1) ∧ (∀ s s', s < 128 → s' < 128 → al s = true → al s' = true → be s = be s' → s = s') ∧ ∀ q, q < 130 → gm 37 0 q = 0 ∨ ∃ s, s < 128 ∧ al s = true ∧ be s = q
def rl_dd (al : Nat → Bool) (gc : am_S) : Prop := ∀ s, s < 128 → al s = false → gc 5 s 2 = 0 ∧ gc 5 s 3 = -1 ∧ gc 5 s 4 = 0 ∧ gc 5 s 5 = -1 ∧ gc 5 s 6 = -1 ∧ ∀ k, k < 8 → gc 6 s k = 0
def rl_nd (al : Nat → Bool) : Nat := pu_cn (fun s => !al s) 128
def rl_sp (al : Nat → Bool) (gc : am_S) : Prop := gc 2 0 2 = nI (rl_nd al) ∧ (∀ i, i < rl_nd al → ∃ s, s < 128 ∧ gc 4 0 i = nI s ∧ al s = false) ∧ ∀ i j, i < rl_nd al → j < rl_nd al → gc 4 0 i = gc 4 0 j → i = j
/-- a sheet in use: where it is, its words, and what its place needs -/
def rl_sh (be : Nat → Nat) (al : Nat → Bool) (gc gm : am_S) : Prop := ∀ s, s < 128 → al s = true → gm 33 0 (be s) = gc 5 s 2 ∧ (∀ k, k < 8 → gm 36 0 (8 * be s + k) = gc 6 s k) ∧
  ((gc 5 s 2 = 0 ∧ gc 5 s 3 = -1 ∧ gc 5 s 5 = -1) ∨ (gc 5 s 2 = 1 ∧ ∃ f, f < 10 ∧ gc 5 s 3 = nI f ∧ gc 8 0 f = nI s ∧ (gc 10 0 f = 1 → gc 5 s 5 = -1)) ∨
   (gc 5 s 2 = 2 ∧ gc 5 s 5 = -1 ∧ ∃ a n, gc 5 s 3 = nI a ∧ gc 5 s 4 = nI n ∧ 1 ≤ n ∧ a + n ≤ 64 ∧ gm 34 0 (be s) = nI a ∧ gm 35 0 (be s) = nI n ∧ ∀ b, a ≤ b → b < a + n → gc 12 0 b = 1) ∨ (gc 5 s 2 = 3 ∧ ∃ k, k < 24 ∧ gc 5 s 5 = nI k))
def rl_fr (be : Nat → Nat) (al : Nat → Bool) (gc gm : am_S) : Prop := ∀ f, f < 10 → rl_ok (gc 8 0 f) ∧ gm 38 0 f = rl_bi be (gc 8 0 f) ∧ gm 39 0 f = gc 9 0 f ∧ gm 40 0 f = gc 10 0 f ∧ (gc 9 0 f = 0 ∨ gc 9 0 f = 1) ∧ (gc 10 0 f = 0 ∨ gc 10 0 f = 1) ∧ (gc 8 0 f = -1 → gc 9 0 f = 0 ∧ gc 10 0 f = 0) ∧ ∀ s, s < 128 → gc 8 0 f = nI s → al s = true ∧ gc 5 s 2 = 1 ∧ gc 5 s 3 = nI f
def rl_hd (gc gm : am_S) : Prop := ∃ h, h < 10 ∧ gc 7 0 3 = nI h ∧ gm 24 0 17 = nI h
/-- the byte b is one of the sheet s's -/
def rl_in (al : Nat → Bool) (gc : am_S) (s b : Nat) : Prop := al s = true ∧ gc 5 s 2 = 2 ∧ ∃ a n, a + n ≤ 64 ∧ gc 5 s 3 = nI a ∧ gc 5 s 4 = nI n ∧ a ≤ b ∧ b < a + n
def rl_ar (al : Nat → Bool) (gc : am_S) : Prop := (∀ b, b < 64 → gc 12 0 b = 0 ∨ (gc 12 0 b = 1 ∧ ∃ s, s < 128 ∧ rl_in al gc s b)) ∧ ∀ s s' b, s < 128 → s' < 128 → rl_in al gc s b → rl_in al gc s' b → s = s'
def rl_pk (gc gm : am_S) : Prop := gc 11 0 2 = nI (pu_cn (fun q => decide (gm 37 0 q = 1 ∧ gm 33 0 q = 2)) 130)
def rl_s1 (be : Nat → Nat) (al : Nat → Bool) (gc gm : am_S) : Prop := ∀ k, k < 24 → gm 43 0 k = gc 16 0 k ∧ (gc 16 0 k = 0 ∨ gc 16 0 k = 1) ∧ gm 44 0 k = gc 17 0 k ∧ (gc 17 0 k = 0 ∨ gc 17 0 k = 1) ∧
  ((gc 15 0 k = 0 ∧ gm 42 0 k = 0 ∧ gm 41 0 k = -1 ∧ gc 17 0 k = 0) ∨ (gc 15 0 k = 2 ∧ gm 42 0 k = 1 ∧ gm 41 0 k = -1 ∧ gc 17 0 k = 0) ∨ (gc 15 0 k = 1 ∧ gm 42 0 k = 0 ∧ ∃ s, s < 128 ∧ al s = true ∧ gm 41 0 k = nI (be s) ∧ (gc 5 s 5 = nI k ∨ gc 5 s 6 = nI k)))
def rl_s2 (be : Nat → Nat) (al : Nat → Bool) (gc gm : am_S) : Prop := ∀ s, s < 128 → al s = true → (gc 5 s 5 = -1 ∧ gc 5 s 6 = -1) ∨ ∃ k, k < 24 ∧ gc 5 s 5 = nI k ∧ gm 41 0 k = nI (be s) ∧ (gc 5 s 6 = -1 ∨ ∃ k', k < k' ∧ k' < 24 ∧ gc 5 s 6 = nI k' ∧ gm 41 0 k' = nI (be s))
def rl_R (ex : Nat) (be : Nat → Nat) (al : Nat → Bool) (gc gm : am_S) : Prop :=
  rl_tk ex gc gm ∧ rl_rg gc gm ∧ rl_pg be al gc gm ∧ rl_mp gc ∧ rl_al be al gm ∧ rl_dd al gc ∧ rl_sp al gc ∧ rl_sh be al gc gm ∧ rl_fr be al gc gm ∧ rl_hd gc gm ∧ rl_ar al gc ∧ rl_pk gc gm ∧ rl_s1 be al gc gm ∧ rl_s2 be al gc gm
/-- every sheet in use has a page -/
def rl_fu (al : Nat → Bool) (gc : am_S) : Prop := ∀ s, s < 128 → al s = true → 0 < rl_pc gc s
theorem rl_up_id {g : am_S} {f i j : Nat} {v : Int32} (h : g f i j = v) : am_up g f i j v = g := by
  funext f' i' j'
  unfold am_up
  by_cases q : f' = f ∧ i' = i ∧ j' = j
  · rw [if_pos q, q.1, q.2.1, q.2.2, h]
  · rw [if_neg q]
theorem rl_div {t p : Nat} (hp : p < 16) : (16 * t + p) / 16 = t ∧ (16 * t + p) % 16 = p := by omega
/-- pages that go to the sheet s, on both sides -/
theorem rl_pg_iff {be : Nat → Nat} {al : Nat → Bool} {gc gm : am_S} (hp : rl_pg be al gc gm) (ha : rl_al be al gm) {s k : Nat} (hs : s < 128) (hals : al s = true) (hk : k < 128) : gm 31 0 k = nI (be s) ↔ gc 23 (k / 16) (k % 16) = nI s := by
  obtain ⟨h1, h2, h3⟩ := hp (k / 16) (k % 16) (by omega) (by omega)
  have e : 16 * (k / 16) + k % 16 = k := by omega
  rw [e] at h2
  have hb := (ha.1 s hs hals).1
  rw [h2]
  rcases h1 with h1 | ⟨s', hs', h1⟩
  · rw [h1, rl_bi_m]
    exact ⟨fun z => absurd z.symm (pu_m1 (by omega)), fun z => absurd z.symm (pu_m1 (by omega))⟩
  · rw [h1, rl_bi_s hs']
    have hal' := (h3 s' hs' h1).1
    have hb' := (ha.1 s' hs' hal').1
    refine ⟨fun z => ?_, fun z => ?_⟩
    · rw [ha.2.1 s' s hs' hs hal' hals (pu_inj (by omega) (by omega) z)]
    · rw [pu_inj (by omega) (by omega) z]
theorem rl_mp_eq {be : Nat → Nat} {al : Nat → Bool} {gc gm : am_S} (hp : rl_pg be al gc gm) (ha : rl_al be al gm) {s : Nat} (hs : s < 128) (hals : al s = true) : lm_mp gm (nI (be s)) = rl_pc gc s := by
  unfold lm_mp rl_pc
  apply pu_cn_congr
  intro k hk
  have h := rl_pg_iff hp ha hs hals hk
  by_cases z : gc 23 (k / 16) (k % 16) = nI s
  · rw [decide_eq_true z, decide_eq_true (h.mpr z)]
  · rw [decide_eq_false z, decide_eq_false (fun w => z (h.mp w))]
theorem rl_pc_le (gc : am_S) (s : Nat) : rl_pc gc s ≤ 128 := pu_cn_le _ _
/-- a page is taken from s -/
theorem rl_pc_off {gc : am_S} {t p s : Nat} {v : Int32} (ht : t < 8) (hp : p < 16) (h : gc 23 t p = nI s) (hv : ¬ v = nI s) : rl_pc gc s = rl_pc (am_up gc 23 t p v) s + 1 := by
  unfold rl_pc
  obtain ⟨d1, d2⟩ := rl_div (t := t) hp
  refine pu_cn_up (k := 16 * t + p) ?_ ?_ (fun j hj => ?_) 128 (by omega)
  · rw [d1, d2, pu_us]; exact decide_eq_false hv
  · rw [d1, d2]; exact decide_eq_true h
  · have : ¬ (j / 16 = t ∧ j % 16 = p) := fun q => hj (by omega)
    rw [pu_ub, if_neg this]
theorem rl_pc_other {gc : am_S} {t p s : Nat} {v : Int32} (hp : p < 16) (h : ¬ gc 23 t p = nI s) (hv : ¬ v = nI s) : rl_pc (am_up gc 23 t p v) s = rl_pc gc s := by
  unfold rl_pc
  refine pu_cn_congr 128 (fun j hj => ?_)
  rw [pu_ub]
  by_cases q : j / 16 = t ∧ j % 16 = p
  · rw [if_pos q, q.1, q.2, decide_eq_false hv, decide_eq_false h]
  · rw [if_neg q]
theorem rl_pc_congr {gc gc' : am_S} (h : gc' 23 = gc 23) (s : Nat) : rl_pc gc' s = rl_pc gc s := by unfold rl_pc; rw [h]
