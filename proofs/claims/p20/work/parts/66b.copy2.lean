/-! the copy, given that what is brought in for it is marked alike -/
theorem pu_cn_two {f : Nat → Bool} {k0 : Nat} : ∀ n, 2 ≤ pu_cn f n → ∃ k, k < n ∧ k ≠ k0 ∧ f k = true := by
  have one : ∀ n, (∀ k, k < n → k ≠ k0 → f k = false) → pu_cn f n ≤ 1 ∧ (n ≤ k0 → pu_cn f n = 0) := by
    intro n
    induction n with
    | zero => intro _; exact ⟨Nat.zero_le _, fun _ => rfl⟩
    | succ n ih =>
      intro h
      obtain ⟨h1, h2⟩ := ih (fun k hk => h k (by omega))
      unfold pu_cn
      by_cases e : n = k0
      · have := h2 (by omega)
        cases hf : f n with
        | false => dsimp only; exact ⟨by omega, fun z => by omega⟩
        | true => dsimp only; exact ⟨by omega, fun z => by omega⟩
      · rw [h n (by omega) e]
        dsimp only
        exact ⟨by omega, fun z => h2 (by omega)⟩
  intro n hn
  by_cases c : ∃ k, k < n ∧ k ≠ k0 ∧ f k = true
  · exact c
  · have := (one n (fun k hk hne => by
      cases hf : f k with
      | false => rfl
      | true => exact absurd ⟨k, hk, hne, hf⟩ c)).1
    omega
theorem rl_spare_two {al : Nat → Bool} {gc : am_S} {t p s : Nat} (hfx : rl_fx 128 al gc) (hp : p < 16) (ht : t < 8) (hs : s < 128) (hx : gc 23 t p = nI s) (h2 : 2 ≤ rl_pc gc s) : 0 < rl_nd al := by
  refine rl_spare (gc := gc) (k0 := 16 * t + p) (by omega) (fun r hr ha => ?_)
  by_cases e : r = s
  · rw [e]
    obtain ⟨k, hk, hne, hd⟩ := pu_cn_two (k0 := 16 * t + p) 128 h2
    exact ⟨k, hk, hne, of_decide_eq_true hd⟩
  · obtain ⟨k, hk, hd⟩ := pu_cn_pos (hfx r hr ha (by omega))
    have hd := of_decide_eq_true hd
    refine ⟨k, hk, fun w => ?_, hd⟩
    rw [w, (rl_div hp).1, (rl_div hp).2, hx] at hd
    exact e (pu_inj (by omega) (by omega) hd).symm
/-- what is brought in from the pool or from slots for a copy -/
def sm_EX : Prop := ∀ (be : Nat → Nat) (al : Nat → Bool) (gc gm : am_S) (t p s : Nat) (A2 A3 : Int32), rl_R 8 be al gc gm → rl_fx 128 al gc → t < 8 → p < 16 → gc 19 t 4 = 1 → s < 128 → gc 23 t p = nI s → ¬ gc 5 s 2 = 1 → ¬ gc 5 s 2 = 0 →
    (∃ al' gc' gm', vX6_touch_74 (nI t) A2 A3 (nI s) (nI p) 1 gc = some (.inl (some (.inr (.inr (5, (-1))))), gc') ∧ vX7_bring (nI t) (nI (be s)) gm = some (.inl (some (.inl 2)), gm') ∧ rl_R 8 be al' gc' gm' ∧ rl_fx 128 al' gc' ∧ gc' 19 t 4 = 0) ∨
    ∃ al' gc' gm' f, f < 10 ∧ vX6_touch_74 (nI t) A2 A3 (nI s) (nI p) 1 gc = vX6_touch_112 (nI t) A2 A3 (nI s) (nI p) 1 (some (.inl (nI f))) gc' ∧ vX7_bring (nI t) (nI (be s)) gm = some (.inl (some (.inl 0)), gm') ∧ rl_R 8 be al' gc' gm' ∧ rl_fx 128 al' gc' ∧ al' s = true ∧ (gc' 5 s 2 = 1 ∧ gc' 5 s 3 = nI f ∧ gc' 8 0 f = nI s) ∧ gc' 19 t = gc 19 t ∧ gc' 20 = gc 20 ∧ gc' 22 = gc 22 ∧ gc' 23 t = gc 23 t ∧ ∀ r, r < 128 → al' r = true → al r = true
theorem sm_T_trans {t p : Nat} {gc gc1 : am_S} {c m : am_R} (h : sm_T t p gc1 c m) (e1 : gc1 19 t = gc 19 t) (e2 : gc1 20 = gc 20) : sm_T t p gc c m := by
  obtain ⟨be, al, g', m', R, F, h | h | ⟨s, hs, c1, m1, x1, x2, x3⟩⟩ := h
  · exact ⟨be, al, g', m', R, F, Or.inl h⟩
  · exact ⟨be, al, g', m', R, F, Or.inr (Or.inl h)⟩
  · exact ⟨be, al, g', m', R, F, Or.inr (Or.inr ⟨s, hs, c1, m1, x1, x2.trans e1, x3.trans e2⟩)⟩
theorem sm_CP_of (H : sm_EX) : sm_CP := by
  intro be al gc gm t p s A2 A3 B2 B3 B4 R F ht hp hl hs hx hk h2 hA hB
  obtain ⟨-, px, py⟩ := R.2.2.1 t p ht hp
  have ha : al s = true := (py s hs hx).1
  have hbs := (R.2.2.2.2.1.1 s hs ha).1
  obtain ⟨hwh, -, hpl⟩ := R.2.2.2.2.2.2.2.1 s hs ha
  have hnd : 0 < rl_nd al := rl_spare_two F hp ht hs hx h2
  rw [eX6_touch_50, pu_in hs (by omega), pu_g, pu_g, nI_clamp (show s < 2 ^ 31 by omega), if_neg (show ¬ (1 : Int32) = 0 by decide), hwh]
  by_cases c1 : gc 5 s 2 = 1
  · have bb : vX7_bring (nI t) (nI (be s)) gm = some (.inl (some (.inl 0)), gm) := by
      rw [eX7_bring, pu_in hbs (by omega), pu_g, pu_lv, nI_clamp (by omega), hwh, if_pos c1]
    rw [if_pos c1, if_neg (by rw [c1]; decide), bb, pu_bI]
    exact sm_cp R F ht hp hl hs hx (Or.inr c1) hnd hA hB
  · rw [if_neg c1]
    by_cases c0 : gc 5 s 2 = 0
    · rw [if_pos c0, if_pos c0]
      exact sm_cp R F ht hp hl hs hx (Or.inl c0) hnd hA hB
    · rw [if_neg c0, if_neg c0]
      rcases H be al gc gm t p s A2 A3 R F ht hp hl hs hx c1 c0 with ⟨al', gc', gm', c, m, R', F', d⟩ | ⟨al', g1, m1, f, hf, c, m, R', F', ha', ⟨y2, y3, y8⟩, k19, k20, k22, k23, sub⟩
      · rw [c, m, pu_bI, eX7_touch_90, if_neg (by decide)]
        exact ⟨be, al', gc', gm', R', F', Or.inr (Or.inl ⟨rfl, rfl, d⟩)⟩
      · rw [c, m, pu_bI]
        exact sm_T_trans (sm_cp R' F' ht hp (by rw [k19]; exact hl) hs (by rw [k23]; exact hx) (Or.inr y2) (Nat.lt_of_lt_of_le hnd (rl_nd_sub sub)) hA hB) k19 k20
