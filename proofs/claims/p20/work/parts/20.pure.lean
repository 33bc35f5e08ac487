/-! pure rows: numbers, loops, counts -/
theorem pu_g (r : am_R) : am_g true r = r := rfl
theorem pu_in {j n : Nat} (h : j < n) (hn : n ≤ 2147483648) : am_in (nI j) n = true := by
  have hj : j < 2 ^ 31 := by omega
  unfold am_in
  rw [nI_clamp hj, decide_eq_true (nI_pos hj), decide_eq_true h]
  rfl
theorem pu_b0 : am_b 0 = true := by decide
theorem pu_b1 : am_b 1 = true := by decide
theorem pu_nvm : am_nv (-1) = true := by decide
theorem pu_nnm : am_nn (-1) = true := by decide
theorem pu_nz8 : am_nz 8 = true := by decide
theorem pu_nz10 : am_nz 10 = true := by decide
theorem pu_nz16 : am_nz 16 = true := by decide
theorem pu_nv {j : Nat} (h : j < 128) : am_nv (nI j) = true := by
  unfold am_nv
  rw [pu_in h (by omega), Bool.or_true]
theorem pu_nn {j : Nat} (h : j < 2147483648) : am_nn (nI j) = true := by
  unfold am_nn
  apply decide_eq_true
  rw [Int32.le_iff_toInt_le, nI_toInt (by omega), show (-1 : Int32).toInt = -1 from by decide]
  omega
theorem pu_m1 {j : Nat} (h : j < 2147483648) : ¬ nI j = -1 := by
  intro e
  have a := congrArg Int32.toInt e
  rw [nI_toInt (by omega), show (-1 : Int32).toInt = -1 from by decide] at a
  omega
theorem pu_neg : (-1 : Int32) < 0 := by decide
theorem pu_lt0 {j : Nat} (h : j < 2147483648) : ¬ nI j < 0 := nI_pos h
/-- comparisons with a literal: x is nI k by rfl -/
theorem pu_ge {x : Int32} {k j : Nat} (hx : x = nI k) (h : k ≤ j) (hj : j < 2147483648) : x ≤ nI j := by rw [hx]; exact nI_le h hj
theorem pu_nge {x : Int32} {k j : Nat} (hx : x = nI k) (h : j < k) (hk : k < 2147483648) : ¬ x ≤ nI j := by rw [hx]; exact nI_ge h hk
theorem pu_le {x : Int32} {k j : Nat} (hx : x = nI k) (h : j ≤ k) (hk : k < 2147483648) : nI j ≤ x := by rw [hx]; exact nI_le h hk
theorem pu_nle {x : Int32} {k j : Nat} (hx : x = nI k) (h : k < j) (hj : j < 2147483648) : ¬ nI j ≤ x := by rw [hx]; exact nI_ge h hj
theorem pu_lt {x : Int32} {k j : Nat} (hx : x = nI k) (h : j < k) (hk : k < 2147483648) : nI j < x := by rw [hx]; exact nI_lt h hk
theorem pu_nlt {x : Int32} {k j : Nat} (hx : x = nI k) (h : k ≤ j) (hj : j < 2147483648) : ¬ nI j < x := by rw [hx]; exact nI_nlt h hj
theorem pu_gt {x : Int32} {k j : Nat} (hx : x = nI k) (h : k < j) (hj : j < 2147483648) : x < nI j := by rw [hx]; exact nI_lt h hj
theorem pu_ngt {x : Int32} {k j : Nat} (hx : x = nI k) (h : j ≤ k) (hk : k < 2147483648) : ¬ x < nI j := by rw [hx]; exact nI_nlt h hk
theorem pu_eq {x : Int32} {k j : Nat} (hx : x = nI k) (h : j = k) : nI j = x := by rw [hx, h]
theorem pu_ne {x : Int32} {k j : Nat} (hx : x = nI k) (h : j ≠ k) (hj : j < 2147483648) (hk : k < 2147483648) : ¬ nI j = x := by rw [hx]; exact fun e => h ((nI_eq hj hk).mp e)
theorem pu_inj {a b : Nat} (ha : a < 2147483648) (hb : b < 2147483648) (h : nI a = nI b) : a = b := (nI_eq ha hb).mp h
theorem pu_16 (t p : Nat) : (16 : Int32) * nI t + nI p = nI (16 * t + p) := by rw [show (16 : Int32) = nI 16 from rfl, pk_mul, nI_add]
theorem pu_8 (t p : Nat) : (8 : Int32) * nI t + nI p = nI (8 * t + p) := by rw [show (8 : Int32) = nI 8 from rfl, pk_mul, nI_add]
theorem pu_4 (t p : Nat) : (4 : Int32) * nI t + nI p = nI (4 * t + p) := by rw [show (4 : Int32) = nI 4 from rfl, pk_mul, nI_add]
theorem pu_3 (t p : Nat) : (3 : Int32) * nI t + nI p = nI (3 * t + p) := by rw [show (3 : Int32) = nI 3 from rfl, pk_mul, nI_add]
/-- a loop that goes up -/
theorem pu_loop {X : Type} (N : Nat) (V : Nat → X → am_R) (P : Nat → X → Prop) (hs : ∀ j x, j < N → P j x → ∃ x', P (j + 1) x' ∧ V j x = V (j + 1) x') : ∀ (d i : Nat) (x : X), i + d = N → P i x → ∃ x', P N x' ∧ V i x = V N x' := by
  intro d
  induction d with
  | zero =>
    intro i x h hp
    have e : i = N := by omega
    subst e
    exact ⟨x, hp, rfl⟩
  | succ d ih =>
    intro i x h hp
    obtain ⟨x1, h1, e1⟩ := hs i x (by omega) hp
    obtain ⟨x2, h2, e2⟩ := ih (i + 1) x1 (by omega) h1
    exact ⟨x2, h2, e1.trans e2⟩
/-- a loop that goes up, and may end early -/
theorem pu_loopE {X : Type} (N : Nat) (V : Nat → X → am_R) (P : Nat → X → Prop) (Q : am_O × am_S → Prop) (hs : ∀ j x, j < N → P j x → (∃ x', P (j + 1) x' ∧ V j x = V (j + 1) x') ∨ ∃ r, Q r ∧ V j x = some r) : ∀ (d i : Nat) (x : X), i + d = N → P i x → (∃ x', P N x' ∧ V i x = V N x') ∨ ∃ r, Q r ∧ V i x = some r := by
  intro d
  induction d with
  | zero =>
    intro i x h hp
    have e : i = N := by omega
    subst e
    exact Or.inl ⟨x, hp, rfl⟩
  | succ d ih =>
    intro i x h hp
    rcases hs i x (by omega) hp with ⟨x1, h1, e1⟩ | ⟨r, h1, e1⟩
    · rcases ih (i + 1) x1 (by omega) h1 with ⟨x2, h2, e2⟩ | ⟨r, h2, e2⟩
      · exact Or.inl ⟨x2, h2, e1.trans e2⟩
      · exact Or.inr ⟨r, h2, e1.trans e2⟩
    · exact Or.inr ⟨r, h1, e1⟩
/-- two loops side by side -/
theorem pu_loop2 {X Y : Type} (N : Nat) (V : Nat → X → am_R) (U : Nat → Y → am_R) (P : Nat → X → Y → Prop) (hs : ∀ j x y, j < N → P j x y → ∃ x' y', P (j + 1) x' y' ∧ V j x = V (j + 1) x' ∧ U j y = U (j + 1) y') : ∀ (d i : Nat) (x : X) (y : Y), i + d = N → P i x y → ∃ x' y', P N x' y' ∧ V i x = V N x' ∧ U i y = U N y' := by
  intro d
  induction d with
  | zero =>
    intro i x y h hp
    have e : i = N := by omega
    subst e
    exact ⟨x, y, hp, rfl, rfl⟩
  | succ d ih =>
    intro i x y h hp
    obtain ⟨x1, y1, h1, e1, f1⟩ := hs i x y (by omega) hp
    obtain ⟨x2, y2, h2, e2, f2⟩ := ih (i + 1) x1 y1 (by omega) h1
    exact ⟨x2, y2, h2, e1.trans e2, f1.trans f2⟩
/-- counts -/
def pu_cn (f : Nat → Bool) : Nat → Nat
  | 0 => 0
  | n + 1 => pu_cn f n + (match f n with | true => 1 | false => 0)
theorem pu_cn_le (f : Nat → Bool) : ∀ n, pu_cn f n ≤ n := by
  intro n
  induction n with
  | zero => exact Nat.le_refl _
  | succ n ih => unfold pu_cn; cases f n <;> dsimp only <;> omega
theorem pu_cn_mono (f : Nat → Bool) (n : Nat) : pu_cn f n ≤ pu_cn f (n + 1) := by rw [show pu_cn f (n + 1) = pu_cn f n + (match f n with | true => 1 | false => 0) from rfl]; omega
theorem pu_cn_congr {f f' : Nat → Bool} : ∀ n, (∀ k, k < n → f k = f' k) → pu_cn f n = pu_cn f' n := by
  intro n
  induction n with
  | zero => intro _; rfl
  | succ n ih =>
    intro h
    unfold pu_cn
    rw [ih (fun k hk => h k (by omega)), h n (by omega)]
theorem pu_cn_up {f f' : Nat → Bool} {k : Nat} (h0 : f k = false) (h1 : f' k = true) (ho : ∀ j, j ≠ k → f' j = f j) : ∀ n, k < n → pu_cn f' n = pu_cn f n + 1 := by
  intro n
  induction n with
  | zero => intro h; omega
  | succ n ih =>
    intro h
    unfold pu_cn
    by_cases e : k = n
    · subst e
      rw [h0, h1, pu_cn_congr k (fun j hj => ho j (by omega))]; rfl
    · rw [ih (by omega), ho n (fun z => e z.symm)]
      omega
theorem pu_cn_0 {f : Nat → Bool} : ∀ n, pu_cn f n = 0 ↔ ∀ k, k < n → f k = false := by
  intro n
  induction n with
  | zero => exact ⟨fun _ k h => by omega, fun _ => rfl⟩
  | succ n ih =>
    unfold pu_cn
    cases hf : f n with
    | true =>
      dsimp only
      exact ⟨fun h => by omega, fun h => by rw [h n (by omega)] at hf; cases hf⟩
    | false =>
      dsimp only
      rw [Nat.add_zero, ih]
      exact ⟨fun h k hk => by
        by_cases e : k = n
        · rw [e]; exact hf
        · exact h k (by omega), fun h k hk => h k (by omega)⟩
theorem pu_cn_pos {f : Nat → Bool} {n : Nat} (h : 0 < pu_cn f n) : ∃ k, k < n ∧ f k = true := by
  have : ¬ ∀ k, k < n → f k = false := fun q => by rw [(pu_cn_0 n).mpr q] at h; omega
  by_cases hx : ∃ k, k < n ∧ f k = true
  · exact hx
  · exact absurd (fun k hk => by
      cases hf : f k with
      | false => rfl
      | true => exact absurd ⟨k, hk, hf⟩ hx) this
theorem pu_cn_lt {f : Nat → Bool} {k : Nat} : ∀ n, k < n → f k = false → pu_cn f n < n := by
  intro n
  induction n with
  | zero => intro h; omega
  | succ n ih =>
    intro h hf
    unfold pu_cn
    by_cases e : k = n
    · subst e
      rw [hf]
      have := pu_cn_le f k
      dsimp only
      omega
    · have := ih (by omega) hf
      cases f n <;> dsimp only <;> omega
theorem pu_cn_gt {f : Nat → Bool} {k n : Nat} (h : k < n) (hf : f k = true) : 0 < pu_cn f n := by
  rcases Nat.eq_zero_or_pos (pu_cn f n) with e | e
  · rw [(pu_cn_0 n).mp e k h] at hf; cases hf
  · exact e
/-- reading a store that was written -/
theorem pu_uf {g : am_S} {f i j f' : Nat} {v : Int32} (h : f' ≠ f) : am_up g f i j v f' = g f' := by
  funext i' j'
  unfold am_up
  rw [if_neg (fun q => h q.1)]
theorem pu_ui {g : am_S} {f i j i' : Nat} {v : Int32} (h : i' ≠ i) : am_up g f i j v f i' = g f i' := by
  funext j'
  unfold am_up
  rw [if_neg (fun q => h q.2.1)]
theorem pu_uj {g : am_S} {f i j f' i' j' : Nat} {v : Int32} (h : j' ≠ j) : am_up g f i j v f' i' j' = g f' i' j' := by
  unfold am_up
  rw [if_neg (fun q => h q.2.2)]
theorem pu_us {g : am_S} {f i j : Nat} {v : Int32} : am_up g f i j v f i j = v := am_up_at g f i j v
theorem pu_ub {g : am_S} {f i j i' j' : Nat} {v : Int32} : am_up g f i j v f i' j' = if i' = i ∧ j' = j then v else g f i' j' := by
  unfold am_up
  by_cases h : i' = i ∧ j' = j
  · rw [if_pos ⟨rfl, h⟩, if_pos h]
  · rw [if_neg (fun q => h q.2), if_neg h]
/-- writing a range -/
def pu_fi (g : am_S) (f i a b : Nat) (v : Nat → Int32) : am_S := fun f' i' j' => if f' = f ∧ i' = i ∧ a ≤ j' ∧ j' < b then v j' else g f' i' j'
theorem pu_fi_0 {g : am_S} {f i a : Nat} {v : Nat → Int32} : pu_fi g f i a a v = g := by
  funext f' i' j'
  unfold pu_fi
  rw [if_neg (by omega)]
theorem pu_fi_s {g : am_S} {f i a b : Nat} {v : Nat → Int32} (h : a ≤ b) : am_up (pu_fi g f i a b v) f i b (v b) = pu_fi g f i a (b + 1) v := by
  funext f' i' j'
  unfold am_up pu_fi
  by_cases h1 : f' = f ∧ i' = i
  · obtain ⟨rfl, rfl⟩ := h1
    by_cases h2 : j' = b
    · subst h2
      rw [if_pos ⟨rfl, rfl, rfl⟩, if_pos ⟨rfl, rfl, h, by omega⟩]
    · rw [if_neg (fun q => h2 q.2.2)]
      by_cases h3 : a ≤ j' ∧ j' < b
      · rw [if_pos ⟨rfl, rfl, h3⟩, if_pos ⟨rfl, rfl, h3.1, by omega⟩]
      · rw [if_neg (fun q => h3 q.2.2), if_neg (fun q => h3 ⟨q.2.2.1, by omega⟩)]
  · rw [if_neg (fun q => h1 ⟨q.1, q.2.1⟩), if_neg (fun q => h1 ⟨q.1, q.2.1⟩), if_neg (fun q => h1 ⟨q.1, q.2.1⟩)]
theorem pu_ff {g : am_S} {f i a b f' : Nat} {v : Nat → Int32} (h : f' ≠ f) : pu_fi g f i a b v f' = g f' := by
  funext i' j'
  unfold pu_fi
  rw [if_neg (fun q => h q.1)]
theorem pu_fii {g : am_S} {f i a b i' : Nat} {v : Nat → Int32} (h : i' ≠ i) : pu_fi g f i a b v f i' = g f i' := by
  funext j'
  unfold pu_fi
  rw [if_neg (fun q => h q.2.1)]
theorem pu_fin {g : am_S} {f i a b j : Nat} {v : Nat → Int32} (h : a ≤ j) (h2 : j < b) : pu_fi g f i a b v f i j = v j := by
  unfold pu_fi
  rw [if_pos ⟨rfl, rfl, h, h2⟩]
theorem pu_fout {g : am_S} {f i a b j : Nat} {v : Nat → Int32} (h : j < a ∨ b ≤ j) : pu_fi g f i a b v f i j = g f i j := by
  unfold pu_fi
  rw [if_neg (fun q => by omega)]
