/-! the world behind the constructors is the first store's -/
def cf_W (o : Nat) (cy : Nat → ClassId) (w : Nat → va_E) (b6 b7 : va_E) : Nat → va_E := cw_up (cw_up (cw_up (cm_B o cy (cw_up (ct_W o cy (ck_B o cy (cw_up w 0 b6)) 8) 313 b7)) 320 (.inl (cy 0, 128, .inl (cm_f 128)))) 330 (.inl (cy 0, 24, .inl (cm_f 24)))) 334 (.inl (cy 4, 1, .inr (.inl (fun _ => 0))))
def cf_T (o : Nat) (cy : Nat → ClassId) (k : Nat) : va_E := am_ce o cy g0 (am_de k).1 (am_de k).2
theorem cf_low {o : Nat} {cy : Nat → ClassId} {w : Nat → va_E} {b6 b7 : va_E} {k : Nat} (h : k < 313) : cf_W o cy w b6 b7 k = ct_W o cy (ck_B o cy (cw_up w 0 b6)) 8 k := by
  unfold cf_W cm_B
  repeat rw [cw_up_ne (by omega)]
theorem cf_mid {o : Nat} {cy : Nat → ClassId} {w : Nat → va_E} {b6 : va_E} {k : Nat} (h1 : 5 ≤ k) (h2 : k < 261) : ∃ w', ct_W o cy (ck_B o cy (cw_up w 0 b6)) 8 k = cs_W o cy 2 3 w' 128 k := by
  unfold ct_W
  rw [if_neg (by omega), if_neg (by omega)]
  unfold ck_B
  repeat rw [cw_up_ne (by omega)]
  exact ⟨_, rfl⟩
theorem cf_tsk {o : Nat} {cy : Nat → ClassId} {b : Nat → va_E} {k : Nat} (h1 : 273 ≤ k) (h2 : k < 313) : ct_W o cy b 8 k = ct_cell o cy k := by
  unfold ct_W
  rw [if_neg (by omega), if_pos (by omega)]
theorem cf_eqv_i {c : ClassId} {n : Nat} {f f' : Nat → Int32} (h : ∀ j, j < n → f j = f' j) : cw_eqv (.inl (c, n, .inl f)) (.inl (c, n, .inl f')) := Or.inr (Or.inr ⟨c, n, f, f', rfl, rfl, h⟩)
theorem cf_eqv_r {c : ClassId} {n : Nat} {f f' : Nat → Option Nat} (h : ∀ j, j < n → f j = f' j) : cw_eqv (.inl (c, n, .inr (.inr (.inr (.inr f))))) (.inl (c, n, .inr (.inr (.inr (.inr f'))))) := Or.inr (Or.inl ⟨c, n, f, f', rfl, rfl, h⟩)
theorem am_rO_m {o f : Nat} : am_rO o f (-1) = none := by unfold am_rO; rw [if_pos pu_neg]
theorem am_rO_s {o f j : Nat} (h : j < 2147483648) : am_rO o f (nI j) = some (o + am_ad f j) := by unfold am_rO; rw [if_neg (pu_lt0 h), nI_clamp (by omega)]
theorem cf_upd : ∀ j, j < 10 → (upd (upd (upd (upd (upd (upd (upd (upd (upd (upd (fun _ => (0 : Int32)) 0 (-1)) 1 (-1)) 2 (-1)) 3 (-1)) 4 (-1)) 5 (-1)) 6 (-1)) 7 (-1)) 8 (-1)) 9 (-1)) j = -1 := by
  intro j hj
  have : ∀ x : Fin 10, (upd (upd (upd (upd (upd (upd (upd (upd (upd (upd (fun _ => (0 : Int32)) 0 (-1)) 1 (-1)) 2 (-1)) 3 (-1)) 4 (-1)) 5 (-1)) 6 (-1)) 7 (-1)) 8 (-1)) 9 (-1)) x.1 = -1 := by decide
  exact this ⟨j, hj⟩
set_option maxHeartbeats 4000000 in
set_option maxRecDepth 100000 in
theorem cf_all {o : Nat} {cy : Nat → ClassId} {w : Nat → va_E} {b6 b7 : va_E} : ∀ k, k < 335 → cw_eqv (cf_W o cy w b6 b7 k) (cf_T o cy k) := by
  intro k hk
  rcases Nat.lt_or_ge k 5 with h5 | h5
  · rcases (show k = 0 ∨ k = 1 ∨ k = 2 ∨ k = 3 ∨ k = 4 by omega) with rfl | rfl | rfl | rfl | rfl
    · exact Or.inl rfl
    · refine cf_eqv_r (c := cy 3) (n := 8) (f := ct_row o 8) (f' := fun j => some (o + am_ad 19 j)) (fun j hj => ?_)
      unfold ct_row
      rw [if_pos hj]
      unfold am_ad
      rw [if_neg (by decide), if_neg (by decide), if_neg (by decide), if_pos (by decide)]
    · exact Or.inl rfl
    · refine cf_eqv_r (c := cy 2) (n := 128) (f := cs_row o 3 128) (f' := fun j => some (o + am_ad 5 j)) (fun j hj => ?_)
      unfold cs_row
      rw [if_pos hj]
      unfold am_ad
      rw [if_neg (by decide), if_pos (by decide)]
    · refine cf_eqv_r (c := cy 2) (n := 128) (f := cs_row o 3 128) (f' := fun j => am_rO o 5 (nI j)) (fun j hj => ?_)
      unfold cs_row
      rw [if_pos hj, am_rO_s (by omega)]
      unfold am_ad
      rw [if_neg (by decide), if_pos (by decide)]
  rcases Nat.lt_or_ge k 261 with h6 | h6
  · rw [cf_low (by omega)]
    obtain ⟨w', e⟩ := cf_mid (o := o) (cy := cy) (w := w) (b6 := b6) h5 h6
    rw [e]
    unfold cs_W
    rw [if_neg (by omega), if_neg (by omega), if_neg (by omega), if_pos (by omega)]
    rcases Nat.mod_two_eq_zero_or_one (k - 5) with hp | hp
    · obtain ⟨i, hi, rfl⟩ : ∃ i, i < 128 ∧ k = 5 + 2 * i := ⟨(k - 5) / 2, by omega, by omega⟩
      rw [if_pos (by omega)]
      have hd : am_de (5 + 2 * i) = (5, i) := by
        unfold am_de
        rw [if_neg (by omega), if_pos (by omega), Prod.mk.injEq]
        constructor <;> omega
      unfold cf_T
      rw [hd]
      have ha : am_ad 6 i = 5 + 2 * i + 1 := by
        unfold am_ad
        rw [if_neg (by decide), if_pos (by decide)]
        omega
      refine Or.inl ?_
      unfold cs_sh
      rw [← ha]
      rfl
    · obtain ⟨i, hi, rfl⟩ : ∃ i, i < 128 ∧ k = 6 + 2 * i := ⟨(k - 6) / 2, by omega, by omega⟩
      rw [if_neg (by omega)]
      have hd : am_de (6 + 2 * i) = (6, i) := by
        unfold am_de
        rw [if_neg (by omega), if_pos (by omega), Prod.mk.injEq]
        constructor <;> omega
      unfold cf_T
      rw [hd]
      exact Or.inl rfl
  rcases Nat.lt_or_ge k 273 with h7 | h7
  · rcases (show k = 261 ∨ k = 262 ∨ k = 263 ∨ k = 264 ∨ k = 265 ∨ k = 266 ∨ k = 267 ∨ k = 268 ∨ k = 269 ∨ k = 270 ∨ k = 271 ∨ k = 272 by omega) with rfl | rfl | rfl | rfl | rfl | rfl | rfl | rfl | rfl | rfl | rfl | rfl
    · exact Or.inl rfl
    · exact cf_eqv_r (c := cy 2) (n := 10) (f := fun _ => none) (f' := fun j => am_rO o 5 (-1)) (fun j hj => am_rO_m.symm)
    · exact Or.inl rfl
    · exact Or.inl rfl
    · exact Or.inl rfl
    · exact Or.inl rfl
    · exact Or.inl rfl
    · exact Or.inl rfl
    · exact Or.inl rfl
    · exact Or.inl rfl
    · exact Or.inl rfl
    · exact Or.inl rfl
  rcases Nat.lt_or_ge k 313 with h8 | h8
  · rw [cf_low h8, cf_tsk h7 h8]
    obtain ⟨i, r, hi, hr, rfl⟩ : ∃ i r, i < 8 ∧ r < 5 ∧ k = 273 + 5 * i + r := ⟨(k - 273) / 5, (k - 273) % 5, by omega, by omega, by omega⟩
    have hd : am_de (273 + 5 * i + r) = (19 + r, i) := by
      unfold am_de
      rw [if_neg (by omega), if_neg (by omega), if_neg (by omega), if_pos (by omega), Prod.mk.injEq]
      constructor <;> omega
    unfold cf_T ct_cell
    rw [hd, show (273 + 5 * i + r - 273) % 5 = r by omega]
    have ha : ∀ q, q < 5 → am_ad (19 + q) i = 273 + 5 * i + q := fun q hq => by
      unfold am_ad
      rw [if_neg (by omega), if_neg (by omega), if_neg (by omega), if_pos (by omega)]
      omega
    rcases (show r = 0 ∨ r = 1 ∨ r = 2 ∨ r = 3 ∨ r = 4 by omega) with rfl | rfl | rfl | rfl | rfl
    · refine Or.inl ?_
      have e1 := ha 1 (by decide)
      have e2 := ha 2 (by decide)
      have e3 := ha 3 (by decide)
      have e4 := ha 4 (by decide)
      show (.inr (5, [.ref (o + (273 + 5 * i + 0 + 1)), .ref (o + (273 + 5 * i + 0 + 1 + 1)), .ref (o + (273 + 5 * i + 0 + 1 + 1 + 1)), .ref (o + (273 + 5 * i + 0 + 1 + 1 + 1 + 1)), .int 0, .int 0, .int 0, .int 0]) : va_E) = .inr (5, [.ref (o + am_ad (19 + 1) i), .ref (o + am_ad (19 + 2) i), .ref (o + am_ad (19 + 3) i), .ref (o + am_ad (19 + 4) i), .int 0, .int 0, .int 0, .int 0])
      rw [e1, e2, e3, e4]
    · exact Or.inl rfl
    · exact Or.inl rfl
    · exact Or.inl rfl
    · exact cf_eqv_r (c := cy 2) (n := 16) (f := fun _ => none) (f' := fun j => am_rO o 5 (-1)) (fun j hj => am_rO_m.symm)
  rcases (show k = 313 ∨ k = 314 ∨ k = 315 ∨ k = 316 ∨ k = 317 ∨ k = 318 ∨ k = 319 ∨ k = 320 ∨ k = 321 ∨ k = 322 ∨ k = 323 ∨ k = 324 ∨ k = 325 ∨ k = 326 ∨ k = 327 ∨ k = 328 ∨ k = 329 ∨ k = 330 ∨ k = 331 ∨ k = 332 ∨ k = 333 ∨ k = 334 by omega) with rfl | rfl | rfl | rfl | rfl | rfl | rfl | rfl | rfl | rfl | rfl | rfl | rfl | rfl | rfl | rfl | rfl | rfl | rfl | rfl | rfl | rfl
  · exact Or.inl rfl
  · exact Or.inl rfl
  · exact Or.inl rfl
  · exact Or.inl rfl
  · exact Or.inl rfl
  · exact Or.inl rfl
  · exact Or.inl rfl
  · exact cf_eqv_i (c := cy 0) (n := 128) (f := cm_f 128) (f' := fun j => -1) (fun j hj => by unfold cm_f; rw [if_pos hj])
  · exact Or.inl rfl
  · exact Or.inl rfl
  · exact Or.inl rfl
  · exact Or.inl rfl
  · exact Or.inl rfl
  · exact Or.inl rfl
  · exact cf_eqv_i (c := cy 0) (n := 10) (f' := fun j => -1) (fun j hj => cf_upd j hj)
  · exact Or.inl rfl
  · exact Or.inl rfl
  · exact cf_eqv_i (c := cy 0) (n := 24) (f := cm_f 24) (f' := fun j => -1) (fun j hj => by unfold cm_f; rw [if_pos hj])
  · exact Or.inl rfl
  · exact Or.inl rfl
  · exact Or.inl rfl
  · exact Or.inl rfl
