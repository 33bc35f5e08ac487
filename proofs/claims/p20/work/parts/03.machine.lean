/-! the abstract machine: a store of fixed cells, shallow instructions, runs -/
/-- an int, a long that comes of an int, a reference (family, instance; null below 0) -/
abbrev am_v : Type := Int32 ⊕ (Int32 ⊕ (Nat × Int32))
/-- the store: family, instance, slot -/
abbrev am_S : Type := Nat → Nat → Nat → Int32
abbrev am_F : Type := Nat × (List (Option am_v) × (List am_v × am_S))
abbrev am_O : Type := Option am_v ⊕ Nat
abbrev am_R : Type := Option (am_O × am_S)
abbrev am_I : Type := am_F → (am_F → am_R) → am_R
abbrev am_C : Type := List am_v → am_S → am_R
def am_up (g : am_S) (f i j : Nat) (v : Int32) : am_S := fun f' i' j' => if f' = f ∧ i' = i ∧ j' = j then v else g f' i' j'
/-- families: address of an instance, how many, and back -/
def am_ad (f i : Nat) : Nat := if f < 5 then f else if f < 7 then f + 2 * i else if f < 19 then f + 254 else if f < 24 then f + 254 + 5 * i else f + 289
def am_ct (f : Nat) : Nat := match f with
  | 5 => 128 | 6 => 128 | 19 => 8 | 20 => 8 | 21 => 8 | 22 => 8 | 23 => 8 | _ => 1
def am_de (k : Nat) : Nat × Nat := if k < 5 then (k, 0) else if k < 261 then (5 + (k - 5) % 2, (k - 5) / 2) else if k < 273 then (k - 254, 0) else if k < 313 then (19 + (k - 273) % 5, (k - 273) / 5) else (k - 289, 0)
theorem am_ct_le (f : Nat) : am_ct f ≤ 128 := by unfold am_ct; split <;> omega
theorem am_ct_19 {f : Nat} (h1 : 19 ≤ f) (h2 : f < 24) : am_ct f = 8 := by
  have : f = 19 ∨ f = 20 ∨ f = 21 ∨ f = 22 ∨ f = 23 := by omega
  rcases this with rfl | rfl | rfl | rfl | rfl <;> rfl
theorem am_ct_5 {f : Nat} (h1 : 5 ≤ f) (h2 : f < 7) : am_ct f = 128 := by
  have : f = 5 ∨ f = 6 := by omega
  rcases this with rfl | rfl <;> rfl
theorem am_ct_1 {f : Nat} (h : f < 5 ∨ (7 ≤ f ∧ f < 19) ∨ 24 ≤ f) : am_ct f = 1 := by
  unfold am_ct
  split <;> first | rfl | omega
theorem am_de_ad {f i : Nat} (hf : f < 46) (hi : i < am_ct f) : am_de (am_ad f i) = (f, i) ∧ am_ad f i < 335 := by
  by_cases h1 : f < 5
  · rw [am_ct_1 (Or.inl h1)] at hi
    have hi0 : i = 0 := by omega
    subst hi0
    unfold am_ad am_de
    rw [if_pos h1, if_pos h1]
    exact ⟨rfl, by omega⟩
  · by_cases h2 : f < 7
    · rw [am_ct_5 (by omega) h2] at hi
      unfold am_ad am_de
      rw [if_neg h1, if_pos h2, if_neg (by omega), if_pos (by omega)]
      refine ⟨?_, by omega⟩
      rw [Prod.mk.injEq]; constructor <;> omega
    · by_cases h3 : f < 19
      · rw [am_ct_1 (Or.inr (Or.inl ⟨by omega, h3⟩))] at hi
        have hi0 : i = 0 := by omega
        subst hi0
        unfold am_ad am_de
        rw [if_neg h1, if_neg h2, if_pos h3, if_neg (by omega), if_neg (by omega), if_pos (by omega)]
        exact ⟨by rw [Prod.mk.injEq]; exact ⟨by omega, rfl⟩, by omega⟩
      · by_cases h4 : f < 24
        · rw [am_ct_19 (by omega) h4] at hi
          unfold am_ad am_de
          rw [if_neg h1, if_neg h2, if_neg h3, if_pos h4, if_neg (by omega), if_neg (by omega), if_neg (by omega), if_pos (by omega)]
          refine ⟨?_, by omega⟩
          rw [Prod.mk.injEq]; constructor <;> omega
        · rw [am_ct_1 (Or.inr (Or.inr (by omega)))] at hi
          have hi0 : i = 0 := by omega
          subst hi0
          unfold am_ad am_de
          rw [if_neg h1, if_neg h2, if_neg h3, if_neg h4, if_neg (by omega), if_neg (by omega), if_neg (by omega), if_neg (by omega)]
          exact ⟨by rw [Prod.mk.injEq]; exact ⟨by omega, rfl⟩, by omega⟩
theorem am_ad_de {k : Nat} (h : k < 335) : am_ad (am_de k).1 (am_de k).2 = k ∧ (am_de k).1 < 46 ∧ (am_de k).2 < am_ct (am_de k).1 := by
  by_cases h1 : k < 5
  · have e : am_de k = (k, 0) := by unfold am_de; rw [if_pos h1]
    rw [e]
    refine ⟨by unfold am_ad; rw [if_pos h1], by omega, by rw [am_ct_1 (Or.inl h1)]; omega⟩
  · by_cases h2 : k < 261
    · have e : am_de k = (5 + (k - 5) % 2, (k - 5) / 2) := by unfold am_de; rw [if_neg h1, if_pos h2]
      rw [e]
      refine ⟨?_, by omega, ?_⟩
      · unfold am_ad
        dsimp only
        rw [if_neg (by omega), if_pos (by omega)]
        omega
      · dsimp only
        rw [am_ct_5 (by omega) (by omega)]
        omega
    · by_cases h3 : k < 273
      · have e : am_de k = (k - 254, 0) := by unfold am_de; rw [if_neg h1, if_neg h2, if_pos h3]
        rw [e]
        refine ⟨?_, by omega, ?_⟩
        · unfold am_ad
          dsimp only
          rw [if_neg (by omega), if_neg (by omega), if_pos (by omega)]
          omega
        · dsimp only
          rw [am_ct_1 (Or.inr (Or.inl ⟨by omega, by omega⟩))]
          omega
      · by_cases h4 : k < 313
        · have e : am_de k = (19 + (k - 273) % 5, (k - 273) / 5) := by unfold am_de; rw [if_neg h1, if_neg h2, if_neg h3, if_pos h4]
          rw [e]
          refine ⟨?_, by omega, ?_⟩
          · unfold am_ad
            dsimp only
            rw [if_neg (by omega), if_neg (by omega), if_neg (by omega), if_pos (by omega)]
            omega
          · dsimp only
            rw [am_ct_19 (by omega) (by omega)]
            omega
        · have e : am_de k = (k - 289, 0) := by unfold am_de; rw [if_neg h1, if_neg h2, if_neg h3, if_neg h4]
          rw [e]
          refine ⟨?_, by omega, ?_⟩
          · unfold am_ad
            dsimp only
            rw [if_neg (by omega), if_neg (by omega), if_neg (by omega), if_neg (by omega)]
            omega
          · dsimp only
            rw [am_ct_1 (Or.inr (Or.inr (by omega)))]
            omega
/-- what a family is: 0 an object, 1 int[], 2 boolean[], 3 Sheet[] that is written, 4 an array of references that never change, 6 long[] -/
def am_ak (f : Nat) : Nat := match f with
  | 0 => 0 | 1 => 4 | 2 => 0 | 3 => 4 | 4 => 3 | 5 => 0 | 6 => 1 | 7 => 0 | 8 => 3 | 9 => 2 | 10 => 2 | 11 => 0 | 12 => 2 | 13 => 1 | 14 => 0 | 15 => 1 | 16 => 2 | 17 => 2 | 18 => 1 | 19 => 0 | 20 => 1 | 21 => 1 | 22 => 1 | 23 => 3 | 24 => 0
  | 25 => 2 | 26 => 2 | 27 => 1 | 28 => 1 | 29 => 1 | 30 => 1 | 31 => 1 | 32 => 1 | 33 => 1 | 34 => 1 | 35 => 1 | 36 => 1 | 37 => 2 | 38 => 1 | 39 => 2 | 40 => 2 | 41 => 1 | 42 => 2 | 43 => 2 | 44 => 2 | 45 => 6 | _ => 7
/-- an array's length -/
def am_ln (f : Nat) : Nat := match f with
  | 1 => 8 | 3 => 128 | 4 => 128 | 6 => 8 | 8 => 10 | 9 => 10 | 10 => 10 | 12 => 64 | 13 => 64 | 15 => 24 | 16 => 24 | 17 => 24 | 18 => 24 | 20 => 4 | 21 => 3 | 22 => 16 | 23 => 16
  | 25 => 8 | 26 => 8 | 27 => 8 | 28 => 8 | 29 => 32 | 30 => 24 | 31 => 128 | 32 => 128 | 33 => 130 | 34 => 130 | 35 => 130 | 36 => 1040 | 37 => 130 | 38 => 10 | 39 => 10 | 40 => 10 | 41 => 24 | 42 => 24 | 43 => 24 | 44 => 24 | 45 => 1 | _ => 0
/-- the array's class, as a place in am_ty; the family that the references of a Sheet[] or Task[] lead to -/
def am_ay (f : Nat) : Nat := match f with
  | 1 => 3 | 3 => 2 | _ => match am_ak f with
    | 1 => 0 | 2 => 1 | 3 => 2 | 6 => 4 | _ => 2
def am_af (f : Nat) : Nat := match f with
  | 1 => 19 | _ => 5
/-- an object's class, as a place in vwCl, and how many fields -/
def am_cl (f : Nat) : Nat := match f with
  | 0 => 6 | 2 => 4 | 5 => 3 | 7 => 2 | 11 => 0 | 14 => 1 | 19 => 5 | 24 => 7 | _ => 99
def am_nf (f : Nat) : Nat := match f with
  | 0 => 5 | 2 => 3 | 5 => 8 | 7 => 4 | 11 => 3 | 14 => 4 | 19 => 8 | 24 => 22 | _ => 0
/-- a field: 0 an int or boolean, else 1 + the family that it leads to (same instance), for good -/
def am_sk (f j : Nat) : Nat := match f with
  | 0 => match j with | 0 => 2 | 1 => 3 | 2 => 8 | 3 => 12 | 4 => 15 | _ => 0
  | 2 => match j with | 0 => 4 | 1 => 5 | _ => 0
  | 5 => match j with | 0 => 7 | _ => 0
  | 7 => match j with | 0 => 9 | 1 => 10 | 2 => 11 | _ => 0
  | 11 => match j with | 0 => 13 | 1 => 14 | _ => 0
  | 14 => match j with | 0 => 16 | 1 => 17 | 2 => 18 | 3 => 19 | _ => 0
  | 19 => match j with | 0 => 21 | 1 => 22 | 2 => 23 | 3 => 24 | _ => 0
  | 24 => match j with | 0 => 0 | 1 => 26 | 2 => 27 | 3 => 28 | 4 => 29 | 5 => 30 | 6 => 31 | 7 => 32 | 8 => 33 | 9 => 34 | 10 => 35 | 11 => 36 | 12 => 37 | 13 => 38 | 14 => 39 | 15 => 40 | 16 => 41 | 17 => 0 | 18 => 42 | 19 => 43 | 20 => 44 | 21 => 45 | _ => 0
  | _ => 0
def am_rO (o f : Nat) (x : Int32) : Option Nat := if x < 0 then none else some (o + am_ad f x.toNatClampNeg)
/-- a reference's place: families of one instance don't look at it -/
def am_ix (f : Nat) (x : Int32) : Nat := match Nat.beq (am_ct f) 1 with
  | true => 0
  | false => x.toNatClampNeg
def am_rf (o f : Nat) (x : Int32) : Option Nat := match Nat.beq (am_ct f) 1 with
  | true => some (o + am_ad f 0)
  | false => am_rO o f x
def am_cv (o : Nat) (v : am_v) : Value := match v with
  | .inl x => .int x
  | .inr (.inl x) => .long x.toInt64
  | .inr (.inr q) => va_rf (am_rf o q.1 q.2)
def am_sv (o : Nat) (g : am_S) (f i j : Nat) : Value := match am_sk f j with
  | 0 => .int (g f i j)
  | n + 1 => .ref (o + am_ad n i)
def am_row (o : Nat) (g : am_S) (f i : Nat) : (Nat → Int32) ⊕ (Nat → Int64) ⊕ (Nat → UInt32) ⊕ (Nat → UInt64) ⊕ (Nat → Option Nat) := match am_ak f with
  | 3 => .inr (.inr (.inr (.inr (fun j => am_rO o 5 (g f i j)))))
  | 4 => .inr (.inr (.inr (.inr (fun j => some (o + am_ad (am_af f) j)))))
  | 6 => .inr (.inl (fun j => (g f i j).toInt64))
  | _ => .inl (fun j => g f i j)
def am_ce (o : Nat) (cy : Nat → ClassId) (g : am_S) (f i : Nat) : va_E := match am_ak f with
  | 0 => .inr (am_cl f, (List.range (am_nf f)).map (am_sv o g f i))
  | _ => .inl (cy (am_ay f), am_ln f, am_row o g f i)
def am_wl (o : Nat) (cy : Nat → ClassId) (g : am_S) : va_W := (List.range 335).map (fun k => (o + k, am_ce o cy g (am_de k).1 (am_de k).2))
theorem am_wl_at {o : Nat} {cy : Nat → ClassId} {g : am_S} {k : Nat} (h : k < 335) : (am_wl o cy g)[k]? = some (o + k, am_ce o cy g (am_de k).1 (am_de k).2) := by
  simp [am_wl, h]
theorem am_wl_get {o : Nat} {cy : Nat → ClassId} {g : am_S} {f i : Nat} (hf : f < 46) (hi : i < am_ct f) : (am_wl o cy g)[am_ad f i]? = some (o + am_ad f i, am_ce o cy g f i) := by
  obtain ⟨h1, h2⟩ := am_de_ad hf hi
  rw [am_wl_at h2, h1]
theorem am_wl_lt {o : Nat} {cy : Nat → ClassId} {g : am_S} {k : Nat} {q : Nat × va_E} (h : (am_wl o cy g)[k]? = some q) : k < 335 ∧ q.1 = o + k := by
  have hk : k < 335 := by
    have := (List.getElem?_eq_some_iff.mp h).1
    simpa [am_wl] using this
  rw [am_wl_at hk] at h
  cases h
  exact ⟨hk, rfl⟩
def am_A (o : Nat) : Nat → Prop := fun q => o ≤ q
theorem am_wl_D (o : Nat) (cy : Nat → ClassId) (g : am_S) : va_D (am_A o) (am_wl o cy g) := by
  refine ⟨fun i j p q hp hq he => ?_, fun k q h => ?_⟩
  · have a := am_wl_lt hp
    have b := am_wl_lt hq
    omega
  · have a := am_wl_lt h
    show o ≤ q.1
    omega
theorem am_wl_set {o : Nat} {cy : Nat → ClassId} {g g' : am_S} {f i : Nat} (hf : f < 46) (hi : i < am_ct f) {e : va_E} (he : e = am_ce o cy g' f i) (ho : ∀ f' i', ¬ (f' = f ∧ i' = i) → am_ce o cy g' f' i' = am_ce o cy g f' i') :
    (am_wl o cy g).set (am_ad f i) (o + am_ad f i, e) = am_wl o cy g' := by
  obtain ⟨h1, h2⟩ := am_de_ad hf hi
  apply List.ext_getElem?
  intro k
  by_cases hk : k = am_ad f i
  · subst hk
    rw [List.getElem?_set_self (by simpa [am_wl] using h2), am_wl_at h2, h1, he]
  · rw [List.getElem?_set_ne (Ne.symm hk)]
    by_cases h3 : k < 335
    · rw [am_wl_at h3, am_wl_at h3, ho]
      rintro ⟨e1, e2⟩
      exact hk (by rw [← (am_ad_de h3).1, e1, e2])
    · simp [am_wl, h3]
theorem am_ce_off {o : Nat} {cy : Nat → ClassId} {g : am_S} {f i j : Nat} {v : Int32} {f' i' : Nat} (h : ¬ (f' = f ∧ i' = i)) : am_ce o cy (am_up g f i j v) f' i' = am_ce o cy g f' i' := by
  have e : ∀ j', am_up g f i j v f' i' j' = g f' i' j' := fun j' => by
    unfold am_up
    rw [if_neg (fun q => h ⟨q.1, q.2.1⟩)]
  have e1 : am_sv o (am_up g f i j v) f' i' = am_sv o g f' i' := by
    funext j'
    unfold am_sv
    rw [e]
  have e2 : am_row o (am_up g f i j v) f' i' = am_row o g f' i' := by
    unfold am_row
    simp only [e]
  unfold am_ce
  rw [e1, e2]
theorem am_up_at (g : am_S) (f i j : Nat) (v : Int32) : am_up g f i j v f i j = v := by simp [am_up]
theorem am_up_j {g : am_S} {f i j j' : Nat} {v : Int32} (h : j' ≠ j) : am_up g f i j v f i j' = g f i j' := by simp [am_up, h]
/-- guards -/
def am_g (b : Bool) (r : am_R) : am_R := match b with
  | true => r
  | false => none
def am_in (x : Int32) (n : Nat) : Bool := decide (¬ x < 0) && decide (x.toNatClampNeg < n)
def am_gr (f : Nat) (x : Int32) (r : am_R) : am_R := match Nat.beq (am_ct f) 1 with
  | true => r
  | false => am_g (am_in x (am_ct f)) r
theorem am_g_some {b : Bool} {r : am_R} {z : am_O × am_S} (h : am_g b r = some z) : b = true ∧ r = some z := by
  cases b
  · cases h
  · exact ⟨rfl, h⟩
theorem am_in_iff {x : Int32} {n : Nat} : am_in x n = true ↔ vp_in x n := by
  unfold am_in vp_in
  simp only [Bool.and_eq_true, decide_eq_true_eq]
  exact ⟨fun h q => q.elim h.1 (fun z => Nat.not_lt.mpr z h.2), fun h => ⟨fun q => h (Or.inl q), Nat.not_le.mp (fun q => h (Or.inr q))⟩⟩
theorem am_gr_some {o f : Nat} {x : Int32} {r : am_R} {z : am_O × am_S} (h : am_gr f x r = some z) : r = some z ∧ am_ix f x < am_ct f ∧ am_rf o f x = some (o + am_ad f (am_ix f x)) := by
  unfold am_gr at h
  unfold am_ix am_rf
  cases hb : Nat.beq (am_ct f) 1 with
  | true =>
    rw [hb] at h
    exact ⟨h, by have := Nat.eq_of_beq_eq_true hb; simp only [this]; omega, rfl⟩
  | false =>
    rw [hb] at h
    obtain ⟨h1, h2⟩ := am_g_some h
    have h3 := am_in_iff.mp h1
    unfold vp_in at h3
    have h4 : ¬ x < 0 := fun q => h3 (Or.inl q)
    exact ⟨h2, Nat.not_le.mp (fun q => h3 (Or.inr q)), by unfold am_rO; rw [if_neg h4]⟩
/-- lookups and runs -/
def am_lk (pc : Nat) : List (Nat × am_I) → Option am_I
  | [] => none
  | q :: r => match Nat.beq pc q.1 with
    | true => some q.2
    | false => am_lk pc r
def am_run (T : List (Nat × am_I)) : Nat → am_F → am_R
  | 0, _ => none
  | n + 1, fr => match am_lk fr.1 T with
    | some f => f fr (am_run T n)
    | none => none
/-- for one state an instruction either ends, or goes on once -/
def am_lin (f : am_I) : Prop := ∀ fr, (∃ r, ∀ k, f fr k = r) ∨ (∃ fr', ∀ k, f fr k = k fr')
def am_linT (T : List (Nat × am_I)) : Prop := ∀ q ∈ T, am_lin q.2
theorem am_lk_mem {pc : Nat} {T : List (Nat × am_I)} {f : am_I} (h : am_lk pc T = some f) : (pc, f) ∈ T := by
  induction T with
  | nil => cases h
  | cons q r ih =>
    unfold am_lk at h
    cases hb : Nat.beq pc q.1 with
    | true =>
      rw [hb] at h
      have e := Nat.eq_of_beq_eq_true hb
      cases h
      subst e
      exact List.mem_cons_self
    | false =>
      rw [hb] at h
      exact List.mem_cons_of_mem _ (ih h)
theorem am_mono {T : List (Nat × am_I)} (hT : am_linT T) : ∀ (n : Nat) (fr : am_F) (r : am_O × am_S), am_run T n fr = some r → am_run T (n + 1) fr = some r := by
  intro n
  induction n with
  | zero => intro fr r h; cases h
  | succ n ih =>
    intro fr r h
    unfold am_run at h ⊢
    cases hf : am_lk fr.1 T with
    | none => rw [hf] at h; cases h
    | some f =>
      rw [hf] at h
      dsimp only at h ⊢
      have hl : am_lin f := hT _ (am_lk_mem hf)
      rcases hl fr with ⟨z, hz⟩ | ⟨fr', hz⟩
      · rw [hz] at h ⊢; exact h
      · rw [hz] at h ⊢; exact ih fr' r h
theorem am_mono' {T : List (Nat × am_I)} (hT : am_linT T) {n m : Nat} (hnm : n ≤ m) {fr : am_F} {r : am_O × am_S} (h : am_run T n fr = some r) : am_run T m fr = some r := by
  obtain ⟨d, rfl⟩ := Nat.le.dest hnm
  induction d with
  | zero => exact h
  | succ d ih => exact am_mono hT _ _ _ (ih (Nat.le_add_right _ _))
/-- the run without a bound -/
noncomputable def am_E (T : List (Nat × am_I)) (fr : am_F) : am_R := by
  classical
  exact if h : ∃ n, (am_run T n fr).isSome = true then am_run T (Classical.choose h) fr else none
theorem am_E_run {T : List (Nat × am_I)} {fr : am_F} {r : am_O × am_S} (h : am_E T fr = some r) : ∃ n, am_run T n fr = some r := by
  unfold am_E at h
  split at h
  · exact ⟨_, h⟩
  · cases h
theorem am_run_E {T : List (Nat × am_I)} (hT : am_linT T) {n : Nat} {fr : am_F} {r : am_O × am_S} (h : am_run T n fr = some r) : am_E T fr = some r := by
  unfold am_E
  have hx : ∃ n, (am_run T n fr).isSome = true := ⟨n, by rw [h]; rfl⟩
  rw [dif_pos hx]
  obtain ⟨r', hr'⟩ := Option.isSome_iff_exists.mp (Classical.choose_spec hx)
  have a := am_mono' hT (Nat.le_max_left n (Classical.choose hx)) h
  have b := am_mono' hT (Nat.le_max_right n (Classical.choose hx)) hr'
  rw [hr', ← b, a]
theorem am_E_step {T : List (Nat × am_I)} (hT : am_linT T) {fr : am_F} {f : am_I} (hf : am_lk fr.1 T = some f) : am_E T fr = f fr (am_E T) := by
  have hl : am_lin f := hT _ (am_lk_mem hf)
  rcases hl fr with ⟨z, hz⟩ | ⟨fr', hz⟩
  · rw [hz]
    cases hzz : z with
    | none =>
      cases he : am_E T fr with
      | none => rfl
      | some r =>
        obtain ⟨n, hn⟩ := am_E_run he
        cases n with
        | zero => cases hn
        | succ n =>
          unfold am_run at hn
          rw [hf] at hn
          dsimp only at hn
          rw [hz, hzz] at hn
          cases hn
    | some r =>
      exact am_run_E hT (n := 1) (by unfold am_run; rw [hf]; dsimp only; rw [hz, hzz])
  · rw [hz]
    cases he : am_E T fr' with
    | none =>
      cases he2 : am_E T fr with
      | none => rfl
      | some r =>
        obtain ⟨n, hn⟩ := am_E_run he2
        cases n with
        | zero => cases hn
        | succ n =>
          unfold am_run at hn
          rw [hf] at hn
          dsimp only at hn
          rw [hz] at hn
          rw [am_run_E hT hn] at he
          cases he
    | some r =>
      obtain ⟨n, hn⟩ := am_E_run he
      exact am_run_E hT (n := n + 1) (by unfold am_run; rw [hf]; dsimp only; rw [hz]; exact hn)
/-- so many steps, but not through a head -/
def am_hd (pc : Nat) : List Nat → Bool
  | [] => false
  | q :: r => match Nat.beq pc q with
    | true => true
    | false => am_hd pc r
def am_blk (T : List (Nat × am_I)) (hs : List Nat) (k : am_F → am_R) : Nat → am_F → am_R
  | 0, fr => k fr
  | n + 1, fr => match am_lk fr.1 T with
    | some f => f fr (fun fr' => match am_hd fr'.1 hs with
      | true => k fr'
      | false => am_blk T hs k n fr')
    | none => none
theorem am_E_blk {T : List (Nat × am_I)} (hT : am_linT T) (hs : List Nat) : ∀ (n : Nat) (fr : am_F), am_E T fr = am_blk T hs (am_E T) n fr := by
  intro n
  induction n with
  | zero => intro fr; rfl
  | succ n ih =>
    intro fr
    unfold am_blk
    cases hf : am_lk fr.1 T with
    | none =>
      cases he : am_E T fr with
      | none => rfl
      | some r =>
        obtain ⟨n, hn⟩ := am_E_run he
        cases n with
        | zero => cases hn
        | succ n =>
          unfold am_run at hn
          rw [hf] at hn
          cases hn
    | some f =>
      dsimp only
      rw [am_E_step hT hf]
      congr 1
      funext fr'
      cases am_hd fr'.1 hs with
      | true => rfl
      | false => exact ih fr'
