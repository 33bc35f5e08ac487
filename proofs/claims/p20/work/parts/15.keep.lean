/-! what a run leaves as it was: P the families that its references may have, K the slots that stay -/
def kp_w (P : Nat → Bool) : am_v → Bool
  | .inr (.inr q) => P q.1
  | _ => true
def kp_wl (P : Nat → Bool) (L : List (Option am_v)) : Prop := ∀ v, some v ∈ L → kp_w P v = true
def kp_ws (P : Nat → Bool) (st : List am_v) : Prop := ∀ v, v ∈ st → kp_w P v = true
def kp_eq (K : Nat → Nat → Nat → Prop) (g g' : am_S) : Prop := ∀ f i j, K f i j → g' f i j = g f i j
def kp_I (P : Nat → Bool) (K : Nat → Nat → Nat → Prop) (f : am_I) : Prop := ∀ (fr : am_F) (k : am_F → am_R) (g0 : am_S) (r : am_O × am_S), kp_wl P fr.2.1 → kp_ws P fr.2.2.1 → kp_eq K g0 fr.2.2.2 → (∀ fr' : am_F, k fr' = some r → kp_wl P fr'.2.1 → kp_ws P fr'.2.2.1 → kp_eq K g0 fr'.2.2.2 → kp_eq K g0 r.2) → f fr k = some r → kp_eq K g0 r.2
def kp_C (P : Nat → Bool) (K : Nat → Nat → Nat → Prop) (F : am_C) : Prop := ∀ as g r, kp_ws P as → F as g = some r → kp_eq K g r.2
def kp_T (P : Nat → Bool) (K : Nat → Nat → Nat → Prop) (T : List (Nat × am_I)) : Prop := ∀ q ∈ T, kp_I P K q.2
theorem kp_C_mono {P : Nat → Bool} {K K' : Nat → Nat → Nat → Prop} {F : am_C} (h : kp_C P K F) (hk : ∀ f i j, K' f i j → K f i j) : kp_C P K' F := fun as g r hw hf f i j hx => h as g r hw hf f i j (hk f i j hx)
section
variable {P : Nat → Bool} {K : Nat → Nat → Nat → Prop}
theorem kp_run {T : List (Nat × am_I)} (hT : kp_T P K T) {g0 : am_S} {r : am_O × am_S} : ∀ (n : Nat) (fr : am_F), kp_wl P fr.2.1 → kp_ws P fr.2.2.1 → kp_eq K g0 fr.2.2.2 → am_run T n fr = some r → kp_eq K g0 r.2 := by
  intro n
  induction n with
  | zero => intro fr _ _ _ h; cases h
  | succ n ih =>
    intro fr hl hs he h
    unfold am_run at h
    cases hf : am_lk fr.1 T with
    | none => rw [hf] at h; cases h
    | some f =>
      rw [hf] at h
      exact hT _ (am_lk_mem hf) fr _ g0 r hl hs he (fun fr' d a b c => ih fr' a b c d) h
theorem kp_g {b : Bool} {r : am_R} {x : am_O × am_S} (h : am_g b r = some x) : r = some x := by
  cases b with
  | true => exact h
  | false => cases h
theorem kp_gb {b : Bool} {r : am_R} {x : am_O × am_S} (h : am_g b r = some x) : b = true := by
  cases b with
  | true => rfl
  | false => cases h
theorem kp_gr {f : Nat} {y : Int32} {r : am_R} {x : am_O × am_S} (h : am_gr f y r = some x) : r = some x := by
  unfold am_gr at h
  cases hb : Nat.beq (am_ct f) 1 with
  | true => rw [hb] at h; exact h
  | false => rw [hb] at h; exact kp_g h
theorem kp_t {x : am_v} {r : List am_v} (h : kp_ws P (x :: r)) : kp_ws P r := fun v hv => h v (List.mem_cons_of_mem x hv)
theorem kp_h {x : am_v} {r : List am_v} (h : kp_ws P (x :: r)) : kp_w P x = true := h x List.mem_cons_self
theorem kp_c {x : am_v} {r : List am_v} (hx : kp_w P x = true) (h : kp_ws P r) : kp_ws P (x :: r) := fun v hv => by
  rcases List.mem_cons.mp hv with rfl | z
  · exact hx
  · exact h v z
theorem kp_get {L : List (Option am_v)} {i : Nat} {v : am_v} (h : kp_wl P L) (e : L[i]? = some (some v)) : kp_w P v = true := h v (List.mem_of_getElem? e)
theorem kp_set {L : List (Option am_v)} {i : Nat} {v : am_v} (h : kp_wl P L) (hv : kp_w P v = true) : kp_wl P (L.set i (some v)) := fun w hw => by
  rcases List.mem_or_eq_of_mem_set hw with z | z
  · exact h w z
  · cases z; exact hv
theorem kp_up {g0 g : am_S} {f i j : Nat} {v : Int32} (h : kp_eq K g0 g) (hn : ¬ K f i j) : kp_eq K g0 (am_up g f i j v) := fun a b c hk => by
  unfold am_up
  by_cases e : a = f ∧ b = i ∧ c = j
  · obtain ⟨rfl, rfl, rfl⟩ := e; exact absurd hk hn
  · rw [if_neg e]; exact h a b c hk
theorem kp_M {T : List (Nat × am_I)} (hT : kp_T P K T) (nL : Nat) : kp_C P K (am_M T nL) := fun as g r hw h => by
  unfold am_M at h
  obtain ⟨n, hn⟩ := am_E_run (kp_g h)
  refine kp_run hT n _ (fun v hv => ?_) (fun v hv => by cases hv) (fun f i j _ => rfl) hn
  rcases List.mem_append.mp hv with z | z
  · obtain ⟨w, hw2, e⟩ := List.mem_map.mp z
    injection e with e
    rw [← e]; exact hw w hw2
  · have := List.eq_of_mem_replicate z
    cases this
theorem kp_dt {n : Nat} {st : List am_v} (h : kp_ws P st) : kp_ws P (st.drop n) := fun v hv => h v (List.mem_of_mem_drop hv)
theorem kp_tk {n : Nat} {st : List am_v} (h : kp_ws P st) : kp_ws P (st.take n).reverse := fun v hv => h v (List.mem_of_mem_take (List.mem_reverse.mp hv))
theorem kp_il (i n : Nat) : kp_I P K (im_il i n) := fun fr k g0 r hl hs he hk h => by
  unfold im_il at h
  split at h
  · exact hk _ h hl (kp_c rfl hs) he
  · cases h
theorem kp_al (i n : Nat) : kp_I P K (im_al i n) := fun fr k g0 r hl hs he hk h => by
  unfold im_al at h
  split at h
  · rename_i q e
    exact hk _ h hl (kp_c (kp_get hl e) hs) he
  · cases h
theorem kp_is (i n : Nat) : kp_I P K (im_is i n) := fun fr k g0 r hl hs he hk h => by
  unfold im_is at h
  split at h
  · rename_i e
    rw [e] at hs
    split at h
    · exact hk _ h (kp_set hl rfl) (kp_t hs) he
    · cases h
  · cases h
theorem kp_as (i n : Nat) : kp_I P K (im_as i n) := fun fr k g0 r hl hs he hk h => by
  unfold im_as at h
  split at h
  · rename_i e
    rw [e] at hs
    split at h
    · exact hk _ h (kp_set hl (kp_h hs)) (kp_t hs) he
    · cases h
  · cases h
theorem kp_ic (v : Int32) (n : Nat) : kp_I P K (im_ic v n) := fun fr k g0 r hl hs he hk h => hk _ h hl (kp_c rfl hs) he
theorem kp_nl (h5 : P 5 = true) : kp_I P K im_nl := fun fr k g0 r hl hs he hk h => hk _ h hl (kp_c h5 hs) he
theorem kp_in (i : Nat) (d : Int32) : kp_I P K (im_in i d) := fun fr k g0 r hl hs he hk h => by
  unfold im_in at h
  split at h
  · exact hk _ h (kp_set hl rfl) hs he
  · cases h
theorem kp_go (t : Nat) : kp_I P K (im_go t) := fun fr k g0 r hl hs he hk h => hk _ h hl hs he
theorem kp_du : kp_I P K im_du := fun fr k g0 r hl hs he hk h => by
  unfold im_du at h
  split at h
  · rename_i e
    rw [e] at hs
    exact hk _ h hl (kp_c rfl hs) he
  · rename_i e
    rw [e] at hs
    exact hk _ h hl (kp_c (kp_h hs) hs) he
  · cases h
theorem kp_d2 : kp_I P K im_d2 := fun fr k g0 r hl hs he hk h => by
  unfold im_d2 at h
  split at h
  · rename_i e
    rw [e] at hs
    exact hk _ h hl (kp_c rfl (kp_c (kp_h (kp_t hs)) hs)) he
  · cases h
theorem kp_i2s : kp_I P K (im_i2s) := fun fr k g0 r hl hs he hk h => by
  unfold im_i2s at h
  split at h
  · rename_i e
    rw [e] at hs
    exact hk _ h hl (kp_c rfl (kp_t hs)) he
  · cases h
theorem kp_i2l : kp_I P K (im_i2l) := fun fr k g0 r hl hs he hk h => by
  unfold im_i2l at h
  split at h
  · rename_i e
    rw [e] at hs
    exact hk _ h hl (kp_c rfl (kp_t hs)) he
  · cases h
theorem kp_add : kp_I P K (im_add) := fun fr k g0 r hl hs he hk h => by
  unfold im_add at h
  split at h
  · rename_i e
    rw [e] at hs
    exact hk _ h hl (kp_c rfl (kp_t (kp_t hs))) he
  · cases h
theorem kp_sub : kp_I P K (im_sub) := fun fr k g0 r hl hs he hk h => by
  unfold im_sub at h
  split at h
  · rename_i e
    rw [e] at hs
    exact hk _ h hl (kp_c rfl (kp_t (kp_t hs))) he
  · cases h
theorem kp_mul : kp_I P K (im_mul) := fun fr k g0 r hl hs he hk h => by
  unfold im_mul at h
  split at h
  · rename_i e
    rw [e] at hs
    exact hk _ h hl (kp_c rfl (kp_t (kp_t hs))) he
  · cases h
theorem kp_and : kp_I P K (im_and) := fun fr k g0 r hl hs he hk h => by
  unfold im_and at h
  split at h
  · rename_i e
    rw [e] at hs
    exact hk _ h hl (kp_c rfl (kp_t (kp_t hs))) he
  · cases h
theorem kp_shr : kp_I P K (im_shr) := fun fr k g0 r hl hs he hk h => by
  unfold im_shr at h
  split at h
  · rename_i e
    rw [e] at hs
    exact hk _ h hl (kp_c rfl (kp_t (kp_t hs))) he
  · cases h
theorem kp_ush : kp_I P K (im_ush) := fun fr k g0 r hl hs he hk h => by
  unfold im_ush at h
  split at h
  · rename_i e
    rw [e] at hs
    exact hk _ h hl (kp_c rfl (kp_t (kp_t hs))) he
  · cases h
theorem kp_div : kp_I P K (im_div) := fun fr k g0 r hl hs he hk h => by
  unfold im_div at h
  split at h
  · rename_i e
    rw [e] at hs
    exact hk _ (kp_g h) hl (kp_c rfl (kp_t (kp_t hs))) he
  · cases h
theorem kp_rem : kp_I P K (im_rem) := fun fr k g0 r hl hs he hk h => by
  unfold im_rem at h
  split at h
  · rename_i e
    rw [e] at hs
    exact hk _ (kp_g h) hl (kp_c rfl (kp_t (kp_t hs))) he
  · cases h
theorem kp_feq (t : Nat) : kp_I P K (im_feq t) := fun fr k g0 r hl hs he hk h => by
  unfold im_feq at h
  split at h
  · rename_i e
    rw [e] at hs
    split at h
    · exact hk _ h hl (kp_t hs) he
    · exact hk _ h hl (kp_t hs) he
  · cases h
theorem kp_fne (t : Nat) : kp_I P K (im_fne t) := fun fr k g0 r hl hs he hk h => by
  unfold im_fne at h
  split at h
  · rename_i e
    rw [e] at hs
    split at h
    · exact hk _ h hl (kp_t hs) he
    · exact hk _ h hl (kp_t hs) he
  · cases h
theorem kp_flt (t : Nat) : kp_I P K (im_flt t) := fun fr k g0 r hl hs he hk h => by
  unfold im_flt at h
  split at h
  · rename_i e
    rw [e] at hs
    split at h
    · exact hk _ h hl (kp_t hs) he
    · exact hk _ h hl (kp_t hs) he
  · cases h
theorem kp_fge (t : Nat) : kp_I P K (im_fge t) := fun fr k g0 r hl hs he hk h => by
  unfold im_fge at h
  split at h
  · rename_i e
    rw [e] at hs
    split at h
    · exact hk _ h hl (kp_t hs) he
    · exact hk _ h hl (kp_t hs) he
  · cases h
theorem kp_fgt (t : Nat) : kp_I P K (im_fgt t) := fun fr k g0 r hl hs he hk h => by
  unfold im_fgt at h
  split at h
  · rename_i e
    rw [e] at hs
    split at h
    · exact hk _ h hl (kp_t hs) he
    · exact hk _ h hl (kp_t hs) he
  · cases h
theorem kp_fle (t : Nat) : kp_I P K (im_fle t) := fun fr k g0 r hl hs he hk h => by
  unfold im_fle at h
  split at h
  · rename_i e
    rw [e] at hs
    split at h
    · exact hk _ h hl (kp_t hs) he
    · exact hk _ h hl (kp_t hs) he
  · cases h
theorem kp_ceq (t : Nat) : kp_I P K (im_ceq t) := fun fr k g0 r hl hs he hk h => by
  unfold im_ceq at h
  split at h
  · rename_i e
    rw [e] at hs
    split at h
    · exact hk _ h hl (kp_t (kp_t hs)) he
    · exact hk _ h hl (kp_t (kp_t hs)) he
  · cases h
theorem kp_cne (t : Nat) : kp_I P K (im_cne t) := fun fr k g0 r hl hs he hk h => by
  unfold im_cne at h
  split at h
  · rename_i e
    rw [e] at hs
    split at h
    · exact hk _ h hl (kp_t (kp_t hs)) he
    · exact hk _ h hl (kp_t (kp_t hs)) he
  · cases h
theorem kp_clt (t : Nat) : kp_I P K (im_clt t) := fun fr k g0 r hl hs he hk h => by
  unfold im_clt at h
  split at h
  · rename_i e
    rw [e] at hs
    split at h
    · exact hk _ h hl (kp_t (kp_t hs)) he
    · exact hk _ h hl (kp_t (kp_t hs)) he
  · cases h
theorem kp_cge (t : Nat) : kp_I P K (im_cge t) := fun fr k g0 r hl hs he hk h => by
  unfold im_cge at h
  split at h
  · rename_i e
    rw [e] at hs
    split at h
    · exact hk _ h hl (kp_t (kp_t hs)) he
    · exact hk _ h hl (kp_t (kp_t hs)) he
  · cases h
theorem kp_cgt (t : Nat) : kp_I P K (im_cgt t) := fun fr k g0 r hl hs he hk h => by
  unfold im_cgt at h
  split at h
  · rename_i e
    rw [e] at hs
    split at h
    · exact hk _ h hl (kp_t (kp_t hs)) he
    · exact hk _ h hl (kp_t (kp_t hs)) he
  · cases h
theorem kp_cle (t : Nat) : kp_I P K (im_cle t) := fun fr k g0 r hl hs he hk h => by
  unfold im_cle at h
  split at h
  · rename_i e
    rw [e] at hs
    split at h
    · exact hk _ h hl (kp_t (kp_t hs)) he
    · exact hk _ h hl (kp_t (kp_t hs)) he
  · cases h
theorem kp_nu (t : Nat) : kp_I P K (im_nu t) := fun fr k g0 r hl hs he hk h => by
  unfold im_nu at h
  split at h
  · rename_i e
    rw [e] at hs
    have h := kp_g h
    split at h
    · exact hk _ h hl (kp_t hs) he
    · exact hk _ h hl (kp_t hs) he
  · cases h
theorem kp_nn (t : Nat) : kp_I P K (im_nn t) := fun fr k g0 r hl hs he hk h => by
  unfold im_nn at h
  split at h
  · rename_i e
    rw [e] at hs
    have h := kp_g h
    split at h
    · exact hk _ h hl (kp_t hs) he
    · exact hk _ h hl (kp_t hs) he
  · cases h
theorem kp_an (t : Nat) : kp_I P K (im_an t) := fun fr k g0 r hl hs he hk h => by
  unfold im_an at h
  split at h
  · rename_i e
    rw [e] at hs
    have h := kp_g (kp_g (kp_g h))
    split at h
    · exact hk _ h hl (kp_t (kp_t hs)) he
    · exact hk _ h hl (kp_t (kp_t hs)) he
  · cases h
theorem kp_sw {g0 : am_S} {r : am_O × am_S} {kk : Nat → am_R} : ∀ (ts : List Nat) (x lo : Int32) (d : Nat), am_sw x lo d kk ts = some r → (∀ t, kk t = some r → kp_eq K g0 r.2) → kp_eq K g0 r.2 := by
  intro ts
  induction ts with
  | nil => intro x lo d h hk; exact hk d h
  | cons t ts ih =>
    intro x lo d h hk
    unfold am_sw at h
    split at h
    · exact hk t h
    · exact ih x (lo + 1) d h hk
theorem kp_ts (lo : Int32) (ts : List Nat) (d : Nat) : kp_I P K (im_ts lo ts d) := fun fr k g0 r hl hs he hk h => by
  unfold im_ts at h
  split at h
  · rename_i e
    rw [e] at hs
    exact kp_sw ts _ _ _ h (fun t ht => hk _ ht hl (kp_t hs) he)
  · cases h
theorem kp_gi (f j : Nat) : kp_I P K (im_gi f j) := fun fr k g0 r hl hs he hk h => by
  unfold im_gi at h
  split at h
  · rename_i e
    rw [e] at hs
    exact hk _ (kp_gr (kp_g h)) hl (kp_c rfl (kp_t hs)) he
  · cases h
theorem kp_gf (f j n : Nat) (hn : P n = true) : kp_I P K (im_gf f j n) := fun fr k g0 r hl hs he hk h => by
  unfold im_gf at h
  split at h
  · rename_i e
    rw [e] at hs
    exact hk _ (kp_gr (kp_g h)) hl (kp_c hn (kp_t hs)) he
  · cases h
theorem kp_pi (f j : Nat) (hn : ∀ i, ¬ K f i j) : kp_I P K (im_pi f j) := fun fr k g0 r hl hs he hk h => by
  unfold im_pi at h
  split at h
  · rename_i e
    rw [e] at hs
    exact hk _ (kp_gr (kp_g h)) hl (kp_t (kp_t hs)) (kp_up he (hn _))
  · cases h
theorem kp_pz (f j : Nat) (hn : ∀ i, ¬ K f i j) : kp_I P K (im_pz f j) := fun fr k g0 r hl hs he hk h => by
  unfold im_pz at h
  split at h
  · rename_i e
    rw [e] at hs
    exact hk _ (kp_g (kp_gr (kp_g h))) hl (kp_t (kp_t hs)) (kp_up he (hn _))
  · cases h
theorem kp_ia : kp_I P K (im_ia) := fun fr k g0 r hl hs he hk h => by
  unfold im_ia at h
  split at h
  · rename_i e
    rw [e] at hs
    exact hk _ (kp_g (kp_gr (kp_g h))) hl (kp_c rfl (kp_t (kp_t hs))) he
  · cases h
theorem kp_ba : kp_I P K (im_ba) := fun fr k g0 r hl hs he hk h => by
  unfold im_ba at h
  split at h
  · rename_i e
    rw [e] at hs
    exact hk _ (kp_g (kp_gr (kp_g h))) hl (kp_c rfl (kp_t (kp_t hs))) he
  · cases h
theorem kp_la : kp_I P K (im_la) := fun fr k g0 r hl hs he hk h => by
  unfold im_la at h
  split at h
  · rename_i e
    rw [e] at hs
    exact hk _ (kp_g (kp_gr (kp_g h))) hl (kp_c rfl (kp_t (kp_t hs))) he
  · cases h
theorem kp_aa (h5 : P 5 = true) (ha : ∀ f, P f = true → am_ak f = 4 → P (am_af f) = true) : kp_I P K im_aa := fun fr k g0 r hl hs he hk h => by
  unfold im_aa at h
  split at h
  · rename_i e
    rw [e] at hs
    split at h
    · exact hk _ (kp_g (kp_gr h)) hl (kp_c h5 (kp_t (kp_t hs))) he
    · rename_i e4
      exact hk _ (kp_g (kp_gr h)) hl (kp_c (ha _ (kp_h (kp_t hs)) e4) (kp_t (kp_t hs))) he
    · cases h
  · cases h
theorem kp_si (hn : ∀ f i j, P f = true → 1 ≤ am_ak f → ¬ K f i j) : kp_I P K (im_si) := fun fr k g0 r hl hs he hk h => by
  unfold im_si at h
  split at h
  · rename_i e
    rw [e] at hs
    have hb := Nat.eq_of_beq_eq_true (kp_gb h)
    exact hk _ (kp_g (kp_gr (kp_g h))) hl (kp_t (kp_t (kp_t hs))) (kp_up he (hn _ _ _ (kp_h (kp_t (kp_t hs))) (by omega)))
  · cases h
theorem kp_sb (hn : ∀ f i j, P f = true → 1 ≤ am_ak f → ¬ K f i j) : kp_I P K (im_sb) := fun fr k g0 r hl hs he hk h => by
  unfold im_sb at h
  split at h
  · rename_i e
    rw [e] at hs
    have hb := Nat.eq_of_beq_eq_true (kp_gb h)
    exact hk _ (kp_g (kp_g (kp_gr (kp_g h)))) hl (kp_t (kp_t (kp_t hs))) (kp_up he (hn _ _ _ (kp_h (kp_t (kp_t hs))) (by omega)))
  · cases h
theorem kp_sl (hn : ∀ f i j, P f = true → 1 ≤ am_ak f → ¬ K f i j) : kp_I P K (im_sl) := fun fr k g0 r hl hs he hk h => by
  unfold im_sl at h
  split at h
  · rename_i e
    rw [e] at hs
    have hb := Nat.eq_of_beq_eq_true (kp_gb h)
    exact hk _ (kp_g (kp_gr (kp_g h))) hl (kp_t (kp_t (kp_t hs))) (kp_up he (hn _ _ _ (kp_h (kp_t (kp_t hs))) (by omega)))
  · cases h
theorem kp_sa (hn : ∀ f i j, P f = true → 1 ≤ am_ak f → ¬ K f i j) : kp_I P K (im_sa) := fun fr k g0 r hl hs he hk h => by
  unfold im_sa at h
  split at h
  · rename_i e
    rw [e] at hs
    have hb := Nat.eq_of_beq_eq_true (Bool.and_eq_true_iff.mp (kp_gb h)).2
    exact hk _ (kp_g (kp_g (kp_gr (kp_g h)))) hl (kp_t (kp_t (kp_t hs))) (kp_up he (hn _ _ _ (kp_h (kp_t (kp_t hs))) (by omega)))
  · cases h
theorem kp_le : kp_I P K (im_le) := fun fr k g0 r hl hs he hk h => by
  unfold im_le at h
  split at h
  · rename_i e
    rw [e] at hs
    exact hk _ (kp_gr (kp_g h)) hl (kp_c rfl (kp_t hs)) he
  · cases h
theorem kp_ri : kp_I P K im_ri := fun fr k g0 r hl hs he hk h => by
  unfold im_ri at h
  split at h
  · cases h; exact he
  · cases h
theorem kp_ra : kp_I P K im_ra := fun fr k g0 r hl hs he hk h => by
  unfold im_ra at h
  split at h
  · cases h; exact he
  · cases h
theorem kp_rv : kp_I P K im_rv := fun fr k g0 r hl hs he hk h => by
  unfold im_rv at h
  split at h
  · cases h; exact he
  · cases h
theorem kp_rz : kp_I P K im_rz := fun fr k g0 r hl hs he hk h => by
  unfold im_rz at h
  split at h
  · have h := kp_g h
    cases h; exact he
  · cases h
theorem kp_th (e : Nat) : kp_I P K (im_th e) := fun fr k g0 r hl hs he hk h => by
  unfold im_th at h
  split at h
  · cases h; exact he
  · cases h
theorem kp_trans {g0 g g' : am_S} (h : kp_eq K g0 g) (h' : kp_eq K g g') : kp_eq K g0 g' := fun f i j hk => (h' f i j hk).trans (h f i j hk)
theorem kp_bI {g0 : am_S} {r : am_O × am_S} {c : am_R} {kk : Int32 → am_S → am_R} (h : am_bI c kk = some r) (hc : ∀ r, c = some r → kp_eq K g0 r.2) (hk : ∀ v g, kp_eq K g0 g → kk v g = some r → kp_eq K g0 r.2) : kp_eq K g0 r.2 := by
  unfold am_bI at h
  split at h
  · exact hk _ _ (hc _ rfl) h
  · cases h; exact hc _ rfl
  · cases h
theorem kp_bV {g0 : am_S} {r : am_O × am_S} {c : am_R} {kk : am_S → am_R} (h : am_bV c kk = some r) (hc : ∀ r, c = some r → kp_eq K g0 r.2) (hk : ∀ g, kp_eq K g0 g → kk g = some r → kp_eq K g0 r.2) : kp_eq K g0 r.2 := by
  unfold am_bV at h
  split at h
  · exact hk _ (hc _ rfl) h
  · cases h; exact hc _ rfl
  · cases h
theorem kp_bA {f : Nat} {g0 : am_S} {r : am_O × am_S} {c : am_R} {kk : Int32 → am_S → am_R} (h : am_bA f c kk = some r) (hc : ∀ r, c = some r → kp_eq K g0 r.2) (hk : ∀ v g, kp_eq K g0 g → kk v g = some r → kp_eq K g0 r.2) : kp_eq K g0 r.2 := by
  unfold am_bA at h
  split at h
  · exact hk _ _ (hc _ rfl) (kp_g h)
  · cases h; exact hc _ rfl
  · cases h
theorem kp_vI (f n : Nat) {F : am_C} (hf : P f = true) (hF : kp_C P K F) : kp_I P K (im_vI f n F) := fun fr k g0 r hl hs he hk h => by
  unfold im_vI at h
  split at h
  · rename_i e
    have hd := kp_dt (n := n) hs
    rw [e] at hd
    exact kp_bI (kp_gr (kp_g h)) (fun r hr => kp_trans he (hF _ _ _ (kp_c (x := Sum.inr (Sum.inr (f, _))) hf (kp_tk hs)) hr)) (fun v g hg hx => hk _ hx hl (kp_c rfl (kp_t hd)) hg)
  · cases h
theorem kp_vV (f n : Nat) {F : am_C} (hf : P f = true) (hF : kp_C P K F) : kp_I P K (im_vV f n F) := fun fr k g0 r hl hs he hk h => by
  unfold im_vV at h
  split at h
  · rename_i e
    have hd := kp_dt (n := n) hs
    rw [e] at hd
    exact kp_bV (kp_gr (kp_g h)) (fun r hr => kp_trans he (hF _ _ _ (kp_c (x := Sum.inr (Sum.inr (f, _))) hf (kp_tk hs)) hr)) (fun g hg hx => hk _ hx hl (kp_t hd) hg)
  · cases h
theorem kp_vA (q f n : Nat) {F : am_C} (hq : P q = true) (hf : P f = true) (hF : kp_C P K F) : kp_I P K (im_vA q f n F) := fun fr k g0 r hl hs he hk h => by
  unfold im_vA at h
  split at h
  · rename_i e
    have hd := kp_dt (n := n) hs
    rw [e] at hd
    exact kp_bA (kp_gr (kp_g h)) (fun r hr => kp_trans he (hF _ _ _ (kp_c (x := Sum.inr (Sum.inr (f, _))) hf (kp_tk hs)) hr)) (fun v g hg hx => hk _ hx hl (kp_c hq (kp_t hd)) hg)
  · cases h
theorem kp_sI (n : Nat) {F : am_C} (hF : kp_C P K F) : kp_I P K (im_sI n F) := fun fr k g0 r hl hs he hk h => by
  unfold im_sI at h
  exact kp_bI (kp_g h) (fun r hr => kp_trans he (hF _ _ _ (kp_tk hs) hr)) (fun v g hg hx => hk _ hx hl (kp_c rfl (kp_dt hs)) hg)
end
def cP (f : Nat) : Bool := Nat.blt f 24
def cK (f _ _ : Nat) : Prop := 24 ≤ f
def mP (f : Nat) : Bool := Nat.ble 24 f && Nat.blt f 45
def mK (f _ j : Nat) : Prop := f < 24 ∨ 45 ≤ f ∨ (f = 24 ∧ j = 0)
def mK2 (f _ _ : Nat) : Prop := f < 24 ∨ 45 ≤ f
theorem mK_mono (f i j : Nat) (h : mK2 f i j) : mK f i j := by
  rcases h with z | z
  · exact Or.inl z
  · exact Or.inr (Or.inl z)
theorem cP_lt {f : Nat} (h : cP f = true) : f < 24 := Nat.blt_eq.mp h
theorem mP_lt {f : Nat} (h : mP f = true) : 24 ≤ f ∧ f < 45 := by
  have := Bool.and_eq_true_iff.mp h
  exact ⟨Nat.ble_eq.mp this.1, Nat.blt_eq.mp this.2⟩
theorem cS (f i j : Nat) (h : cP f = true) (_ : 1 ≤ am_ak f) : ¬ cK f i j := fun z => by
  have := cP_lt h
  have z : 24 ≤ f := z
  omega
theorem cA (f : Nat) (h : cP f = true) (h4 : am_ak f = 4) : cP (am_af f) = true := by
  have := cP_lt h
  exact (by decide : ∀ f, f < 24 → am_ak f = 4 → cP (am_af f) = true) f this h4
theorem mS (f i j : Nat) (h : mP f = true) (ha : 1 ≤ am_ak f) : ¬ mK f i j := fun z => by
  have := mP_lt h
  rcases z with z | z | ⟨z, -⟩
  · omega
  · omega
  · subst z
    exact absurd ha (by decide)
theorem mS2 (f i j : Nat) (h : mP f = true) (ha : 1 ≤ am_ak f) : ¬ mK2 f i j := fun z => mS f i j h ha (mK_mono f i j z)
